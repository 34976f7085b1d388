/-! ===== two worlds side by side ===== -/
theorem ap_l {α : Type} {a b : List α} {i : Nat} {x : α} (h : a[i]? = some x) : (a ++ b)[i]? = some x := by
  rw [List.getElem?_append_left (List.getElem?_eq_some_iff.mp h).1]
  exact h
theorem ap_r {α : Type} {a b : List α} {i : Nat} {x : α} (h : b[i]? = some x) : (a ++ b)[a.length + i]? = some x := by
  rw [List.getElem?_append_right (Nat.le_add_right _ _), Nat.add_sub_cancel_left]
  exact h
theorem va_P.l {D : va_G} {cl : List vw_C} {a b : va_W} {H : Heap} (h : va_P D cl (a ++ b) H) : va_P D cl a H := fun k q hk => h k q (ap_l hk)
theorem va_P.r {D : va_G} {cl : List vw_C} {a b : va_W} {H : Heap} (h : va_P D cl (a ++ b) H) : va_P D cl b H := fun k q hk => h _ q (ap_r hk)
theorem va_P.sw {D : va_G} {cl : List vw_C} {a b : va_W} {H : Heap} (h : va_P D cl (a ++ b) H) : va_P D cl (b ++ a) H := va_P.app h.r h.l
theorem va_D.l {A : Nat → Prop} {a b : va_W} (h : va_D A (a ++ b)) : va_D A a := ⟨fun i j x y hi hj e => h.1 i j x y (ap_l hi) (ap_l hj) e, fun k q hk => h.2 k q (ap_l hk)⟩
theorem va_D.r {A : Nat → Prop} {a b : va_W} (h : va_D A (a ++ b)) : va_D A b := ⟨fun i j x y hi hj e => Nat.add_left_cancel (h.1 _ _ x y (ap_r hi) (ap_r hj) e), fun k q hk => h.2 _ q (ap_r hk)⟩
theorem va_D.ap {A : Nat → Prop} {a b : va_W} (h : va_D A (a ++ b)) {i j : Nat} {x y : Nat × va_E} (hi : a[i]? = some x) (hj : b[j]? = some y) : x.1 ≠ y.1 := by
  intro e
  have h1 := h.1 _ _ x y (ap_l hi) (ap_r hj) e
  have h2 := (List.getElem?_eq_some_iff.mp hi).1
  omega
theorem va_D.sw {A : Nat → Prop} {a b : va_W} (h : va_D A (a ++ b)) : va_D A (b ++ a) := va_D.app h.r h.l (fun i j x y hi hj e => h.ap hj hi e.symm)
section LW
variable {p : Program} {l : Launch} {e : Env} {R : Room} {s : State} {m : MethodId} {args : Array Value} {below : List Frame} {meth : Method} {c : Code} {H : Heap} {locs : List Loc} {cells slots : Nat} {Q : State → Prop}
variable {y : MethodName} {bytes cc : ByteArray} {maxL nL n index : Nat} {ret : Option FieldType} {ws : List Cond} {rm : Room} {Ts : List Cond} {own C : String} {b : Addr} {As rest st0 : List Value} {pc : Nat} {ls : Array Slot} {E : Ev} {A : Nat → Prop}
/-- a call that writes in the first of two worlds -/
theorem lw_Vi {S : Type} {post : Int32 → S → Prop} {w1 : S → va_W} {wc wr : va_W} (S0 : CallFix p m c cc nL s args Ts own)
    (hM : Met l y ws rm (MtP E H.size (.ref b :: As) wc) (va_Qi post (MtB E (va_A wc H.size) w1) (va_A wc H.size)) 0 0 (va_A wc H.size)) (cw : CallW R s args own C index y bytes maxL ret ws rm 0 0 n)
    (hE : EN E A s s.heap) (hS : va_S A s.heap H locs) (hA : ∀ q, s.heap.size ≤ q → A q) (hP : va_P (eD E) vwCl (wc ++ wr) H) (hD : va_D A (wc ++ wr)) {ci : Nat} {fs : List Value} {r : vw_C} (hc : vwCl[ci]? = some r) (he : wc[0]? = some (b, .inr (ci, fs))) (hrC : r.1 = C)
    (hn : As.length = n) (hsize : ls.size = nL) (hst : st0 = As.reverse ++ .ref b :: rest) (hW : (rest.map fun v => v.category).sum ≤ 8) (hdg : decode cc pc = .ok (.invokevirtual index, 3)) (hf : cells ≤ R.cells ∧ slots ≤ R.slots)
    (kk : ∀ (r : Int32) (u : S) (H1 : Heap) (locs1 : List Loc), post r u → va_P (eD E) vwCl (w1 u ++ wr) H1 → va_D A (w1 u ++ wr) → va_S A s.heap H1 locs1 → W p l e R s m args below meth c H1 locs1 cells slots Q (F0 m (pc + 3) ls (.int r :: rest))) : W p l e R s m args below meth c H locs cells slots Q (F0 m pc ls st0) := by
  subst hrC
  have hPc : va_P (eD E) vwCl wc H := hP.l
  have hDc := hD.l
  have hFc : ∀ q, va_A wc H.size q → A q := by
    intro q h
    rcases h with ⟨k, z, h⟩ | h
    · exact hDc.2 k (q, z) h
    · exact hA q (Nat.le_trans hS.1 h)
  refine va_calli (va_runV S0 hM cw ⟨MtP.blind, va_recv hE.1 hPc hc he, fun U hU hW => ⟨rfl, by rw [hU], by rw [hU]; exact EN.warm hW ((hE.kept hS.2.1).narrow hFc), by rw [hU]; exact hPc, hDc.weaken (fun _ _ _ _ => trivial)⟩⟩ rfl hn hsize hst (lv_room hW) hdg hf) hS (fun q _ h => hFc q h) hFc (fun r u t H1 locs1 ht hvm hw hB hz1 hk1 hS1 => ?_)
  obtain ⟨hP1, hD1⟩ := hB
  rw [ht] at hP1
  have hap : ∀ (k : Nat) (q : Nat × va_E), wr[k]? = some q → ¬ va_A wc H.size q.1 := by
    intro k q hq h
    rcases h with ⟨k2, z, h⟩ | h
    · exact hD.ap h hq rfl
    · exact absurd (hP.r k q hq).lt (Nat.not_lt.mpr h)
  exact kk r u H1 locs1 hw (va_P.app hP1 (hP.r.kept (fun k q hq => hk1 q.1 (hP.r k q hq).lt (hap k q hq)))) (va_D.app (hD1.weaken (fun k q _ h => hFc q.1 h)) hD.r (fun i j x z hx hz hxz => hap j z hz (hxz ▸ hD1.2 i x hx))) hS1
end LW
/-- a world that a method may be called on, and is one of the kind again -/
def CalM {τ : Type} (l : Launch) (y : MethodName) (ws : List Cond) (rm : Room) (E : Ev) (q ci : Nat) (As : List Value) (TW : τ → va_W → Prop) (Po : τ → Int32 → τ → Prop) : Prop :=
  ∀ (sz : Nat) (X : τ) (w : va_W), TW X w → (∃ fs : List Value, w[0]? = some (q, .inr (ci, fs))) ∧ ∃ (S : Type) (post : Int32 → S → Prop) (w1 : S → va_W), Met l y ws rm (MtP E sz (.ref q :: As) w) (va_Qi post (MtB E (va_A w sz) w1) (va_A w sz)) 0 0 (va_A w sz) ∧ ∀ (r : Int32) (u : S), post r u → ∃ X' : τ, TW X' (w1 u) ∧ Po X r X'
def CalR {τ : Type} (l : Launch) (y : MethodName) (ws : List Cond) (rm : Room) (E : Ev) (A : Nat → Prop) (q ci : Nat) (As : List Value) (TW : τ → va_W → Prop) (Po : τ → Int32 → Prop) : Prop :=
  ∀ (X : τ) (w : va_W), TW X w → ∃ (wc : va_W) (is : List Nat) (fs : List Value) (post : Int32 → Prop), is.filterMap (fun i => w[i]?) = wc ∧ wc[0]? = some (q, .inr (ci, fs)) ∧ Met l y ws rm (RdP E A (.ref q :: As) wc) (vp_Si post) 0 0 (fun _ => False) ∧ ∀ r, post r → Po X r
abbrev TgX : Type := Vf × Vf × Vf × Vf × Vf
def TgW (E : Ev) (q : Nat) (X : TgX) (w : va_W) : Prop := ∃ (a : Nat → Nat) (cz0 : Nat) (cz1 : Nat) (rt : Value) (rp : Value) (aq : Nat → Nat) (vq : Vf) (ap : Nat → Nat) (as_ : Nat → Nat) (ai : Nat → Nat) (bi : Nat → Nat), w = tgL E a X.1 cz0 cz1 rt rp aq vq ap X.2.1 as_ X.2.2.1 ai X.2.2.2.1 bi X.2.2.2.2 ∧ a 99 = q ∧ TgA X.1 X.2.1 vq X.2.2.1 X.2.2.2.1 X.2.2.2.2
def MdW (E : Ev) (q : Nat) (vm : Vf) (w : va_W) : Prop := ∃ am : Nat → Nat, w = mdL E am vm ∧ am 0 = q ∧ MdI vm
def R3 (v vm : Vf) : Prop := ((v 0 = vm 31 ∧ v 1 0 = vm 32 0) ∧ (∀ j : Nat, (j : Int) < (vm 32 0).toInt → 0 ≤ (vm 31 j).toInt)) ∧ (v 2 0).toInt = (vm 33 0).toInt
def RB5 (v vm : Vf) : Prop := v 12 0 = vm 75 0 ∧ v 401 0 = vm 67 0 ∧ (∀ j : Nat, (j : Int) < (vm 75 0).toInt → v 11 j = vm 76 j ∧ 0 ≤ (vm 76 j).toInt ∧ (vm 76 j).toInt ≤ 4) ∧ (∀ j : Nat, (j : Int) < (vm 67 0).toInt → (v 402 j = vm 68 j ∧ v 403 j = vm 69 j ∧ v 404 j = vm 70 j) ∧ (vm 68 j).toInt < (vm 0 0).toInt * (vm 1 0).toInt)
def RP5 (vp vm : Vf) : Prop := RqP vm vp ∧ okM vm
def RS5 (vs vm : Vf) : Prop := RqL vm vs ∧ stI vm
def imL (w : Vf) (f : Nat → Int32) (B : Nat) : Prop := w 0 0 = f (B + 33) ∧ (∀ j, j < 3 → w 1 j = f (B + 30 + j)) ∧ (∀ j, j < 24 → w 2 j = f (B + j)) ∧ (∀ j, j < 6 → w 3 j = f (B + 24 + j)) ∧ w 4 0 = f (B + 34) ∧ w 5 0 = f (B + 35) ∧ w 6 0 = f (B + 36) ∧ w 7 0 = f (B + 37)
def imT (vm : Vf) (B : Nat) : Prop := (∀ m : Nat, (m : Int) < (vm 4 0).toInt → 0 ≤ (vm 77 (B + 30 + m)).toInt ∧ (vm 77 (B + 30 + m)).toInt < (vm 5 m).toInt) ∧ ((vm 0 0).toInt = 0 ∨ (vm 77 (B + 34)).toInt < (vm 0 0).toInt * (vm 1 0).toInt)
def RI5 (B k : Nat) (w vm : Vf) : Prop := ((w 8 0).toInt = 0 ↔ (vm 78 k).toInt = 0) ∧ ((vm 78 k).toInt ≠ 0 → imL w (vm 77) B ∧ imT vm B)
abbrev kp (l : List Nat) (v w : Vf) : Prop := ∀ t ∈ l, w t = v t
abbrev lNS : List Nat := [0, 1, 2, 3, 4, 5, 6, 7, 8, 9, 10, 11, 12, 13, 14, 15, 16, 17, 18, 19, 20, 21, 22, 31, 32, 33, 67, 68, 69, 70, 75, 76, 77, 78]
abbrev lKM : List Nat := [0, 1, 2, 3, 4, 5, 6, 7, 8, 9, 10, 11, 12, 13, 14, 15, 16, 17, 18, 19, 20, 21, 22, 23, 25, 26, 27, 28, 29, 30, 31, 32, 33, 67, 68, 69, 70, 75, 76, 77, 78]
abbrev lKV : List Nat := [0, 1, 2, 11, 12, 401, 402, 403, 404]
def Rl (X : TgX) (vm : Vf) : Prop := R3 X.1 vm ∧ RB5 X.1 vm ∧ RP5 X.2.1 vm ∧ RS5 X.2.2.1 vm ∧ RI5 0 0 X.2.2.2.1 vm ∧ RI5 40 1 X.2.2.2.2 vm
def LwJ (E : Ev) (A : Nat → Prop) (qt qm : Nat) (X : TgX) (vm : Vf) (H : Heap) : Prop := ∃ wt wm : va_W, TgW E qt X wt ∧ MdW E qm vm wm ∧ va_P (eD E) vwCl (wt ++ wm) H ∧ va_D A (wt ++ wm)
def LwI (E : Ev) (A : Nat → Prop) (qt qm : Nat) (H : Heap) : Prop := ∃ (X : TgX) (vm : Vf), Rl X vm ∧ LwJ E A qt qm X vm H
def LwC (p : Program) (s : State) (m : MethodId) (c : Code) (b L : Nat) (xs : Nat → Int32) (E : Ev) (A : Nat → Prop) : Prop :=
  CallFix p m c cL_law 4 s #[Value.ref b] [] RL ∧ EN E A s s.heap ∧ (∀ q, s.heap.size ≤ q → A q) ∧ va_X b L xs s s.heap ∧ b < s.heap.size ∧ ¬ A b ∧ L ≤ 448 ∧ ∀ w ∈ lw_tbl, w.before #[Value.ref b] s = true
abbrev lwl (b qt qm : Nat) (i : Int32) : List (Nat × Value) := [(0, .ref b), (1, .ref qt), (2, .ref qm), (3, .int i)]
section LC
variable {p : Program} {l : Launch} {e : Env} {s : State} {m : MethodId} {below : List Frame} {meth : Method} {c : Code} {H : Heap} {locs : List Loc} {cells slots : Nat} {Q : State → Prop}
variable {y : MethodName} {bytes : ByteArray} {maxL n index : Nat} {ret : Option FieldType} {ws : List Cond} {rm : Room} {b L qt qm : Nat} {xs : Nat → Int32} {As rest st0 : List Value} {pc : Nat} {ls : Array Slot} {E : Ev} {A : Nat → Prop}
theorem lw_arg (C : LwC p s m c b L xs E A) (hS : va_S A s.heap H locs) {i v : Int32} (hl : lv_has ls 4 (lwl b qt qm i)) (hi : 0 ≤ i.toInt ∧ i.toInt + 7 ≤ L) {k : Int} (hk : Int32.ofInt k = v) (hv : 0 ≤ v.toInt ∧ v.toInt ≤ 6) (d0 : decode cL_law pc = .ok (.aload_n 0, 1)) (d1 : decode cL_law (pc + 1) = .ok (.iload_n 3, 1)) (d2 : decode cL_law (pc + 1 + 1) = .ok (.iconst k, 1)) (d3 : decode cL_law (pc + 1 + 1 + 1) = .ok (.iadd, 1)) (d4 : decode cL_law (pc + 1 + 1 + 1 + 1) = .ok (.iaload, 1))
    (kk : W p l e room_1 s m #[Value.ref b] below meth c H locs cells slots Q (F0 m (pc + 1 + 1 + 1 + 1 + 1) ls (.int (xs (i + v).toNatClampNeg) :: rest))) : W p l e room_1 s m #[Value.ref b] below meth c H locs cells slots Q (F0 m pc ls rest) := by
  obtain ⟨⟨hx, hb, hml, hown, hts⟩, hE, hA, hX, hbl, hbA, hL, hw⟩ := C
  refine lv_aload_n hx hb d0 rfl (lv_at hl 0 rfl) ?_
  refine lv_iload_n hx hb d1 rfl (lv_at hl 3 rfl) ?_
  refine lv_iconst (v := v) hx hb d2 hk ?_
  refine lv_iadd hx hb d3 ?_
  have e9 : (i + v).toInt = i.toInt + v.toInt := i_add rfl (by omega)
  exact va_sld hx hb hX hbl hbA hS (i_in (by omega) (by omega)) d4 kk
theorem lw_arg6 (C : LwC p s m c b L xs E A) (hS : va_S A s.heap H locs) {i v : Int32} (hl : lv_has ls 4 (lwl b qt qm i)) (hi : 0 ≤ i.toInt ∧ i.toInt + 7 ≤ L) {k : Int} (hk : (Int8.ofInt k).toInt32 = v) (hv : 0 ≤ v.toInt ∧ v.toInt ≤ 6) (d0 : decode cL_law pc = .ok (.aload_n 0, 1)) (d1 : decode cL_law (pc + 1) = .ok (.iload_n 3, 1)) (d2 : decode cL_law (pc + 1 + 1) = .ok (.bipush k, 2)) (d3 : decode cL_law (pc + 1 + 1 + 2) = .ok (.iadd, 1)) (d4 : decode cL_law (pc + 1 + 1 + 2 + 1) = .ok (.iaload, 1))
    (kk : W p l e room_1 s m #[Value.ref b] below meth c H locs cells slots Q (F0 m (pc + 1 + 1 + 2 + 1 + 1) ls (.int (xs (i + v).toNatClampNeg) :: rest))) : W p l e room_1 s m #[Value.ref b] below meth c H locs cells slots Q (F0 m pc ls rest) := by
  obtain ⟨⟨hx, hb, hml, hown, hts⟩, hE, hA, hX, hbl, hbA, hL, hw⟩ := C
  refine lv_aload_n hx hb d0 rfl (lv_at hl 0 rfl) ?_
  refine lv_iload_n hx hb d1 rfl (lv_at hl 3 rfl) ?_
  refine lv_bipush (v := v) hx hb d2 hk ?_
  refine lv_iadd hx hb d3 ?_
  have e9 : (i + v).toInt = i.toInt + v.toInt := i_add rfl (by omega)
  exact va_sld hx hb hX hbl hbA hS (i_in (by omega) (by omega)) d4 kk
theorem lw_tM {X : TgX} {vm : Vf} {Po : TgX → Int32 → TgX → Prop} (C : LwC p s m c b L xs E A) (hS : va_S A s.heap H locs) (I : LwJ E A qt qm X vm H) (hM : CalM l y ws rm E qt 9 As (TgW E qt) Po) (cw : CallW room_1 s #[Value.ref b] RL RX9 index y bytes maxL ret ws rm 0 0 n)
    (hn : As.length = n) (hsize : ls.size = 4) (hst : st0 = As.reverse ++ .ref qt :: rest) (hW : (rest.map fun v => v.category).sum ≤ 8) (hdg : decode cL_law pc = .ok (.invokevirtual index, 3)) (hf : cells ≤ room_1.cells ∧ slots ≤ room_1.slots)
    (kk : ∀ (r : Int32) (X' : TgX) (H1 : Heap) (locs1 : List Loc), Po X r X' → va_S A s.heap H1 locs1 → LwJ E A qt qm X' vm H1 → W p l e room_1 s m #[Value.ref b] below meth c H1 locs1 cells slots Q (F0 m (pc + 3) ls (.int r :: rest))) : W p l e room_1 s m #[Value.ref b] below meth c H locs cells slots Q (F0 m pc ls st0) := by
  obtain ⟨wt, wm, ht, hm, hP, hD⟩ := I
  obtain ⟨⟨fs, hfs⟩, S, post, w1, hMet, hpo⟩ := hM H.size X wt ht
  exact lw_Vi C.1 hMet cw C.2.1 hS C.2.2.1 hP hD rfl hfs rfl hn hsize hst hW hdg hf (fun r u H1 locs1 h hP hD hS => by
    obtain ⟨X', h1, h2⟩ := hpo r u h
    exact kk r X' H1 locs1 h2 hS ⟨w1 u, wm, h1, hm, hP, hD⟩)
theorem lw_mM {X : TgX} {vm : Vf} {Po : Vf → Int32 → Vf → Prop} (C : LwC p s m c b L xs E A) (hS : va_S A s.heap H locs) (I : LwJ E A qt qm X vm H) (hM : CalM l y ws rm E qm 10 As (MdW E qm) Po) (cw : CallW room_1 s #[Value.ref b] RL RX10 index y bytes maxL ret ws rm 0 0 n)
    (hn : As.length = n) (hsize : ls.size = 4) (hst : st0 = As.reverse ++ .ref qm :: rest) (hW : (rest.map fun v => v.category).sum ≤ 8) (hdg : decode cL_law pc = .ok (.invokevirtual index, 3)) (hf : cells ≤ room_1.cells ∧ slots ≤ room_1.slots)
    (kk : ∀ (r : Int32) (vm' : Vf) (H1 : Heap) (locs1 : List Loc), Po vm r vm' → va_S A s.heap H1 locs1 → LwJ E A qt qm X vm' H1 → W p l e room_1 s m #[Value.ref b] below meth c H1 locs1 cells slots Q (F0 m (pc + 3) ls (.int r :: rest))) : W p l e room_1 s m #[Value.ref b] below meth c H locs cells slots Q (F0 m pc ls st0) := by
  obtain ⟨wt, wm, ht, hm, hP, hD⟩ := I
  obtain ⟨⟨fs, hfs⟩, S, post, w1, hMet, hpo⟩ := hM H.size vm wm hm
  exact lw_Vi C.1 hMet cw C.2.1 hS C.2.2.1 hP.sw hD.sw rfl hfs rfl hn hsize hst hW hdg hf (fun r u H1 locs1 h hP hD hS => by
    obtain ⟨vm', h1, h2⟩ := hpo r u h
    exact kk r vm' H1 locs1 h2 hS ⟨wt, w1 u, ht, h1, hP.sw, hD.sw⟩)
theorem lw_tR {X : TgX} {vm : Vf} {Po : TgX → Int32 → Prop} (C : LwC p s m c b L xs E A) (hS : va_S A s.heap H locs) (I : LwJ E A qt qm X vm H) (hM : CalR l y ws rm E A qt 9 As (TgW E qt) Po) (cw : CallW room_1 s #[Value.ref b] RL RX9 index y bytes maxL ret ws rm 0 0 n)
    (hn : As.length = n) (hsize : ls.size = 4) (hst : st0 = As.reverse ++ .ref qt :: rest) (hW : (rest.map fun v => v.category).sum ≤ 8) (hdg : decode cL_law pc = .ok (.invokevirtual index, 3)) (hf : cells ≤ room_1.cells ∧ slots ≤ room_1.slots)
    (kk : ∀ r : Int32, Po X r → W p l e room_1 s m #[Value.ref b] below meth c H locs cells slots Q (F0 m (pc + 3) ls (.int r :: rest))) : W p l e room_1 s m #[Value.ref b] below meth c H locs cells slots Q (F0 m pc ls st0) := by
  obtain ⟨wt, wm, ht, hm, hP, hD⟩ := I
  obtain ⟨wc, is, fs, post, his, hfs, hMet, hpo⟩ := hM X wt ht
  exact rd_V C.1 hMet cw (C.2.1.kept hS.2.1) (hP.l.sub is his) rfl hfs rfl hn hsize hst hW hdg hf (fun r h => kk r (hpo r h))
theorem lw_mR {X : TgX} {vm : Vf} {Po : Vf → Int32 → Prop} (C : LwC p s m c b L xs E A) (hS : va_S A s.heap H locs) (I : LwJ E A qt qm X vm H) (hM : CalR l y ws rm E A qm 10 As (MdW E qm) Po) (cw : CallW room_1 s #[Value.ref b] RL RX10 index y bytes maxL ret ws rm 0 0 n)
    (hn : As.length = n) (hsize : ls.size = 4) (hst : st0 = As.reverse ++ .ref qm :: rest) (hW : (rest.map fun v => v.category).sum ≤ 8) (hdg : decode cL_law pc = .ok (.invokevirtual index, 3)) (hf : cells ≤ room_1.cells ∧ slots ≤ room_1.slots)
    (kk : ∀ r : Int32, Po vm r → W p l e room_1 s m #[Value.ref b] below meth c H locs cells slots Q (F0 m (pc + 3) ls (.int r :: rest))) : W p l e room_1 s m #[Value.ref b] below meth c H locs cells slots Q (F0 m pc ls st0) := by
  obtain ⟨wt, wm, ht, hm, hP, hD⟩ := I
  obtain ⟨wc, is, fs, post, his, hfs, hMet, hpo⟩ := hM vm wm hm
  exact rd_V C.1 hMet cw (C.2.1.kept hS.2.1) (hP.r.sub is his) rfl hfs rfl hn hsize hst hW hdg hf (fun r h => kk r (hpo r h))
end LC
def KpX (X X' : TgX) : Prop := kp lKV X.1 X'.1 ∧ X'.2 = X.2
def KpM (vm vm' : Vf) : Prop := kp lKM vm vm' ∧ ∀ j, j < 3 → vm' 24 j = vm 24 j
def KpS (l : List Nat) (X X' : TgX) : Prop := fr l X.2.2.1 X'.2.2.1 ∧ X'.1 = X.1 ∧ X'.2.1 = X.2.1 ∧ X'.2.2.2 = X.2.2.2
def KpV (l : List Nat) (X X' : TgX) : Prop := fr l X.1 X'.1 ∧ X'.2 = X.2
theorem kp.of {l l' : List Nat} {v w : Vf} (h : fr l v w) (hd : ∀ t ∈ l', t ∉ l) : kp l' v w := fun t q => h t (hd t q)
theorem kp.sub {l l' : List Nat} {v w : Vf} (h : kp l v w) (hd : ∀ t ∈ l', t ∈ l) : kp l' v w := fun t q => h t (hd t q)
theorem kp.rf {l : List Nat} {v : Vf} : kp l v v := fun _ _ => rfl
theorem kp.eq {l : List Nat} {v w : Vf} (h : w = v) : kp l v w := by rw [h]; exact kp.rf
theorem r3_kp {v v' vm vm' : Vf} (h1 : kp [0, 1, 2] v v') (h2 : kp [31, 32, 33] vm vm') (h : R3 v vm) : R3 v' vm' := by
  unfold R3 at h ⊢
  rw [h1 0 (by decide), h1 1 (by decide), h1 2 (by decide), h2 31 (by decide), h2 32 (by decide), h2 33 (by decide)]
  exact h
theorem rb_kp {v v' vm vm' : Vf} (h1 : kp [11, 12, 401, 402, 403, 404] v v') (h2 : kp [0, 1, 67, 68, 69, 70, 75, 76] vm vm') (h : RB5 v vm) : RB5 v' vm' := by
  unfold RB5 at h ⊢
  rw [h1 11 (by decide), h1 12 (by decide), h1 401 (by decide), h1 402 (by decide), h1 403 (by decide), h1 404 (by decide), h2 0 (by decide), h2 1 (by decide), h2 67 (by decide), h2 68 (by decide), h2 69 (by decide), h2 70 (by decide), h2 75 (by decide), h2 76 (by decide)]
  exact h
theorem rp_kp {w w' vm vm' : Vf} (h1 : w' = w) (h2 : keepP vm vm') (h : RP5 w vm) : RP5 w' vm' := by
  subst h1
  exact ⟨rqp_fr h2 h.1, okm_fr h2 h.2⟩
abbrev lP22 : List Nat := [0, 1, 2, 3, 4, 5, 6, 7, 8, 9, 10, 11, 12, 13, 14, 15, 16, 17, 18, 19, 20, 21, 22]
theorem kp_keep2 {vm vm' : Vf} (h : kp lP22 vm vm') : keepP vm vm' := fun t ht => by
  refine h t ?_
  have : t = 0 ∨ t = 1 ∨ t = 2 ∨ t = 3 ∨ t = 4 ∨ t = 5 ∨ t = 6 ∨ t = 7 ∨ t = 8 ∨ t = 9 ∨ t = 10 ∨ t = 11 ∨ t = 12 ∨ t = 13 ∨ t = 14 ∨ t = 15 ∨ t = 16 ∨ t = 17 ∨ t = 18 ∨ t = 19 ∨ t = 20 ∨ t = 21 ∨ t = 22 := by omega
  rcases this with rfl | rfl | rfl | rfl | rfl | rfl | rfl | rfl | rfl | rfl | rfl | rfl | rfl | rfl | rfl | rfl | rfl | rfl | rfl | rfl | rfl | rfl | rfl <;> decide
theorem kp_keep {vm vm' : Vf} (h : kp lNS vm vm') : keepP vm vm' := kp_keep2 (h.sub (by decide))
theorem imt_kp {B : Nat} {vm vm' : Vf} (h2 : kp [0, 1, 4, 5, 77] vm vm') (h : imT vm B) : imT vm' B := by
  unfold imT at h ⊢
  rw [h2 0 (by decide), h2 1 (by decide), h2 4 (by decide), h2 5 (by decide), h2 77 (by decide)]
  exact h
theorem ri_kp {B k : Nat} {w w' vm vm' : Vf} (h1 : w' = w) (h2 : kp [0, 1, 4, 5, 77, 78] vm vm') (h : RI5 B k w vm) : RI5 B k w' vm' := by
  subst h1
  refine ⟨by rw [h2 78 (by decide)]; exact h.1, fun q => ?_⟩
  rw [h2 78 (by decide)] at q
  have z := h.2 q
  exact ⟨by rw [h2 77 (by decide)]; exact z.1, imt_kp (h2.sub (by decide)) z.2⟩
theorem sti_kp {vm vm' : Vf} (hM : MdI vm) (h2 : kp [0, 1, 4, 5, 27] vm vm') (h24 : ∀ j, j < 3 → vm' 24 j = vm 24 j) (h : stI vm) : stI vm' := by
  have h4 := hM.1.2.1.1
  refine ⟨fun m hm => ?_, ?_⟩
  · rw [h2 4 (by decide)] at hm
    rw [h24 m (by omega), h2 5 (by decide)]
    exact h.1 m hm
  · rw [h2 0 (by decide), h2 1 (by decide), h2 27 (by decide)]
    exact h.2
theorem rs_kp {w w' vm vm' : Vf} (hM : MdI vm) (h1 : w' = w) (h2 : kp [0, 1, 4, 5, 23, 25, 26, 27, 28, 29, 30] vm vm') (h24 : ∀ j, j < 3 → vm' 24 j = vm 24 j) (h : RS5 w vm) : RS5 w' vm' := by
  subst h1
  obtain ⟨hL, hS⟩ := h
  refine ⟨⟨?_, fun j hj => ?_, ?_, ?_, ?_, ?_, ?_, ?_⟩, sti_kp hM (h2.sub (by decide)) h24 hS⟩
  · rw [h2 23 (by decide)]; exact hL.1
  · rw [h24 j hj]; exact hL.2.1 j hj
  · rw [h2 25 (by decide)]; exact hL.2.2.1
  · rw [h2 26 (by decide)]; exact hL.2.2.2.1
  · rw [h2 27 (by decide)]; exact hL.2.2.2.2.1
  · rw [h2 28 (by decide)]; exact hL.2.2.2.2.2.1
  · rw [h2 29 (by decide)]; exact hL.2.2.2.2.2.2.1
  · rw [h2 30 (by decide)]; exact hL.2.2.2.2.2.2.2
theorem rl_rw {X : TgX} {vm : Vf} (h : Rl X vm) (hM : MdI vm) : RW vm X.2.1 X.2.2.1 := ⟨h.2.2.1.1, h.2.2.2.1.1, h.2.2.2.1.2, hM.1, h.2.2.1.2⟩
theorem rl_k {X X' : TgX} {vm vm' : Vf} (hM : MdI vm) (h1 : KpX X X') (h2 : KpM vm vm') (h : Rl X vm) : Rl X' vm' := by
  obtain ⟨a, b⟩ := h1
  obtain ⟨k, k24⟩ := h2
  obtain ⟨q1, q2, q3, q4, q5, q6⟩ := h
  exact ⟨r3_kp (a.sub (by decide)) (k.sub (by decide)) q1, rb_kp (a.sub (by decide)) (k.sub (by decide)) q2, rp_kp (by rw [b]) (kp_keep (k.sub (by decide))) q3, rs_kp hM (by rw [b]) (k.sub (by decide)) k24 q4, ri_kp (by rw [b]) (k.sub (by decide)) q5, ri_kp (by rw [b]) (k.sub (by decide)) q6⟩
theorem rl_s2 {X X' : TgX} {vm vm' : Vf} (a : X'.1 = X.1) (b : X'.2.1 = X.2.1) (c : X'.2.2.2 = X.2.2.2) (h2 : kp lNS vm vm') (hs : RS5 X'.2.2.1 vm') (h : Rl X vm) : Rl X' vm' := by
  obtain ⟨q1, q2, q3, -, q5, q6⟩ := h
  exact ⟨r3_kp (kp.eq a) (h2.sub (by decide)) q1, rb_kp (kp.eq a) (h2.sub (by decide)) q2, rp_kp b (kp_keep h2) q3, hs, ri_kp (by rw [c]) (h2.sub (by decide)) q5, ri_kp (by rw [c]) (h2.sub (by decide)) q6⟩
/-- calls that change the state alone -/
theorem rl_s {X X' : TgX} {vm vm' : Vf} {l : List Nat} (h1 : KpS l X X') (h2 : kp lNS vm vm') (hs : RS5 X'.2.2.1 vm') (h : Rl X vm) : Rl X' vm' := rl_s2 h1.2.1 h1.2.2.1 h1.2.2.2 h2 hs h
theorem set_eq {x : Int32} {lo hi : Int} {a r a' b q b' : Int32} (h1 : SetP x lo hi a r a') (h2 : SetP x lo hi b q b') (e : a = b) : r.toInt = q.toInt ∧ a' = b' := by
  rcases h1 with ⟨p1, p2, p3⟩ | ⟨p1, p2, p3⟩
  · rcases h2 with ⟨g1, g2, g3⟩ | ⟨g1, g2, g3⟩
    · exact ⟨by omega, by rw [p3, g3, e]⟩
    · omega
  · rcases h2 with ⟨g1, g2, g3⟩ | ⟨g1, g2, g3⟩
    · omega
    · exact ⟨by rw [p2, g2, e], by rw [p3, g3]⟩
theorem prop_eq {h z n m : Int32} {f f' g g' : Nat → Int32} {r q : Int32} (h1 : PropP h z n f r f') (h2 : PropP h z m g q g') (en : n.toInt = m.toInt) (ef : ∀ j, j < 6 → f j = g j) : r.toInt = q.toInt ∧ ∀ j, j < 6 → f' j = g' j := by
  rcases h1 with ⟨p1, p2, p3⟩ | ⟨p0, ⟨p1, p2, p3⟩ | ⟨p1, p2, p3⟩⟩
  · rcases h2 with ⟨g1, g2, g3⟩ | ⟨g0, g1⟩
    · exact ⟨by omega, by rw [p3, g3]; exact ef⟩
    · omega
  · rcases h2 with ⟨g1, g2, g3⟩ | ⟨g0, ⟨g1, g2, g3⟩ | ⟨g1, g2, g3⟩⟩
    · omega
    · exact ⟨by omega, by rw [p3, g3]; exact ef⟩
    · omega
  · rcases h2 with ⟨g1, g2, g3⟩ | ⟨g0, ⟨g1, g2, g3⟩ | ⟨g1, g2, g3⟩⟩
    · omega
    · omega
    · have hk : h.toNatClampNeg < 6 := by show h.toInt.toNat < 6; omega
      refine ⟨by rw [p2, g2, ef _ hk], fun j hj => ?_⟩
      rw [p3, g3]
      by_cases e : j = h.toNatClampNeg
      · subst e
        rw [updA, updA]
      · rw [updN e, updN e]
        exact ef j hj
theorem cnt_eq {ok : Prop} {m : Int} {a r a' b q b' : Int32} (h1 : CntP ok m a r a') (h2 : CntP ok m b q b') (e : a = b) : r.toInt = q.toInt ∧ a' = b' := by
  subst e
  rcases h1 with ⟨p1, p2, p3⟩ | ⟨p0, ⟨p1, p2, p3⟩ | ⟨p1, p2, p3⟩⟩
  · rcases h2 with ⟨g1, g2, g3⟩ | ⟨g0, g1⟩
    · exact ⟨by omega, by rw [p3, g3]⟩
    · exact absurd g0 p2
  · rcases h2 with ⟨g1, g2, g3⟩ | ⟨g0, ⟨g1, g2, g3⟩ | ⟨g1, g2, g3⟩⟩
    · exact absurd p0 g2
    · exact ⟨by omega, by rw [p3, g3]⟩
    · omega
  · rcases h2 with ⟨g1, g2, g3⟩ | ⟨g0, ⟨g1, g2, g3⟩ | ⟨g1, g2, g3⟩⟩
    · exact absurd p0 g2
    · omega
    · exact ⟨by omega, Int32.toInt_inj.mp (by omega)⟩
theorem see_eq {x y t h W D W2 D2 a r a' b q b' : Int32} (h1 : SeeP x y t h W D a r a') (h2 : SeeP x y t h W2 D2 b q b') (eW : W.toInt = W2.toInt) (eD : D.toInt = D2.toInt) (e : a = b) : r.toInt = q.toInt ∧ a' = b' := by
  unfold SeeP at h1 h2
  rw [← eW, ← eD] at h2
  rcases h1 with ⟨p1, p2, p3⟩ | ⟨p0, p1⟩
  · rcases h2 with ⟨g1, g2, g3⟩ | ⟨g0, g1⟩
    · exact ⟨by omega, by rw [p3, g3, e]⟩
    · exact absurd g0 p2
  · rcases h2 with ⟨g1, g2, g3⟩ | ⟨g0, g1⟩
    · exact absurd p0 g2
    · exact cnt_eq p1 g1 e
theorem f24 {vm vm' : Vf} {l : List Nat} (g : fr l vm vm') (h : 24 ∉ l) : ∀ j, j < 3 → vm' 24 j = vm 24 j := fun j _ => by rw [g 24 h]
theorem rl_pass {X X' : TgX} {vm vm' : Vf} {z0 r q : Int32} (h1 : PassP z0 (X.2.2.1 0 0) r (X'.2.2.1 0 0) ∧ KpS [0] X X') (h2 : PassP z0 (vm 23 0) q (vm' 23 0) ∧ fr [23] vm vm') (hM : MdI vm) (hM' : MdI vm') (h : Rl X vm) : r.toInt = q.toInt ∧ Rl X' vm' := by
  obtain ⟨s1, k1⟩ := h1
  obtain ⟨s2, g⟩ := h2
  have f := k1.1
  obtain ⟨hL, hS⟩ := h.2.2.2.1
  have e := pass_eq s1 s2 hL.1
  exact ⟨e.1, rl_s k1 (kp.of g (by decide)) ⟨⟨e.2, (by rw [f 1 (by decide), g 24 (by decide)]; exact hL.2.1), (by rw [f 2 (by decide), g 25 (by decide)]; exact hL.2.2.1), (by rw [f 3 (by decide), g 26 (by decide)]; exact hL.2.2.2.1), (by rw [f 4 (by decide), g 27 (by decide)]; exact hL.2.2.2.2.1), (by rw [f 5 (by decide), g 28 (by decide)]; exact hL.2.2.2.2.2.1), (by rw [f 6 (by decide), g 29 (by decide)]; exact hL.2.2.2.2.2.2.1), (by rw [f 7 (by decide), g 30 (by decide)]; exact hL.2.2.2.2.2.2.2)⟩, sti_kp hM (kp.of g (by decide)) (f24 g (by decide)) hS⟩ h⟩
theorem rl_steep {X X' : TgX} {vm vm' : Vf} {z0 r q : Int32} (h1 : SetP z0 0 99 (X.2.2.1 6 0) r (X'.2.2.1 6 0) ∧ KpS [6] X X') (h2 : SetP z0 0 99 (vm 29 0) q (vm' 29 0) ∧ fr [29] vm vm') (hM : MdI vm) (hM' : MdI vm') (h : Rl X vm) : r.toInt = q.toInt ∧ Rl X' vm' := by
  obtain ⟨s1, k1⟩ := h1
  obtain ⟨s2, g⟩ := h2
  have f := k1.1
  obtain ⟨hL, hS⟩ := h.2.2.2.1
  have e := set_eq s1 s2 hL.2.2.2.2.2.2.1
  exact ⟨e.1, rl_s k1 (kp.of g (by decide)) ⟨⟨(by rw [f 0 (by decide), g 23 (by decide)]; exact hL.1), (by rw [f 1 (by decide), g 24 (by decide)]; exact hL.2.1), (by rw [f 2 (by decide), g 25 (by decide)]; exact hL.2.2.1), (by rw [f 3 (by decide), g 26 (by decide)]; exact hL.2.2.2.1), (by rw [f 4 (by decide), g 27 (by decide)]; exact hL.2.2.2.2.1), (by rw [f 5 (by decide), g 28 (by decide)]; exact hL.2.2.2.2.2.1), e.2, (by rw [f 7 (by decide), g 30 (by decide)]; exact hL.2.2.2.2.2.2.2)⟩, sti_kp hM (kp.of g (by decide)) (f24 g (by decide)) hS⟩ h⟩
theorem rl_seed {X X' : TgX} {vm vm' : Vf} {z0 r q : Int32} (h1 : SetP z0 0 2147483647 (X.2.2.1 7 0) r (X'.2.2.1 7 0) ∧ KpS [7] X X') (h2 : SetP z0 0 2147483647 (vm 30 0) q (vm' 30 0) ∧ fr [30] vm vm') (hM : MdI vm) (hM' : MdI vm') (h : Rl X vm) : r.toInt = q.toInt ∧ Rl X' vm' := by
  obtain ⟨s1, k1⟩ := h1
  obtain ⟨s2, g⟩ := h2
  have f := k1.1
  obtain ⟨hL, hS⟩ := h.2.2.2.1
  have e := set_eq s1 s2 hL.2.2.2.2.2.2.2
  exact ⟨e.1, rl_s k1 (kp.of g (by decide)) ⟨⟨(by rw [f 0 (by decide), g 23 (by decide)]; exact hL.1), (by rw [f 1 (by decide), g 24 (by decide)]; exact hL.2.1), (by rw [f 2 (by decide), g 25 (by decide)]; exact hL.2.2.1), (by rw [f 3 (by decide), g 26 (by decide)]; exact hL.2.2.2.1), (by rw [f 4 (by decide), g 27 (by decide)]; exact hL.2.2.2.2.1), (by rw [f 5 (by decide), g 28 (by decide)]; exact hL.2.2.2.2.2.1), (by rw [f 6 (by decide), g 29 (by decide)]; exact hL.2.2.2.2.2.2.1), e.2⟩, sti_kp hM (kp.of g (by decide)) (f24 g (by decide)) hS⟩ h⟩
theorem rl_prop {X X' : TgX} {vm vm' : Vf} {z0 z1 r q : Int32} (h1 : PropP z0 z1 (X.2.1 60 0) (X.2.2.1 3) r (X'.2.2.1 3) ∧ KpS [3] X X') (h2 : PropP z0 z1 (vm 9 0) (vm 26) q (vm' 26) ∧ fr [26] vm vm') (hM : MdI vm) (hM' : MdI vm') (h : Rl X vm) : r.toInt = q.toInt ∧ Rl X' vm' := by
  obtain ⟨s1, k1⟩ := h1
  obtain ⟨s2, g⟩ := h2
  have f := k1.1
  obtain ⟨hL, hS⟩ := h.2.2.2.1
  have e := prop_eq s1 s2 (by rw [h.2.2.1.1.2.2.1.1]) hL.2.2.2.1
  exact ⟨e.1, rl_s k1 (kp.of g (by decide)) ⟨⟨(by rw [f 0 (by decide), g 23 (by decide)]; exact hL.1), (by rw [f 1 (by decide), g 24 (by decide)]; exact hL.2.1), (by rw [f 2 (by decide), g 25 (by decide)]; exact hL.2.2.1), e.2, (by rw [f 4 (by decide), g 27 (by decide)]; exact hL.2.2.2.2.1), (by rw [f 5 (by decide), g 28 (by decide)]; exact hL.2.2.2.2.2.1), (by rw [f 6 (by decide), g 29 (by decide)]; exact hL.2.2.2.2.2.2.1), (by rw [f 7 (by decide), g 30 (by decide)]; exact hL.2.2.2.2.2.2.2)⟩, sti_kp hM (kp.of g (by decide)) (f24 g (by decide)) hS⟩ h⟩
theorem load_eq {x y z W D : Int32} {f f' g g' : Nat → Int32} {r q : Int32} (h1 : LoadP x y z W D f r f') (h2 : LoadP x y z W D g q g') (hw : 0 ≤ W.toInt ∧ W.toInt ≤ 6) (hc : W.toInt * D.toInt ≤ 24) (ef : ∀ j, j < 24 → f j = g j) : r.toInt = q.toInt ∧ ∀ j, j < 24 → f' j = g' j := by
  rcases h1 with ⟨p1, p2, p3⟩ | ⟨p0, ⟨p1, p2, p3⟩ | ⟨p1, p2, p3⟩⟩
  · rcases h2 with ⟨g1, g2, g3⟩ | ⟨g0, g1⟩
    · exact ⟨by omega, by rw [p3, g3]; exact ef⟩
    · exact absurd g0 p2
  · rcases h2 with ⟨g1, g2, g3⟩ | ⟨g0, ⟨g1, g2, g3⟩ | ⟨g1, g2, g3⟩⟩
    · exact absurd p0 g2
    · exact ⟨by omega, by rw [p3, g3]; exact ef⟩
    · omega
  · rcases h2 with ⟨g1, g2, g3⟩ | ⟨g0, ⟨g1, g2, g3⟩ | ⟨g1, g2, g3⟩⟩
    · exact absurd p0 g2
    · omega
    · have k := mcell_lt hw hc p0.1.1 p0.1.2 p0.2.1 p0.2.2
      have hk : (W.toInt * y.toInt + x.toInt).toNat < 24 := by omega
      refine ⟨by rw [p2, g2, ef _ hk], fun j hj => ?_⟩
      rw [p3, g3]
      by_cases e : j = (W.toInt * y.toInt + x.toInt).toNat
      · subst e
        rw [updA, updA]
      · rw [updN e, updN e]
        exact ef j hj
theorem rl_load {X X' : TgX} {vm vm' : Vf} {z0 z1 z2 r q : Int32} (h1 : LoadP z0 z1 z2 (X.2.1 0 0) (X.2.1 1 0) (X.2.2.1 2) r (X'.2.2.1 2) ∧ KpS [2] X X') (h2 : LoadP z0 z1 z2 (vm 0 0) (vm 1 0) (vm 25) q (vm' 25) ∧ fr [25] vm vm') (hM : MdI vm) (hM' : MdI vm') (h : Rl X vm) : r.toInt = q.toInt ∧ Rl X' vm' := by
  obtain ⟨s1, k1⟩ := h1
  obtain ⟨s2, g⟩ := h2
  have f := k1.1
  obtain ⟨hL, hS⟩ := h.2.2.2.1
  have hG := hM.1.1
  rw [h.2.2.1.1.1.1, h.2.2.1.1.1.2.1] at s1
  have e := load_eq s1 s2 hG.1 hG.2.2 hL.2.2.1
  exact ⟨e.1, rl_s k1 (kp.of g (by decide)) ⟨⟨(by rw [f 0 (by decide), g 23 (by decide)]; exact hL.1), (by rw [f 1 (by decide), g 24 (by decide)]; exact hL.2.1), e.2, (by rw [f 3 (by decide), g 26 (by decide)]; exact hL.2.2.2.1), (by rw [f 4 (by decide), g 27 (by decide)]; exact hL.2.2.2.2.1), (by rw [f 5 (by decide), g 28 (by decide)]; exact hL.2.2.2.2.2.1), (by rw [f 6 (by decide), g 29 (by decide)]; exact hL.2.2.2.2.2.2.1), (by rw [f 7 (by decide), g 30 (by decide)]; exact hL.2.2.2.2.2.2.2)⟩, sti_kp hM (kp.of g (by decide)) (f24 g (by decide)) hS⟩ h⟩
theorem shift_eq {i z n m : Int32} {c d f f' g g' : Nat → Int32} {r q : Int32} (h1 : ShiftP i z n c f r f') (h2 : ShiftP i z m d g q g') (en : n = m) (hm : m.toInt ≤ 3) (ec : ∀ j : Nat, (j : Int) < m.toInt → c j = d j) (ef : ∀ j, j < 3 → f j = g j) (hd : ∀ j : Nat, (j : Int) < m.toInt → 1 ≤ (d j).toInt) (hg : ∀ j : Nat, (j : Int) < m.toInt → 0 ≤ (g j).toInt ∧ (g j).toInt < (d j).toInt) : r.toInt = q.toInt ∧ (∀ j, j < 3 → f' j = g' j) ∧ ∀ j : Nat, (j : Int) < m.toInt → 0 ≤ (g' j).toInt ∧ (g' j).toInt < (d j).toInt := by
  subst en
  rcases h1 with ⟨p1, p2, p3⟩ | ⟨p0, ⟨p1, p2, p3⟩ | ⟨p1, p2, w, p3, p4⟩⟩
  · rcases h2 with ⟨g1, g2, g3⟩ | ⟨g0, g1⟩
    · exact ⟨by omega, by rw [p3, g3]; exact ef, by rw [g3]; exact hg⟩
    · clear g1; omega
  · rcases h2 with ⟨g1, g2, g3⟩ | ⟨g0, ⟨g1, g2, g3⟩ | ⟨g1, g2, w, g3, g4⟩⟩
    · omega
    · exact ⟨by omega, by rw [p3, g3]; exact ef, by rw [g3]; exact hg⟩
    · omega
  · rcases h2 with ⟨g1, g2, g3⟩ | ⟨g0, ⟨g1, g2, g3⟩ | ⟨g1, g2, u, g3, g4⟩⟩
    · omega
    · omega
    · have hi := i_nat p0.1
      have hk : i.toNatClampNeg < 3 := by omega
      have hk2 : ((i.toNatClampNeg : Nat) : Int) < n.toInt := by omega
      have ew : w = u := i_eqr (by rw [p3, g3, ec _ hk2])
      have b1 := hd _ hk2
      refine ⟨by rw [p2, g2, ef _ hk], fun j hj => ?_, fun j hj => ?_⟩
      · rw [p4, g4, ew]
        by_cases e : j = i.toNatClampNeg
        · subst e
          rw [updA, updA]
        · rw [updN e, updN e]
          exact ef j hj
      · rw [g4]
        by_cases e : j = i.toNatClampNeg
        · subst e
          rw [updA, g3]
          exact ⟨Int.emod_nonneg _ (by omega), Int.emod_lt_of_pos _ (by omega)⟩
        · rw [updN e]
          exact hg j hj
theorem many_eq {vm vp : Vf} (h : RqMs vm vp) (h4 : (vm 4 0).toInt ≤ 3) : ∀ j : Nat, (j : Int) < (vm 4 0).toInt → (fun j => vp (20 + 10 * j) 0) j = vm 5 j := by
  intro j hj
  rcases (show j = 0 ∨ j = 1 ∨ j = 2 by omega) with rfl | rfl | rfl
  · exact (h.2.1.1 hj).1.1
  · exact (h.2.2.1.1 hj).1.1
  · exact (h.2.2.2.1 hj).1.1
theorem many_1 {vm : Vf} (hM : MdI vm) : ∀ j : Nat, (j : Int) < (vm 4 0).toInt → 1 ≤ (vm 5 j).toInt := by
  intro j hj
  have h4 := hM.1.2.1.1
  exact ((hM.1.2.2.2.1.2.1.resolve_left (by omega)) j (by omega)).1
theorem rl_shift {X X' : TgX} {vm vm' : Vf} {z0 z1 r q : Int32} (h1 : ShiftP z0 z1 (X.2.1 5 0) (fun j => X.2.1 (20 + 10 * j) 0) (X.2.2.1 1) r (X'.2.2.1 1) ∧ KpS [1] X X') (h2 : ShiftP z0 z1 (vm 4 0) (vm 5) (vm 24) q (vm' 24) ∧ fr [24] vm vm') (hM : MdI vm) (hM' : MdI vm') (h : Rl X vm) : r.toInt = q.toInt ∧ Rl X' vm' := by
  obtain ⟨s1, k1⟩ := h1
  obtain ⟨s2, g⟩ := h2
  have f := k1.1
  obtain ⟨hL, hS⟩ := h.2.2.2.1
  have h4 := hM.1.2.1.1.2
  have e := shift_eq s1 s2 h.2.2.1.1.2.1.1 h4 (many_eq h.2.2.1.1.2.1 h4) hL.2.1 (many_1 hM) hS.1
  refine ⟨e.1, rl_s k1 (kp.of g (by decide)) ⟨⟨(by rw [f 0 (by decide), g 23 (by decide)]; exact hL.1), e.2.1, (by rw [f 2 (by decide), g 25 (by decide)]; exact hL.2.2.1), (by rw [f 3 (by decide), g 26 (by decide)]; exact hL.2.2.2.1), (by rw [f 4 (by decide), g 27 (by decide)]; exact hL.2.2.2.2.1), (by rw [f 5 (by decide), g 28 (by decide)]; exact hL.2.2.2.2.2.1), (by rw [f 6 (by decide), g 29 (by decide)]; exact hL.2.2.2.2.2.2.1), (by rw [f 7 (by decide), g 30 (by decide)]; exact hL.2.2.2.2.2.2.2)⟩, ⟨fun m hm => ?_, ?_⟩⟩ h⟩
  · rw [g 4 (by decide)] at hm
    rw [g 5 (by decide)]
    exact e.2.2 m hm
  · rw [g 0 (by decide), g 1 (by decide), g 27 (by decide)]
    exact hS.2
theorem go_cW {vm : Vf} {c way t : Int32} (hG : mdG vm) (hc : cW vm c) (h : 0 ≤ (mGo vm c way t).toInt) : cW vm (mGo vm c way t) := by
  unfold mGo at h ⊢
  by_cases q : way = 0
  · rw [if_pos q] at h ⊢
    exact hc
  · rw [if_neg q] at h ⊢
    by_cases q2 : (mBes vm c way).toInt < 0
    · rw [if_pos q2] at h
      omega
    · rw [if_neg q2] at h ⊢
      by_cases q3 : mBar vm c (mBes vm c way) t ≠ 0 ∨ vm 29 0 < mH vm (mBes vm c way) t - mH vm c t
      · rw [if_pos q3] at h
        exact absurd h (by decide)
      · rw [if_neg q3] at h ⊢
        exact bes_cW hG h
theorem rl_roll {X X' : TgX} {vm vm' : Vf} {z0 r q : Int32} (h1 : (∀ vm : Vf, RW vm X.2.1 X.2.2.1 → (-1 : Int32) = vm 62 0 → RolP vm z0 r (X.2.2.1 0 0) (X.2.2.1 4 0) (X.2.2.1 5 0) (X'.2.2.1 0 0) (X'.2.2.1 4 0) (X'.2.2.1 5 0)) ∧ KpS [0, 4, 5] X X') (h2 : RolP vm z0 q (vm 23 0) (vm 27 0) (vm 28 0) (vm' 23 0) (vm' 27 0) (vm' 28 0) ∧ fr [23, 27, 28] vm vm') (hM : MdI vm) (hM' : MdI vm') (h : Rl X vm) : r.toInt = q.toInt ∧ Rl X' vm' := by
  obtain ⟨s1, k1⟩ := h1
  obtain ⟨s2, g⟩ := h2
  have f := k1.1
  have hR := rl_rw h hM
  have s1 := s1 vm hR hM.2.1.symm
  obtain ⟨hL, hS⟩ := h.2.2.2.1
  rw [hL.1, hL.2.2.2.2.1, hL.2.2.2.2.2.1] at s1
  have e := rol_eq s1 s2
  have hc : (vm 0 0).toInt = 0 ∨ (vm' 27 0).toInt < (vm 0 0).toInt * (vm 1 0).toInt := by
    rcases s2 with ⟨-, -, -, a, -⟩ | ⟨-, ⟨-, -, -, a, -⟩ | ⟨az, ⟨-, -, -, a, -⟩ | ⟨-, -, -, a, -⟩⟩⟩
    · rw [a]; exact hS.2
    · rw [a]; exact hS.2
    · rw [a]; exact hS.2
    · rw [a]
      have g0 := hM.1.1.1.1
      have cc := rol_c hR (show 1 ≤ (vm 0 0).toInt by omega)
      rw [hL.2.2.2.2.1] at cc
      exact Or.inr (go_cW hM.1.1 cc az.2).2
  refine ⟨e.1, rl_s k1 (kp.of g (by decide)) ⟨⟨e.2.1, (by rw [f 1 (by decide), g 24 (by decide)]; exact hL.2.1), (by rw [f 2 (by decide), g 25 (by decide)]; exact hL.2.2.1), (by rw [f 3 (by decide), g 26 (by decide)]; exact hL.2.2.2.1), e.2.2.1, e.2.2.2, (by rw [f 6 (by decide), g 29 (by decide)]; exact hL.2.2.2.2.2.2.1), (by rw [f 7 (by decide), g 30 (by decide)]; exact hL.2.2.2.2.2.2.2)⟩, ⟨fun m hm => ?_, ?_⟩⟩ h⟩
  · rw [g 4 (by decide)] at hm
    rw [g 24 (by decide), g 5 (by decide)]
    exact hS.1 m hm
  · rw [g 0 (by decide), g 1 (by decide)]
    exact hc
theorem rl_drift {X X' : TgX} {vm vm' : Vf} {z0 r q : Int32} (h1 : (∀ vm : Vf, RW vm X.2.1 X.2.2.1 → (-1 : Int32) = vm 62 0 → DriP vm z0 r (X'.2.2.1 = X.2.2.1) (RW (drN vm z0.toNatClampNeg) X.2.1 X'.2.2.1)) ∧ KpS [0, 2, 4, 5, 7] X X') (h2 : DriP vm z0 q (vm' = vm) (Ag (drN vm z0.toNatClampNeg) vm') ∧ fr [23, 25, 27, 28, 30] vm vm') (hM : MdI vm) (hM' : MdI vm') (h : Rl X vm) : r.toInt = q.toInt ∧ Rl X' vm' := by
  obtain ⟨s1, k1⟩ := h1
  obtain ⟨s2, g⟩ := h2
  have hR := rl_rw h hM
  have e := dri_eq (s1 vm hR hM.2.1.symm) s2
  refine ⟨e.1, rl_s k1 (kp.of g (by decide)) ?_ h⟩
  rcases e.2 with ⟨a, b⟩ | ⟨a, b⟩
  · rw [a, b]
    exact h.2.2.2.1
  · obtain ⟨-, hL, hS, -, -⟩ := a
    obtain ⟨b0, b23, b27, b28, b30⟩ := b
    have k : ∀ t, t ≠ 23 → t ≠ 27 → t ≠ 28 → t ≠ 30 → vm' t = drN vm z0.toNatClampNeg t := b0
    refine ⟨⟨by rw [b23]; exact hL.1, ?_, ?_, ?_, by rw [b27]; exact hL.2.2.2.2.1, by rw [b28]; exact hL.2.2.2.2.2.1, ?_, by rw [b30]; exact hL.2.2.2.2.2.2.2⟩, ⟨fun m hm => ?_, ?_⟩⟩
    · rw [k 24 (by decide) (by decide) (by decide) (by decide)]; exact hL.2.1
    · rw [k 25 (by decide) (by decide) (by decide) (by decide)]; exact hL.2.2.1
    · rw [k 26 (by decide) (by decide) (by decide) (by decide)]; exact hL.2.2.2.1
    · rw [k 29 (by decide) (by decide) (by decide) (by decide)]; exact hL.2.2.2.2.2.2.1
    · rw [k 4 (by decide) (by decide) (by decide) (by decide)] at hm
      rw [k 24 (by decide) (by decide) (by decide) (by decide), k 5 (by decide) (by decide) (by decide) (by decide)]
      exact hS.1 m hm
    · rw [k 0 (by decide) (by decide) (by decide) (by decide), k 1 (by decide) (by decide) (by decide) (by decide), b27]
      exact hS.2
theorem rl_v {X X' : TgX} {vm vm' : Vf} {l l2 : List Nat} (h1 : KpV l X X') (h2 : fr l2 vm vm') (d2 : ∀ t ∈ lKM, t = 31 ∨ t = 32 ∨ t = 33 ∨ t = 67 ∨ t = 68 ∨ t = 69 ∨ t = 70 ∨ t = 75 ∨ t = 76 ∨ t ∉ l2) (d24 : 24 ∉ l2) (hM : MdI vm) (hr : R3 X'.1 vm') (hb : RB5 X'.1 vm') (h : Rl X vm) : Rl X' vm' := by
  obtain ⟨-, b⟩ := h1
  obtain ⟨-, -, q3, q4, q5, q6⟩ := h
  have k : kp [0, 1, 2, 3, 4, 5, 6, 7, 8, 9, 10, 11, 12, 13, 14, 15, 16, 17, 18, 19, 20, 21, 22, 23, 25, 26, 27, 28, 29, 30, 77, 78] vm vm' := fun t ht => h2 t (by
    have hk : t ∈ lKM := (by decide : ∀ t ∈ [0, 1, 2, 3, 4, 5, 6, 7, 8, 9, 10, 11, 12, 13, 14, 15, 16, 17, 18, 19, 20, 21, 22, 23, 25, 26, 27, 28, 29, 30, 77, 78], t ∈ lKM) t ht
    have hn := (by decide : ∀ t ∈ [0, 1, 2, 3, 4, 5, 6, 7, 8, 9, 10, 11, 12, 13, 14, 15, 16, 17, 18, 19, 20, 21, 22, 23, 25, 26, 27, 28, 29, 30, 77, 78], t ≠ 31 ∧ t ≠ 32 ∧ t ≠ 33 ∧ t ≠ 67 ∧ t ≠ 68 ∧ t ≠ 69 ∧ t ≠ 70 ∧ t ≠ 75 ∧ t ≠ 76) t ht
    have z := d2 t hk
    rcases z with z | z | z | z | z | z | z | z | z | z
    all_goals first | exact z | (exfalso; omega))
  have kk : keepP vm vm' := fun t ht => k t (by
    have : t = 0 ∨ t = 1 ∨ t = 2 ∨ t = 3 ∨ t = 4 ∨ t = 5 ∨ t = 6 ∨ t = 7 ∨ t = 8 ∨ t = 9 ∨ t = 10 ∨ t = 11 ∨ t = 12 ∨ t = 13 ∨ t = 14 ∨ t = 15 ∨ t = 16 ∨ t = 17 ∨ t = 18 ∨ t = 19 ∨ t = 20 ∨ t = 21 ∨ t = 22 := by omega
    rcases this with rfl | rfl | rfl | rfl | rfl | rfl | rfl | rfl | rfl | rfl | rfl | rfl | rfl | rfl | rfl | rfl | rfl | rfl | rfl | rfl | rfl | rfl | rfl <;> decide)
  exact ⟨hr, hb, rp_kp (by rw [b]) kk q3, rs_kp hM (by rw [b]) (k.sub (by decide)) (f24 h2 d24) q4, ri_kp (by rw [b]) (k.sub (by decide)) q5, ri_kp (by rw [b]) (k.sub (by decide)) q6⟩
theorem r3_feed {v v' vm vm' : Vf} {x : Int32} (h1 : FeedR x (v 0) (v 1 0) (v' 0) (v' 1 0) ∧ v' 2 = v 2) (h2 : FeedR x (vm 31) (vm 32 0) (vm' 31) (vm' 32 0) ∧ vm' 33 = vm 33) (h : R3 v vm) : R3 v' vm' := by
  obtain ⟨⟨⟨a1, a2⟩, a3⟩, a4⟩ := h
  obtain ⟨h1, e1⟩ := h1
  obtain ⟨h2, e2⟩ := h2
  rw [a1, a2] at h1
  have a4' : (v' 2 0).toInt = (vm' 33 0).toInt := by rw [e1, e2]; exact a4
  rcases h1 with ⟨b1, b2, b3⟩ | ⟨b1, b2, b3, b4⟩
  · rcases h2 with ⟨c1, c2, c3⟩ | ⟨c1, c2, c3, c4⟩
    · refine ⟨⟨⟨by rw [b2, c2], by rw [b1, c1]⟩, ?_⟩, a4'⟩
      rw [c1, c2]
      exact a3
    · omega
  · rcases h2 with ⟨c1, c2, c3⟩ | ⟨c1, c2, c3, c4⟩
    · omega
    · refine ⟨⟨⟨by rw [b3, c3], Int32.toInt_inj.mp (by omega)⟩, fun j hj => ?_⟩, a4'⟩
      rw [c3]
      by_cases q : j = (vm 32 0).toNatClampNeg
      · subst q
        rw [updA]
        exact c1.1
      · rw [updN q]
        refine a3 j ?_
        have q2 : j ≠ (vm 32 0).toInt.toNat := q
        omega
theorem rl_feed {X X' : TgX} {vm vm' : Vf} {z0 : Int32} (h1 : FeedR z0 (X.1 0) (X.1 1 0) (X'.1 0) (X'.1 1 0) ∧ KpV [0, 1] X X') (h2 : FeedR z0 (vm 31) (vm 32 0) (vm' 31) (vm' 32 0) ∧ fr [31, 32] vm vm') (hM : MdI vm) (hM' : MdI vm') (h : Rl X vm) : Rl X' vm' := by
  obtain ⟨s1, k1⟩ := h1
  obtain ⟨s2, g⟩ := h2
  have f := k1.1
  exact rl_v k1 g (by decide) (by decide) hM (r3_feed ⟨s1, f 2 (by decide)⟩ ⟨s2, g 33 (by decide)⟩ h.1) (rb_kp (kp.of f (by decide)) (kp.of g (by decide)) h.2.1) h
theorem cnt_cases {ok : Prop} {m : Int} {c r c' : Int32} (h : CntP ok m c r c') (hc : 0 ≤ c.toInt) : (r.toInt < 0 ∧ c' = c) ∨ (0 ≤ r.toInt ∧ ok ∧ c'.toInt = c.toInt + 1) := by
  rcases h with ⟨p1, p2, p3⟩ | ⟨p0, ⟨p1, p2, p3⟩ | ⟨p1, p2, p3⟩⟩
  · exact Or.inl ⟨by omega, p3⟩
  · exact Or.inl ⟨by omega, p3⟩
  · exact Or.inr ⟨by omega, p0, p3⟩
theorem row_ok {r q n : Int32} {f f' g g' : Nat → Int32} {x : Int32} {Q : Int32 → Prop} (h1 : RowP r n f f' x) (h2 : RowP q n g g' x) (er : r.toInt = q.toInt) (hn : 0 ≤ n.toInt) (ef : ∀ j : Nat, (j : Int) < n.toInt → f j = g j ∧ Q (g j)) {m : Int32} (hm : (q.toInt < 0 ∧ m = n) ∨ (0 ≤ q.toInt ∧ Q x ∧ m.toInt = n.toInt + 1)) : ∀ j : Nat, (j : Int) < m.toInt → f' j = g' j ∧ Q (g' j) := by
  intro j hj
  rcases hm with ⟨a, e⟩ | ⟨a, hq, e⟩
  · rcases h1 with ⟨-, p⟩ | ⟨b, -⟩
    · rcases h2 with ⟨-, p'⟩ | ⟨b', -⟩
      · rw [p, p']
        rw [e] at hj
        exact ef j hj
      · omega
    · omega
  · rcases h1 with ⟨b, -⟩ | ⟨-, p⟩
    · omega
    · rcases h2 with ⟨b', -⟩ | ⟨-, p'⟩
      · omega
      · rw [p, p']
        have en := i_nat hn
        by_cases z : j = n.toNatClampNeg
        · subst z
          rw [updA, updA]
          exact ⟨rfl, hq⟩
        · rw [updN z, updN z]
          exact ef j (by omega)
theorem see_ok {r q n W x y t h : Int32} {f1 f2 f3 f1' f2' f3' g1 g2 g3 g1' g2' g3' : Nat → Int32} {B : Int} (h1 : SeeR r n W x y t h f1 f2 f3 f1' f2' f3') (h2 : SeeR q n W x y t h g1 g2 g3 g1' g2' g3') (er : r.toInt = q.toInt) (hn : 0 ≤ n.toInt) (ef : ∀ j : Nat, (j : Int) < n.toInt → (f1 j = g1 j ∧ f2 j = g2 j ∧ f3 j = g3 j) ∧ (g1 j).toInt < B) {m : Int32} (hm : (q.toInt < 0 ∧ m = n) ∨ (0 ≤ q.toInt ∧ W.toInt * y.toInt + x.toInt < B ∧ m.toInt = n.toInt + 1)) : ∀ j : Nat, (j : Int) < m.toInt → (f1' j = g1' j ∧ f2' j = g2' j ∧ f3' j = g3' j) ∧ (g1' j).toInt < B := by
  intro j hj
  rcases hm with ⟨a, e⟩ | ⟨a, hq, e⟩
  · rcases h1 with ⟨-, p1, p2, p3⟩ | ⟨b, -⟩
    · rcases h2 with ⟨-, p1', p2', p3'⟩ | ⟨b', -⟩
      · rw [p1, p2, p3, p1', p2', p3']
        rw [e] at hj
        exact ef j hj
      · omega
    · omega
  · rcases h1 with ⟨b, -⟩ | ⟨-, c, hc, p1, p2, p3⟩
    · omega
    · rcases h2 with ⟨b', -⟩ | ⟨-, c', hc', p1', p2', p3'⟩
      · omega
      · have ec : c = c' := i_eqr (by rw [hc, hc'])
        subst ec
        rw [p1, p2, p3, p1', p2', p3']
        have en := i_nat hn
        by_cases z : j = n.toNatClampNeg
        · subst z
          rw [updA, updA, updA, updA, updA, updA]
          exact ⟨⟨rfl, rfl, rfl⟩, by rw [hc]; exact hq⟩
        · rw [updN z, updN z, updN z, updN z, updN z, updN z]
          exact ef j (by omega)
theorem rl_write {X X' : TgX} {vm vm' : Vf} {z0 r q : Int32} (h1 : (CntP (0 ≤ z0.toInt ∧ z0.toInt ≤ 4) 30 (X.1 12 0) r (X'.1 12 0) ∧ RowP r (X.1 12 0) (X.1 11) (X'.1 11) z0) ∧ KpV [11, 12] X X') (h2 : (CntP (0 ≤ z0.toInt ∧ z0.toInt ≤ 4) 30 (vm 75 0) q (vm' 75 0) ∧ RowP q (vm 75 0) (vm 76) (vm' 76) z0) ∧ fr [75, 76] vm vm') (hM : MdI vm) (hM' : MdI vm') (h : Rl X vm) : r.toInt = q.toInt ∧ Rl X' vm' := by
  obtain ⟨⟨s1, w1⟩, k1⟩ := h1
  obtain ⟨⟨s2, w2⟩, g⟩ := h2
  have f := k1.1
  obtain ⟨b1, b2, b3, b4⟩ := h.2.1
  have h75 := hM.1.2.2.2.2.2.2.2.2.2.2.1
  have e := cnt_eq s1 s2 b1
  rw [b1] at w1
  refine ⟨e.1, rl_v k1 g (by decide) (by decide) hM (r3_kp (kp.of f (by decide)) (kp.of g (by decide)) h.1) ⟨e.2, by rw [f 401 (by decide), g 67 (by decide)]; exact b2, row_ok (Q := fun y => 0 ≤ y.toInt ∧ y.toInt ≤ 4) (m := vm' 75 0) w1 w2 e.1 h75 b3 (cnt_cases s2 h75), ?_⟩ h⟩
  rw [f 402 (by decide), f 403 (by decide), f 404 (by decide), g 67 (by decide), g 68 (by decide), g 69 (by decide), g 70 (by decide), g 0 (by decide), g 1 (by decide)]
  exact b4
theorem rl_see {X X' : TgX} {vm vm' : Vf} {z0 z1 z2 z3 r q : Int32} (h1 : (SeeP z0 z1 z2 z3 (X.2.1 0 0) (X.2.1 1 0) (X.1 401 0) r (X'.1 401 0) ∧ SeeR r (X.1 401 0) (X.2.1 0 0) z0 z1 z2 z3 (X.1 402) (X.1 403) (X.1 404) (X'.1 402) (X'.1 403) (X'.1 404)) ∧ KpV [401, 402, 403, 404] X X') (h2 : (SeeP z0 z1 z2 z3 (vm 0 0) (vm 1 0) (vm 67 0) q (vm' 67 0) ∧ SeeR q (vm 67 0) (vm 0 0) z0 z1 z2 z3 (vm 68) (vm 69) (vm 70) (vm' 68) (vm' 69) (vm' 70)) ∧ fr [67, 68, 69, 70] vm vm') (hM : MdI vm) (hM' : MdI vm') (h : Rl X vm) : r.toInt = q.toInt ∧ Rl X' vm' := by
  obtain ⟨⟨s1, w1⟩, k1⟩ := h1
  obtain ⟨⟨s2, w2⟩, g⟩ := h2
  have f := k1.1
  obtain ⟨b1, b2, b3, b4⟩ := h.2.1
  have h67 := hM.1.2.2.2.2.2.2.2.1.1
  have hG := hM.1.1
  have eW : X.2.1 0 0 = vm 0 0 := h.2.2.1.1.1.1
  have eD : X.2.1 1 0 = vm 1 0 := h.2.2.1.1.1.2.1
  have e := see_eq s1 s2 (by rw [eW]) (by rw [eD]) b2
  rw [b2, eW] at w1
  have hm : (q.toInt < 0 ∧ vm' 67 0 = vm 67 0) ∨ (0 ≤ q.toInt ∧ (vm 0 0).toInt * z1.toInt + z0.toInt < (vm 0 0).toInt * (vm 1 0).toInt ∧ (vm' 67 0).toInt = (vm 67 0).toInt + 1) := by
    rcases s2 with ⟨p1, p2, p3⟩ | ⟨p0, p1⟩
    · exact Or.inl ⟨by omega, p3⟩
    · rcases cnt_cases p1 h67 with c | ⟨c1, c2, c3⟩
      · exact Or.inl c
      · exact Or.inr ⟨c1, (mcell_lt hG.1 hG.2.2 p0.1.1 p0.1.2 p0.2.1 p0.2.2).2, c3⟩
  have b4' : ∀ j : Nat, (j : Int) < (vm 67 0).toInt → (X.1 402 j = vm 68 j ∧ X.1 403 j = vm 69 j ∧ X.1 404 j = vm 70 j) ∧ (vm 68 j).toInt < (vm 0 0).toInt * (vm 1 0).toInt := b4
  refine ⟨e.1, rl_v k1 g (by decide) (by decide) hM (r3_kp (kp.of f (by decide)) (kp.of g (by decide)) h.1) ⟨by rw [f 12 (by decide), g 75 (by decide)]; exact b1, e.2, ?_, ?_⟩ h⟩
  · rw [f 11 (by decide), g 75 (by decide), g 76 (by decide)]
    exact b3
  · rw [g 0 (by decide), g 1 (by decide)]
    exact see_ok w1 w2 e.1 h67 b4' hm
theorem rl_tear {X X' : TgX} {vm vm' : Vf} {r q : Int32} (h1 : TearP (X.1 12 0) (X.1 401 0) r (X'.1 12 0) (X'.1 401 0) ∧ KpV [12, 401] X X') (h2 : TearP (vm 75 0) (vm 67 0) q (vm' 75 0) (vm' 67 0) ∧ fr [67, 75] vm vm') (hM : MdI vm) (hM' : MdI vm') (h : Rl X vm) : r.toInt = q.toInt ∧ Rl X' vm' := by
  obtain ⟨s1, k1⟩ := h1
  obtain ⟨s2, g⟩ := h2
  have f := k1.1
  obtain ⟨b1, b2, b3, b4⟩ := h.2.1
  have n0 : (0 : Int32).toInt = 0 := by decide
  exact ⟨by rw [s1.1, s2.1, b1, b2], rl_v k1 g (by decide) (by decide) hM (r3_kp (kp.of f (by decide)) (kp.of g (by decide)) h.1) ⟨by rw [s1.2.1, s2.2.1], by rw [s1.2.2, s2.2.2], fun j hj => absurd hj (by rw [s2.2.1, n0]; omega), fun j hj => absurd hj (by rw [s2.2.2, n0]; omega)⟩ h⟩
theorem ri_new {B k : Nat} {w vs vm vm' : Vf} (hM : MdI vm) (hw : stE w vs ∧ w 8 0 = 1) (hs : RS5 vs vm) (hC : imC (vm' 77) B vm) (hk : vm' 78 k = 1) (g : fr [77, 78] vm vm') : RI5 B k w vm' := by
  obtain ⟨⟨e0, e1, e2, e3, e4, e5, e6, e7⟩, e8⟩ := hw
  obtain ⟨c2, c3, c1, c0, c4, c5, c6, c7⟩ := hC
  obtain ⟨⟨l0, l1, l2, l3, l4, l5, l6, l7⟩, hS⟩ := hs
  have h4 := hM.1.2.1.1
  refine ⟨by rw [e8, hk], fun _ => ⟨⟨by rw [e0, l0, c0], fun j hj => by rw [e1 j hj, l1 j hj, c1 j hj], fun j hj => by rw [e2 j hj, l2 j hj, c2 j hj], fun j hj => by rw [e3 j hj, l3 j hj, c3 j hj], by rw [e4, l4, c4], by rw [e5, l5, c5], by rw [e6, l6, c6], by rw [e7, l7, c7]⟩, fun m hm => ?_, ?_⟩⟩
  · rw [g 4 (by decide)] at hm
    rw [c1 m (by omega), g 5 (by decide)]
    exact hS.1 m hm
  · rw [g 0 (by decide), g 1 (by decide), c4]
    exact hS.2
theorem ri_old {B B2 k : Nat} {w w' vm vm' : Vf} (hM : MdI vm) (hw : w' = w) (hO : imO B2 (vm 77) (vm' 77)) (hk : vm' 78 k = vm 78 k) (hB : B + 38 ≤ B2 ∨ B2 + 38 ≤ B) (g : fr [77, 78] vm vm') (h : RI5 B k w vm) : RI5 B k w' vm' := by
  subst hw
  have h4 := hM.1.2.1.1
  refine ⟨by rw [hk]; exact h.1, fun q => ?_⟩
  rw [hk] at q
  obtain ⟨⟨l0, l1, l2, l3, l4, l5, l6, l7⟩, t1, t2⟩ := h.2 q
  refine ⟨⟨by rw [hO (B + 33) (by omega)]; exact l0, fun j hj => by rw [hO (B + 30 + j) (by omega)]; exact l1 j hj, fun j hj => by rw [hO (B + j) (by omega)]; exact l2 j hj, fun j hj => by rw [hO (B + 24 + j) (by omega)]; exact l3 j hj, by rw [hO (B + 34) (by omega)]; exact l4, by rw [hO (B + 35) (by omega)]; exact l5, by rw [hO (B + 36) (by omega)]; exact l6, by rw [hO (B + 37) (by omega)]; exact l7⟩, fun m hm => ?_, ?_⟩
  · rw [g 4 (by decide)] at hm
    rw [hO (B + 30 + m) (by omega), g 5 (by decide)]
    exact t1 m hm
  · rw [g 0 (by decide), g 1 (by decide), hO (B + 34) (by omega)]
    exact t2
theorem rl_keep {X X' : TgX} {vm vm' : Vf} {z0 : Int32} (h1 : KeepC z0 X.2.2.1 X.2.2.2.1 X.2.2.2.2 X'.2.2.2.1 X'.2.2.2.2 ∧ X'.1 = X.1 ∧ X'.2.1 = X.2.1 ∧ X'.2.2.1 = X.2.2.1) (h2 : KeepM z0 vm vm' ∧ fr [77, 78] vm vm') (hM : MdI vm) (hM' : MdI vm') (h : Rl X vm) : Rl X' vm' := by
  obtain ⟨s1, av, ap, as_⟩ := h1
  obtain ⟨s2, g⟩ := h2
  obtain ⟨q1, q2, q3, q4, q5, q6⟩ := h
  refine ⟨r3_kp (kp.eq av) (kp.of g (by decide)) q1, rb_kp (kp.eq av) (kp.of g (by decide)) q2, rp_kp ap (fun t ht => g t (fun q => by rcases List.mem_cons.mp q with e | e; omega; have := List.mem_singleton.mp e; omega)) q3, rs_kp hM as_ (kp.of g (by decide)) (f24 g (by decide)) q4, ?_⟩
  rcases s1 with ⟨p1, p2, p3⟩ | ⟨p1, p2, p3⟩ | ⟨p1, p2, p3⟩
  · rcases s2 with ⟨g1, g2⟩ | ⟨g1, -⟩ | ⟨g1, -⟩
    · exact ⟨ri_kp p2 (kp.eq g2) q5, ri_kp p3 (kp.eq g2) q6⟩
    · omega
    · omega
  · rcases s2 with ⟨g1, g2⟩ | ⟨g1, g2, g3, g4⟩ | ⟨g1, -⟩
    · omega
    · exact ⟨ri_new hM p2 q4 g2 (by rw [g4]; exact updA) g, ri_old hM p3 g3 (by rw [g4]; exact updN (by decide)) (by decide) g q6⟩
    · omega
  · rcases s2 with ⟨g1, g2⟩ | ⟨g1, -⟩ | ⟨g1, g2, g3, g4⟩
    · omega
    · omega
    · exact ⟨ri_old hM p3 g3 (by rw [g4]; exact updN (by decide)) (by decide) g q5, ri_new hM p2 q4 g2 (by rw [g4]; exact updA) g⟩
theorem go_eq {B k : Nat} {w vs vs' vm vm' : Vf} {r q : Int32} (hM : MdI vm) (h1 : GoC1 w vs r vs') (h2 : GoM1 B (vm 78 k) vm q vm') (hi : RI5 B k w vm) (hs : RS5 vs vm) (g : fr [23, 24, 25, 26, 27, 28, 29, 30] vm vm') : r.toInt = q.toInt ∧ RS5 vs' vm' := by
  have h4 := hM.1.2.1.1
  rcases h1 with ⟨p1, p2, p3⟩ | ⟨p1, p2, p3⟩
  · rcases h2 with ⟨g1, g2, g3⟩ | ⟨g1, g2, g3⟩
    · exact ⟨by omega, by rw [p3, g3]; exact hs⟩
    · exact absurd (hi.1.mp p1) g1
  · rcases h2 with ⟨g1, g2, g3⟩ | ⟨g1, g2, g3⟩
    · exact absurd (hi.1.mpr g1) p1
    · obtain ⟨e0, e1, e2, e3, e4, e5, e6, e7⟩ := p3
      obtain ⟨c2, c3, c1, c0, c4, c5, c6, c7⟩ := g3
      obtain ⟨⟨l0, l1, l2, l3, l4, l5, l6, l7⟩, t1, t2⟩ := hi.2 g1
      refine ⟨by omega, ⟨by rw [e0, l0, c0], fun j hj => by rw [e1 j hj, l1 j hj, c1 j hj], fun j hj => by rw [e2 j hj, l2 j hj, c2 j hj], fun j hj => by rw [e3 j hj, l3 j hj, c3 j hj], by rw [e4, l4, c4], by rw [e5, l5, c5], by rw [e6, l6, c6], by rw [e7, l7, c7]⟩, fun m hm => ?_, ?_⟩
      · rw [g 4 (by decide)] at hm
        rw [← c1 m (by omega), g 5 (by decide)]
        exact t1 m hm
      · rw [g 0 (by decide), g 1 (by decide), ← c4]
        exact t2
theorem rl_goBack {X X' : TgX} {vm vm' : Vf} {z0 r q : Int32} (h1 : GoC z0 X.2.2.1 X.2.2.2.1 X.2.2.2.2 r X'.2.2.1 ∧ X'.1 = X.1 ∧ X'.2.1 = X.2.1 ∧ X'.2.2.2 = X.2.2.2) (h2 : GoM z0 vm q vm' ∧ fr [23, 24, 25, 26, 27, 28, 29, 30] vm vm') (hM : MdI vm) (hM' : MdI vm') (h : Rl X vm) : r.toInt = q.toInt ∧ Rl X' vm' := by
  obtain ⟨s1, av, ap, ai⟩ := h1
  obtain ⟨s2, g⟩ := h2
  have q4 := h.2.2.2.1
  have q5 := h.2.2.2.2.1
  have q6 := h.2.2.2.2.2
  have key : r.toInt = q.toInt ∧ RS5 X'.2.2.1 vm' := by
    rcases s1 with ⟨p1, p2, p3⟩ | ⟨p1, p2⟩ | ⟨p1, p2⟩
    · rcases s2 with ⟨g1, g2, g3⟩ | ⟨g1, -⟩ | ⟨g1, -⟩
      · exact ⟨by omega, by rw [p3, g3]; exact q4⟩
      · omega
      · omega
    · rcases s2 with ⟨g1, g2⟩ | ⟨g1, g2⟩ | ⟨g1, -⟩
      · omega
      · exact go_eq hM p2 g2 q5 q4 g
      · omega
    · rcases s2 with ⟨g1, g2⟩ | ⟨g1, -⟩ | ⟨g1, g2⟩
      · omega
      · omega
      · exact go_eq hM p2 g2 q6 q4 g
  exact ⟨key.1, rl_s2 av ap ai (kp.of g (by decide)) key.2 h⟩
theorem GrM.both5 {a : Rd St0} {r w r' w' : Int} {ok ok' : St0 → Prop} (h : GrM a r w ok) (h' : GrM a r' w' ok') (hk : okF a) (hr : 0 ≤ r) : ∃ S, a = .inr S ∧ ok S ∧ ok' S := by
  rcases h with ⟨k, q, h1, h2, h3⟩ | ⟨S, h1, h2, h3, h4⟩
  · have := hk k q h1
    omega
  · rcases h' with ⟨k', q', g1, g2, g3⟩ | ⟨S', g1, g2, g3, g4⟩
    · rw [h1] at g1
      cases g1
    · rw [h1] at g1
      cases g1
      exact ⟨S, h1, h4, g4⟩
theorem ri_z {B k : Nat} {w vm : Vf} (h1 : w 8 0 = 0) (h2 : vm 78 k = 0) : RI5 B k w vm := ⟨by rw [h1, h2], fun q => absurd (by rw [h2]; decide) q⟩
theorem rs_new {vs vs' vm vm' : Vf} (hM' : MdI vm') (h7 : vs 7 0 = vm 30 0) (g30 : vm' 30 = vm 30) (cs : stZ vs vs') (dz : mdRe vm') : RS5 vs' vm' := by
  obtain ⟨z0, z1, z2, z3, z4, z5, z6, z7, -⟩ := cs
  obtain ⟨y0, y1, y2, y3, y4, y5, y6⟩ := dz
  have n0 : (0 : Int32).toInt = 0 := by decide
  have h4 := hM'.1.2.1.1
  refine ⟨⟨by rw [z0, y0], fun j hj => by rw [z1 j hj, y1 j hj], fun j hj => by rw [z2 j hj, y2 j hj], fun j hj => by rw [z3 j hj, y3 j hj], by rw [z4, y4], by rw [z5, y5], by rw [z6, y6], by rw [z7, g30]; exact h7⟩, fun m hm => ?_, ?_⟩
  · have b := many_1 hM' m hm
    rw [y1 m (by omega)]
    omega
  · rw [y4]
    rcases hM'.1.2.2.1 with q | q
    · have := mul_pos1 q.1 q.2
      exact Or.inr (by omega)
    · exact Or.inl q.1
theorem rl_ground {X X' : TgX} {vm vm' : Vf} {r q : Int32} (h1 : (GrM (textF (X.1 0) (X.1 1 0).toInt 251 0 (SI (gr0 vm))) r.toInt (X'.1 2 0).toInt (fun S => ∃ cx ck, Rp S X'.2.1 cx ck) ∧ X'.1 0 = X.1 0 ∧ (X'.1 1 0).toInt = 0) ∧ GrC r X.1 X.2.1 X.2.2.1 X.2.2.2.1 X.2.2.2.2 X'.1 X'.2.1 X'.2.2.1 X'.2.2.2.1 X'.2.2.2.2) (h2 : (((∀ j : Nat, (j : Int) < (vm 32 0).toInt → 0 ≤ (vm 31 j).toInt) → GrM (textF (vm 31) (vm 32 0).toInt 251 0 (SI (gr0 vm))) q.toInt (vm' 33 0).toInt (fun S => RpMF S vm')) ∧ vm' 31 = vm 31 ∧ (vm' 32 0).toInt = 0) ∧ GrD q vm vm' ∧ vm' 30 = vm 30) (hM : MdI vm) (hM' : MdI vm') (h : Rl X vm) : r.toInt = q.toInt ∧ Rl X' vm' := by
  obtain ⟨⟨⟨⟨a1, a2⟩, a3⟩, a4⟩, q2, q3, q4, q5, q6⟩ := h
  obtain ⟨⟨t1, u1, u2⟩, g1⟩ := h1
  obtain ⟨⟨t2, w1, w2⟩, g2, g30⟩ := h2
  rw [a1, a2] at t1
  have f := t1.fn (t2 a3)
  have r3 : R3 X'.1 vm' := ⟨⟨⟨by rw [u1, w1, a1], Int32.toInt_inj.mp (by omega)⟩, fun j hj => by omega⟩, f.2⟩
  refine ⟨f.1, r3, ?_⟩
  rcases g1 with ⟨c1, cp, cs, ci, cj, cf⟩ | ⟨c1, cs, cb, ci, cj, cf⟩
  · rcases g2 with ⟨d1, df⟩ | ⟨d1, -⟩
    · exact ⟨rb_kp (kp.of cf (by decide)) (kp.of df (by decide)) q2, rp_kp cp (kp_keep2 (kp.of df (by decide))) q3, rs_kp hM cs (kp.of df (by decide)) (f24 df (by decide)) q4, ri_kp ci (kp.of df (by decide)) q5, ri_kp cj (kp.of df (by decide)) q6⟩
    · omega
  · rcases g2 with ⟨d1, df⟩ | ⟨d1, dz, db, dk⟩
    · omega
    · obtain ⟨S, hS, ⟨cx, ck, e1⟩, e2⟩ := t1.both5 (t2 a3) (okF.text _ _ _) c1
      have n0 : (0 : Int32).toInt = 0 := by decide
      have hq := rq_of e1 e2 (text_ok _ _ _ _ hS (ok_0 z0_gr0)) hM'.1
      exact ⟨⟨by rw [cb.1, db.2], by rw [cb.2, db.1], fun j hj => absurd hj (by rw [db.2, n0]; omega), fun j hj => absurd hj (by rw [db.1, n0]; omega)⟩, hq, rs_new hM' q4.1.2.2.2.2.2.2.2 g30 cs dz, ri_z ci.1 dk.1, ri_z cj.1 dk.2⟩
theorem rp_00 {vp : Vf} (hp : vp 0 0 = 0 ∧ vp 1 0 = 0 ∧ vp 5 0 = 0 ∧ vp 60 0 = 0 ∧ vp 70 0 = 0 ∧ vp 80 0 = 0 ∧ vp 90 0 = 0 ∧ (vp 20 0 = 1 ∧ vp 23 0 = 0 ∧ vp 23 1 = 0) ∧ (vp 30 0 = 1 ∧ vp 33 0 = 0 ∧ vp 33 1 = 0) ∧ (vp 40 0 = 1 ∧ vp 43 0 = 0 ∧ vp 43 1 = 0)) : RP5 vp vmd := by
  obtain ⟨p0, p1, p5, p6, p7, p8, p9, m0, m1, m2⟩ := hp
  have n0 : (0 : Int32).toInt = 0 := by decide
  have z0 : (vmd 0 0).toInt = 0 := n0
  have z4 : (vmd 4 0).toInt = 0 := n0
  have z9 : (vmd 9 0).toInt = 0 := n0
  have z12 : (vmd 12 0).toInt = 0 := n0
  have z16 : (vmd 16 0).toInt = 0 := n0
  have z19 : (vmd 19 0).toInt = 0 := n0
  refine ⟨⟨⟨p0, p1, fun c hc => ?_⟩, ⟨p5, ⟨fun hm => ?_, fun _ => m0⟩, ⟨fun hm => ?_, fun _ => m1⟩, ⟨fun hm => ?_, fun _ => m2⟩⟩, ⟨p6, fun k hk => ?_⟩, ⟨p7, fun k hk => ?_⟩, ⟨p8, fun k hk => ?_⟩, ⟨p9, fun k hk => ?_⟩⟩, fun k hk => ?_, fun k hk => ?_, fun k i hk => ?_, fun k hk => ?_, ?_, fun m _ _ => Or.inl z4⟩
  · rw [z0, Int.zero_mul] at hc; omega
  · rw [z4] at hm; omega
  · rw [z4] at hm; omega
  · rw [z4] at hm; omega
  · rw [z9] at hk; omega
  · rw [z12] at hk; omega
  · rw [z16] at hk; omega
  · rw [z19] at hk; omega
  · rw [z9] at hk; omega
  · rw [z12] at hk; omega
  · rw [z12] at hk; omega
  · rw [z16] at hk; omega
  · rw [z4]
    exact (by decide : (1 : Int32).toInt = 1)
theorem rs_00 : RS5 (up2 v00 6 0 20) vmd := by
  have n0 : (0 : Int32).toInt = 0 := by decide
  have z4 : (vmd 4 0).toInt = 0 := n0
  exact ⟨⟨rfl, fun _ _ => rfl, fun _ _ => rfl, fun _ _ => rfl, rfl, rfl, rfl, rfl⟩, fun m hm => by rw [z4] at hm; omega, Or.inl n0⟩
theorem lwj_md {E : Ev} {A : Nat → Prop} {qt qm : Nat} {X : TgX} {vm : Vf} {H : Heap} (h : LwJ E A qt qm X vm H) : MdI vm := by
  obtain ⟨wt, wm, -, ⟨am, -, -, h⟩, -⟩ := h
  exact h
