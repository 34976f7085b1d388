section
/-! ===== two worlds side by side ===== -/
theorem ap_l {α : Type} {a b : List α} {i : Nat} {x : α} (h : a[i]? = some x) : (a ++ b)[i]? = some x := by
  rw [List.getElem?_append_left (List.getElem?_eq_some_iff.mp h).1]
  exact h
theorem ap_r {α : Type} {a b : List α} {i : Nat} {x : α} (h : b[i]? = some x) : (a ++ b)[a.length + i]? = some x := by
  rw [List.getElem?_append_right (Nat.le_add_right _ _), Nat.add_sub_cancel_left]
  exact h
theorem va_P.l {D : va_G} {cl : List vw_C} {a b : va_W} {H : Heap} (h : va_P D cl (a ++ b) H) : va_P D cl a H := fun k q hk => h k q (ap_l hk)
theorem va_P.r {D : va_G} {cl : List vw_C} {a b : va_W} {H : Heap} (h : va_P D cl (a ++ b) H) : va_P D cl b H := fun k q hk => h _ q (ap_r hk)
theorem va_P.sw {D : va_G} {cl : List vw_C} {a b : va_W} {H : Heap} (h : va_P D cl (a ++ b) H) : va_P D cl (b ++ a) H := va_P.app h.r h.l
theorem va_D.l {A : Nat → Prop} {a b : va_W} (h : va_D A (a ++ b)) : va_D A a := ⟨fun i j x y hi hj e => h.1 i j x y (ap_l hi) (ap_l hj) e, fun k q hk => h.2 k q (ap_l hk)⟩
theorem va_D.r {A : Nat → Prop} {a b : va_W} (h : va_D A (a ++ b)) : va_D A b := ⟨fun i j x y hi hj e => Nat.add_left_cancel (h.1 _ _ x y (ap_r hi) (ap_r hj) e), fun k q hk => h.2 _ q (ap_r hk)⟩
theorem va_D.ap {A : Nat → Prop} {a b : va_W} (h : va_D A (a ++ b)) {i j : Nat} {x y : Nat × va_E} (hi : a[i]? = some x) (hj : b[j]? = some y) : x.1 ≠ y.1 := by
  intro e
  have h1 := h.1 _ _ x y (ap_l hi) (ap_r hj) e
  have h2 := (List.getElem?_eq_some_iff.mp hi).1
  omega
theorem va_D.sw {A : Nat → Prop} {a b : va_W} (h : va_D A (a ++ b)) : va_D A (b ++ a) := va_D.app h.r h.l (fun i j x y hi hj e => h.ap hj hi e.symm)
section LW
variable {p : Program} {l : Launch} {e : Env} {R : Room} {s : State} {m : MethodId} {args : Array Value} {below : List Frame} {meth : Method} {c : Code} {H : Heap} {locs : List Loc} {cells slots : Nat} {Q : State → Prop}
variable {y : MethodName} {bytes cc : ByteArray} {maxL nL n index : Nat} {ret : Option FieldType} {ws : List Cond} {rm : Room} {Ts : List Cond} {own C : String} {b : Addr} {As rest st0 : List Value} {pc : Nat} {ls : Array Slot} {E : Ev} {A : Nat → Prop}
/-- a call that writes in the first of two worlds -/
theorem lw_Vi {S : Type} {post : Int32 → S → Prop} {w1 : S → va_W} {wc wr : va_W} (S0 : CallFix p m c cc nL s args Ts own)
    (hM : Met l y ws rm (MtP E H.size (.ref b :: As) wc) (va_Qi post (MtB E (va_A wc H.size) w1) (va_A wc H.size)) 0 0 (va_A wc H.size)) (cw : CallW R s args own C index y bytes maxL ret ws rm 0 0 n)
    (hE : EN E A s s.heap) (hS : va_S A s.heap H locs) (hA : ∀ q, s.heap.size ≤ q → A q) (hP : va_P (eD E) vwCl (wc ++ wr) H) (hD : va_D A (wc ++ wr)) {ci : Nat} {fs : List Value} {r : vw_C} (hc : vwCl[ci]? = some r) (he : wc[0]? = some (b, .inr (ci, fs))) (hrC : r.1 = C)
    (hn : As.length = n) (hsize : ls.size = nL) (hst : st0 = As.reverse ++ .ref b :: rest) (hW : (rest.map fun v => v.category).sum ≤ 8) (hdg : decode cc pc = .ok (.invokevirtual index, 3)) (hf : cells ≤ R.cells ∧ slots ≤ R.slots)
    (kk : ∀ (r : Int32) (u : S) (H1 : Heap) (locs1 : List Loc), post r u → va_P (eD E) vwCl (w1 u ++ wr) H1 → va_D A (w1 u ++ wr) → va_S A s.heap H1 locs1 → W p l e R s m args below meth c H1 locs1 cells slots Q (F0 m (pc + 3) ls (.int r :: rest))) : W p l e R s m args below meth c H locs cells slots Q (F0 m pc ls st0) := by
  subst hrC
  have hPc : va_P (eD E) vwCl wc H := hP.l
  have hDc := hD.l
  have hFc : ∀ q, va_A wc H.size q → A q := by
    intro q h
    rcases h with ⟨k, z, h⟩ | h
    · exact hDc.2 k (q, z) h
    · exact hA q (Nat.le_trans hS.1 h)
  refine va_calli (va_runV S0 hM cw ⟨MtP.blind, va_recv hE.1 hPc hc he, fun U hU hW => ⟨rfl, by rw [hU], by rw [hU]; exact EN.warm hW ((hE.kept hS.2.1).narrow hFc), by rw [hU]; exact hPc, hDc.weaken (fun _ _ _ _ => trivial)⟩⟩ rfl hn hsize hst (lv_room hW) hdg hf) hS (fun q _ h => hFc q h) hFc (fun r u t H1 locs1 ht hvm hw hB hz1 hk1 hS1 => ?_)
  obtain ⟨hP1, hD1⟩ := hB
  rw [ht] at hP1
  have hap : ∀ (k : Nat) (q : Nat × va_E), wr[k]? = some q → ¬ va_A wc H.size q.1 := by
    intro k q hq h
    rcases h with ⟨k2, z, h⟩ | h
    · exact hD.ap h hq rfl
    · exact absurd (hP.r k q hq).lt (Nat.not_lt.mpr h)
  exact kk r u H1 locs1 hw (va_P.app hP1 (hP.r.kept (fun k q hq => hk1 q.1 (hP.r k q hq).lt (hap k q hq)))) (va_D.app (hD1.weaken (fun k q _ h => hFc q.1 h)) hD.r (fun i j x z hx hz hxz => hap j z hz (hxz ▸ hD1.2 i x hx))) hS1
end LW
/-- a world that a method may be called on, and is one of the kind again -/
def CalM {τ : Type} (l : Launch) (y : MethodName) (ws : List Cond) (rm : Room) (E : Ev) (q ci : Nat) (As : List Value) (TW : τ → va_W → Prop) (Po : τ → Int32 → τ → Prop) : Prop :=
  ∀ (sz : Nat) (X : τ) (w : va_W), TW X w → (∃ fs : List Value, w[0]? = some (q, .inr (ci, fs))) ∧ ∃ (S : Type) (post : Int32 → S → Prop) (w1 : S → va_W), Met l y ws rm (MtP E sz (.ref q :: As) w) (va_Qi post (MtB E (va_A w sz) w1) (va_A w sz)) 0 0 (va_A w sz) ∧ ∀ (r : Int32) (u : S), post r u → ∃ X' : τ, TW X' (w1 u) ∧ Po X r X'
def CalR {τ : Type} (l : Launch) (y : MethodName) (ws : List Cond) (rm : Room) (E : Ev) (A : Nat → Prop) (q ci : Nat) (As : List Value) (TW : τ → va_W → Prop) (Po : τ → Int32 → Prop) : Prop :=
  ∀ (X : τ) (w : va_W), TW X w → ∃ (wc : va_W) (is : List Nat) (fs : List Value) (post : Int32 → Prop), is.filterMap (fun i => w[i]?) = wc ∧ wc[0]? = some (q, .inr (ci, fs)) ∧ Met l y ws rm (RdP E A (.ref q :: As) wc) (vp_Si post) 0 0 (fun _ => False) ∧ ∀ r, post r → Po X r
abbrev TgX : Type := Vf × Vf × Vf × Vf × Vf
def TgW (E : Ev) (q : Nat) (X : TgX) (w : va_W) : Prop := ∃ (a : Nat → Nat) (cz0 : Nat) (cz1 : Nat) (rt : Value) (rp : Value) (aq : Nat → Nat) (vq : Vf) (ap : Nat → Nat) (as_ : Nat → Nat) (ai : Nat → Nat) (bi : Nat → Nat), w = tgL E a X.1 cz0 cz1 rt rp aq vq ap X.2.1 as_ X.2.2.1 ai X.2.2.2.1 bi X.2.2.2.2 ∧ a 99 = q ∧ TgA X.1 X.2.1 vq X.2.2.1 X.2.2.2.1 X.2.2.2.2
def MdW (E : Ev) (q : Nat) (vm : Vf) (w : va_W) : Prop := ∃ am : Nat → Nat, w = mdL E am vm ∧ am 0 = q ∧ MdI vm
def R3 (v vm : Vf) : Prop := ((v 0 = vm 31 ∧ v 1 0 = vm 32 0) ∧ (∀ j : Nat, (j : Int) < (vm 32 0).toInt → 0 ≤ (vm 31 j).toInt)) ∧ (v 2 0).toInt = (vm 33 0).toInt
def RB5 (v vm : Vf) : Prop := v 12 0 = vm 75 0 ∧ v 401 0 = vm 67 0 ∧ (∀ j : Nat, (j : Int) < (vm 75 0).toInt → v 11 j = vm 76 j ∧ 0 ≤ (vm 76 j).toInt ∧ (vm 76 j).toInt ≤ 4) ∧ (∀ j : Nat, (j : Int) < (vm 67 0).toInt → (v 402 j = vm 68 j ∧ v 403 j = vm 69 j ∧ v 404 j = vm 70 j) ∧ (vm 68 j).toInt < (vm 0 0).toInt * (vm 1 0).toInt)
def RP5 (vp vm : Vf) : Prop := RqP vm vp ∧ okM vm
def RS5 (vs vm : Vf) : Prop := RqL vm vs ∧ stI vm
def imL (w : Vf) (f : Nat → Int32) (B : Nat) : Prop := w 0 0 = f (B + 33) ∧ (∀ j, j < 3 → w 1 j = f (B + 30 + j)) ∧ (∀ j, j < 24 → w 2 j = f (B + j)) ∧ (∀ j, j < 6 → w 3 j = f (B + 24 + j)) ∧ w 4 0 = f (B + 34) ∧ w 5 0 = f (B + 35) ∧ w 6 0 = f (B + 36) ∧ w 7 0 = f (B + 37)
def imT (vm : Vf) (B : Nat) : Prop := (∀ m : Nat, (m : Int) < (vm 4 0).toInt → 0 ≤ (vm 77 (B + 30 + m)).toInt ∧ (vm 77 (B + 30 + m)).toInt < (vm 5 m).toInt) ∧ ((vm 0 0).toInt = 0 ∨ (vm 77 (B + 34)).toInt < (vm 0 0).toInt * (vm 1 0).toInt)
def RI5 (B k : Nat) (w vm : Vf) : Prop := ((w 8 0).toInt = 0 ↔ (vm 78 k).toInt = 0) ∧ ((vm 78 k).toInt ≠ 0 → imL w (vm 77) B ∧ imT vm B)
abbrev kp (l : List Nat) (v w : Vf) : Prop := ∀ t ∈ l, w t = v t
abbrev lNS : List Nat := [0, 1, 2, 3, 4, 5, 6, 7, 8, 9, 10, 11, 12, 13, 14, 15, 16, 17, 18, 19, 20, 21, 22, 31, 32, 33, 67, 68, 69, 70, 75, 76, 77, 78]
abbrev lKM : List Nat := [0, 1, 2, 3, 4, 5, 6, 7, 8, 9, 10, 11, 12, 13, 14, 15, 16, 17, 18, 19, 20, 21, 22, 23, 25, 26, 27, 28, 29, 30, 31, 32, 33, 67, 68, 69, 70, 75, 76, 77, 78]
abbrev lKV : List Nat := [0, 1, 2, 11, 12, 401, 402, 403, 404]
def Rl (X : TgX) (vm : Vf) : Prop := R3 X.1 vm ∧ RB5 X.1 vm ∧ RP5 X.2.1 vm ∧ RS5 X.2.2.1 vm ∧ RI5 0 0 X.2.2.2.1 vm ∧ RI5 40 1 X.2.2.2.2 vm
def LwJ (E : Ev) (A : Nat → Prop) (qt qm : Nat) (X : TgX) (vm : Vf) (H : Heap) : Prop := ∃ wt wm : va_W, TgW E qt X wt ∧ MdW E qm vm wm ∧ va_P (eD E) vwCl (wt ++ wm) H ∧ va_D A (wt ++ wm)
def LwI (E : Ev) (A : Nat → Prop) (qt qm : Nat) (H : Heap) : Prop := ∃ (X : TgX) (vm : Vf), Rl X vm ∧ LwJ E A qt qm X vm H
def LwC (p : Program) (s : State) (m : MethodId) (c : Code) (b L : Nat) (xs : Nat → Int32) (E : Ev) (A : Nat → Prop) : Prop :=
  CallFix p m c cL_law 4 s #[Value.ref b] [] RL ∧ EN E A s s.heap ∧ (∀ q, s.heap.size ≤ q → A q) ∧ va_X b L xs s s.heap ∧ b < s.heap.size ∧ ¬ A b ∧ L ≤ 448 ∧ ∀ w ∈ lw_tbl, w.before #[Value.ref b] s = true
abbrev lwl (b qt qm : Nat) (i : Int32) : List (Nat × Value) := [(0, .ref b), (1, .ref qt), (2, .ref qm), (3, .int i)]
section LC
variable {p : Program} {l : Launch} {e : Env} {s : State} {m : MethodId} {below : List Frame} {meth : Method} {c : Code} {H : Heap} {locs : List Loc} {cells slots : Nat} {Q : State → Prop}
variable {y : MethodName} {bytes : ByteArray} {maxL n index : Nat} {ret : Option FieldType} {ws : List Cond} {rm : Room} {b L qt qm : Nat} {xs : Nat → Int32} {As rest st0 : List Value} {pc : Nat} {ls : Array Slot} {E : Ev} {A : Nat → Prop}
theorem lw_arg (C : LwC p s m c b L xs E A) (hS : va_S A s.heap H locs) {i v : Int32} (hl : lv_has ls 4 (lwl b qt qm i)) (hi : 0 ≤ i.toInt ∧ i.toInt + 7 ≤ L) {k : Int} (hk : Int32.ofInt k = v) (hv : 0 ≤ v.toInt ∧ v.toInt ≤ 6) (d0 : decode cL_law pc = .ok (.aload_n 0, 1)) (d1 : decode cL_law (pc + 1) = .ok (.iload_n 3, 1)) (d2 : decode cL_law (pc + 1 + 1) = .ok (.iconst k, 1)) (d3 : decode cL_law (pc + 1 + 1 + 1) = .ok (.iadd, 1)) (d4 : decode cL_law (pc + 1 + 1 + 1 + 1) = .ok (.iaload, 1))
    (kk : W p l e room_1 s m #[Value.ref b] below meth c H locs cells slots Q (F0 m (pc + 1 + 1 + 1 + 1 + 1) ls (.int (xs (i + v).toNatClampNeg) :: rest))) : W p l e room_1 s m #[Value.ref b] below meth c H locs cells slots Q (F0 m pc ls rest) := by
  obtain ⟨⟨hx, hb, hml, hown, hts⟩, hE, hA, hX, hbl, hbA, hL, hw⟩ := C
  refine lv_aload_n hx hb d0 rfl (lv_at hl 0 rfl) ?_
  refine lv_iload_n hx hb d1 rfl (lv_at hl 3 rfl) ?_
  refine lv_iconst (v := v) hx hb d2 hk ?_
  refine lv_iadd hx hb d3 ?_
  have e9 : (i + v).toInt = i.toInt + v.toInt := i_add rfl (by omega)
  exact va_sld hx hb hX hbl hbA hS (i_in (by omega) (by omega)) d4 kk
theorem lw_arg6 (C : LwC p s m c b L xs E A) (hS : va_S A s.heap H locs) {i v : Int32} (hl : lv_has ls 4 (lwl b qt qm i)) (hi : 0 ≤ i.toInt ∧ i.toInt + 7 ≤ L) {k : Int} (hk : (Int8.ofInt k).toInt32 = v) (hv : 0 ≤ v.toInt ∧ v.toInt ≤ 6) (d0 : decode cL_law pc = .ok (.aload_n 0, 1)) (d1 : decode cL_law (pc + 1) = .ok (.iload_n 3, 1)) (d2 : decode cL_law (pc + 1 + 1) = .ok (.bipush k, 2)) (d3 : decode cL_law (pc + 1 + 1 + 2) = .ok (.iadd, 1)) (d4 : decode cL_law (pc + 1 + 1 + 2 + 1) = .ok (.iaload, 1))
    (kk : W p l e room_1 s m #[Value.ref b] below meth c H locs cells slots Q (F0 m (pc + 1 + 1 + 2 + 1 + 1) ls (.int (xs (i + v).toNatClampNeg) :: rest))) : W p l e room_1 s m #[Value.ref b] below meth c H locs cells slots Q (F0 m pc ls rest) := by
  obtain ⟨⟨hx, hb, hml, hown, hts⟩, hE, hA, hX, hbl, hbA, hL, hw⟩ := C
  refine lv_aload_n hx hb d0 rfl (lv_at hl 0 rfl) ?_
  refine lv_iload_n hx hb d1 rfl (lv_at hl 3 rfl) ?_
  refine lv_bipush (v := v) hx hb d2 hk ?_
  refine lv_iadd hx hb d3 ?_
  have e9 : (i + v).toInt = i.toInt + v.toInt := i_add rfl (by omega)
  exact va_sld hx hb hX hbl hbA hS (i_in (by omega) (by omega)) d4 kk
theorem lw_tM {X : TgX} {vm : Vf} {Po : TgX → Int32 → TgX → Prop} (C : LwC p s m c b L xs E A) (hS : va_S A s.heap H locs) (I : LwJ E A qt qm X vm H) (hM : CalM l y ws rm E qt 9 As (TgW E qt) Po) (cw : CallW room_1 s #[Value.ref b] RL RX9 index y bytes maxL ret ws rm 0 0 n)
    (hn : As.length = n) (hsize : ls.size = 4) (hst : st0 = As.reverse ++ .ref qt :: rest) (hW : (rest.map fun v => v.category).sum ≤ 8) (hdg : decode cL_law pc = .ok (.invokevirtual index, 3)) (hf : cells ≤ room_1.cells ∧ slots ≤ room_1.slots)
    (kk : ∀ (r : Int32) (X' : TgX) (H1 : Heap) (locs1 : List Loc), Po X r X' → va_S A s.heap H1 locs1 → LwJ E A qt qm X' vm H1 → W p l e room_1 s m #[Value.ref b] below meth c H1 locs1 cells slots Q (F0 m (pc + 3) ls (.int r :: rest))) : W p l e room_1 s m #[Value.ref b] below meth c H locs cells slots Q (F0 m pc ls st0) := by
  obtain ⟨wt, wm, ht, hm, hP, hD⟩ := I
  obtain ⟨⟨fs, hfs⟩, S, post, w1, hMet, hpo⟩ := hM H.size X wt ht
  exact lw_Vi C.1 hMet cw C.2.1 hS C.2.2.1 hP hD rfl hfs rfl hn hsize hst hW hdg hf (fun r u H1 locs1 h hP hD hS => by
    obtain ⟨X', h1, h2⟩ := hpo r u h
    exact kk r X' H1 locs1 h2 hS ⟨w1 u, wm, h1, hm, hP, hD⟩)
theorem lw_mM {X : TgX} {vm : Vf} {Po : Vf → Int32 → Vf → Prop} (C : LwC p s m c b L xs E A) (hS : va_S A s.heap H locs) (I : LwJ E A qt qm X vm H) (hM : CalM l y ws rm E qm 10 As (MdW E qm) Po) (cw : CallW room_1 s #[Value.ref b] RL RX10 index y bytes maxL ret ws rm 0 0 n)
    (hn : As.length = n) (hsize : ls.size = 4) (hst : st0 = As.reverse ++ .ref qm :: rest) (hW : (rest.map fun v => v.category).sum ≤ 8) (hdg : decode cL_law pc = .ok (.invokevirtual index, 3)) (hf : cells ≤ room_1.cells ∧ slots ≤ room_1.slots)
    (kk : ∀ (r : Int32) (vm' : Vf) (H1 : Heap) (locs1 : List Loc), Po vm r vm' → va_S A s.heap H1 locs1 → LwJ E A qt qm X vm' H1 → W p l e room_1 s m #[Value.ref b] below meth c H1 locs1 cells slots Q (F0 m (pc + 3) ls (.int r :: rest))) : W p l e room_1 s m #[Value.ref b] below meth c H locs cells slots Q (F0 m pc ls st0) := by
  obtain ⟨wt, wm, ht, hm, hP, hD⟩ := I
  obtain ⟨⟨fs, hfs⟩, S, post, w1, hMet, hpo⟩ := hM H.size vm wm hm
  exact lw_Vi C.1 hMet cw C.2.1 hS C.2.2.1 hP.sw hD.sw rfl hfs rfl hn hsize hst hW hdg hf (fun r u H1 locs1 h hP hD hS => by
    obtain ⟨vm', h1, h2⟩ := hpo r u h
    exact kk r vm' H1 locs1 h2 hS ⟨wt, w1 u, ht, h1, hP.sw, hD.sw⟩)
theorem lw_tR {X : TgX} {vm : Vf} {Po : TgX → Int32 → Prop} (C : LwC p s m c b L xs E A) (hS : va_S A s.heap H locs) (I : LwJ E A qt qm X vm H) (hM : CalR l y ws rm E A qt 9 As (TgW E qt) Po) (cw : CallW room_1 s #[Value.ref b] RL RX9 index y bytes maxL ret ws rm 0 0 n)
    (hn : As.length = n) (hsize : ls.size = 4) (hst : st0 = As.reverse ++ .ref qt :: rest) (hW : (rest.map fun v => v.category).sum ≤ 8) (hdg : decode cL_law pc = .ok (.invokevirtual index, 3)) (hf : cells ≤ room_1.cells ∧ slots ≤ room_1.slots)
    (kk : ∀ r : Int32, Po X r → W p l e room_1 s m #[Value.ref b] below meth c H locs cells slots Q (F0 m (pc + 3) ls (.int r :: rest))) : W p l e room_1 s m #[Value.ref b] below meth c H locs cells slots Q (F0 m pc ls st0) := by
  obtain ⟨wt, wm, ht, hm, hP, hD⟩ := I
  obtain ⟨wc, is, fs, post, his, hfs, hMet, hpo⟩ := hM X wt ht
  exact rd_V C.1 hMet cw (C.2.1.kept hS.2.1) (hP.l.sub is his) rfl hfs rfl hn hsize hst hW hdg hf (fun r h => kk r (hpo r h))
theorem lw_mR {X : TgX} {vm : Vf} {Po : Vf → Int32 → Prop} (C : LwC p s m c b L xs E A) (hS : va_S A s.heap H locs) (I : LwJ E A qt qm X vm H) (hM : CalR l y ws rm E A qm 10 As (MdW E qm) Po) (cw : CallW room_1 s #[Value.ref b] RL RX10 index y bytes maxL ret ws rm 0 0 n)
    (hn : As.length = n) (hsize : ls.size = 4) (hst : st0 = As.reverse ++ .ref qm :: rest) (hW : (rest.map fun v => v.category).sum ≤ 8) (hdg : decode cL_law pc = .ok (.invokevirtual index, 3)) (hf : cells ≤ room_1.cells ∧ slots ≤ room_1.slots)
    (kk : ∀ r : Int32, Po vm r → W p l e room_1 s m #[Value.ref b] below meth c H locs cells slots Q (F0 m (pc + 3) ls (.int r :: rest))) : W p l e room_1 s m #[Value.ref b] below meth c H locs cells slots Q (F0 m pc ls st0) := by
  obtain ⟨wt, wm, ht, hm, hP, hD⟩ := I
  obtain ⟨wc, is, fs, post, his, hfs, hMet, hpo⟩ := hM vm wm hm
  exact rd_V C.1 hMet cw (C.2.1.kept hS.2.1) (hP.r.sub is his) rfl hfs rfl hn hsize hst hW hdg hf (fun r h => kk r (hpo r h))
end LC
def KpX (X X' : TgX) : Prop := kp lKV X.1 X'.1 ∧ X'.2 = X.2
def KpM (vm vm' : Vf) : Prop := kp lKM vm vm' ∧ ∀ j, j < 3 → vm' 24 j = vm 24 j
def KpS (l : List Nat) (X X' : TgX) : Prop := fr l X.2.2.1 X'.2.2.1 ∧ X'.1 = X.1 ∧ X'.2.1 = X.2.1 ∧ X'.2.2.2 = X.2.2.2
def KpV (l : List Nat) (X X' : TgX) : Prop := fr l X.1 X'.1 ∧ X'.2 = X.2
theorem kp.of {l l' : List Nat} {v w : Vf} (h : fr l v w) (hd : ∀ t ∈ l', t ∉ l) : kp l' v w := fun t q => h t (hd t q)
theorem kp.sub {l l' : List Nat} {v w : Vf} (h : kp l v w) (hd : ∀ t ∈ l', t ∈ l) : kp l' v w := fun t q => h t (hd t q)
theorem kp.rf {l : List Nat} {v : Vf} : kp l v v := fun _ _ => rfl
theorem kp.eq {l : List Nat} {v w : Vf} (h : w = v) : kp l v w := by rw [h]; exact kp.rf
theorem r3_kp {v v' vm vm' : Vf} (h1 : kp [0, 1, 2] v v') (h2 : kp [31, 32, 33] vm vm') (h : R3 v vm) : R3 v' vm' := by
  unfold R3 at h ⊢
  rw [h1 0 (by decide), h1 1 (by decide), h1 2 (by decide), h2 31 (by decide), h2 32 (by decide), h2 33 (by decide)]
  exact h
theorem rb_kp {v v' vm vm' : Vf} (h1 : kp [11, 12, 401, 402, 403, 404] v v') (h2 : kp [0, 1, 67, 68, 69, 70, 75, 76] vm vm') (h : RB5 v vm) : RB5 v' vm' := by
  unfold RB5 at h ⊢
  rw [h1 11 (by decide), h1 12 (by decide), h1 401 (by decide), h1 402 (by decide), h1 403 (by decide), h1 404 (by decide), h2 0 (by decide), h2 1 (by decide), h2 67 (by decide), h2 68 (by decide), h2 69 (by decide), h2 70 (by decide), h2 75 (by decide), h2 76 (by decide)]
  exact h
theorem rp_kp {w w' vm vm' : Vf} (h1 : w' = w) (h2 : keepP vm vm') (h : RP5 w vm) : RP5 w' vm' := by
  subst h1
  exact ⟨rqp_fr h2 h.1, okm_fr h2 h.2⟩
abbrev lP22 : List Nat := [0, 1, 2, 3, 4, 5, 6, 7, 8, 9, 10, 11, 12, 13, 14, 15, 16, 17, 18, 19, 20, 21, 22]
theorem kp_keep2 {vm vm' : Vf} (h : kp lP22 vm vm') : keepP vm vm' := fun t ht => by
  refine h t ?_
  have : t = 0 ∨ t = 1 ∨ t = 2 ∨ t = 3 ∨ t = 4 ∨ t = 5 ∨ t = 6 ∨ t = 7 ∨ t = 8 ∨ t = 9 ∨ t = 10 ∨ t = 11 ∨ t = 12 ∨ t = 13 ∨ t = 14 ∨ t = 15 ∨ t = 16 ∨ t = 17 ∨ t = 18 ∨ t = 19 ∨ t = 20 ∨ t = 21 ∨ t = 22 := by omega
  rcases this with rfl | rfl | rfl | rfl | rfl | rfl | rfl | rfl | rfl | rfl | rfl | rfl | rfl | rfl | rfl | rfl | rfl | rfl | rfl | rfl | rfl | rfl | rfl <;> decide
theorem kp_keep {vm vm' : Vf} (h : kp lNS vm vm') : keepP vm vm' := kp_keep2 (h.sub (by decide))
theorem imt_kp {B : Nat} {vm vm' : Vf} (h2 : kp [0, 1, 4, 5, 77] vm vm') (h : imT vm B) : imT vm' B := by
  unfold imT at h ⊢
  rw [h2 0 (by decide), h2 1 (by decide), h2 4 (by decide), h2 5 (by decide), h2 77 (by decide)]
  exact h
theorem ri_kp {B k : Nat} {w w' vm vm' : Vf} (h1 : w' = w) (h2 : kp [0, 1, 4, 5, 77, 78] vm vm') (h : RI5 B k w vm) : RI5 B k w' vm' := by
  subst h1
  refine ⟨by rw [h2 78 (by decide)]; exact h.1, fun q => ?_⟩
  rw [h2 78 (by decide)] at q
  have z := h.2 q
  exact ⟨by rw [h2 77 (by decide)]; exact z.1, imt_kp (h2.sub (by decide)) z.2⟩
theorem sti_kp {vm vm' : Vf} (hM : MdI vm) (h2 : kp [0, 1, 4, 5, 27] vm vm') (h24 : ∀ j, j < 3 → vm' 24 j = vm 24 j) (h : stI vm) : stI vm' := by
  have h4 := hM.1.2.1.1
  refine ⟨fun m hm => ?_, ?_⟩
  · rw [h2 4 (by decide)] at hm
    rw [h24 m (by omega), h2 5 (by decide)]
    exact h.1 m hm
  · rw [h2 0 (by decide), h2 1 (by decide), h2 27 (by decide)]
    exact h.2
theorem rs_kp {w w' vm vm' : Vf} (hM : MdI vm) (h1 : w' = w) (h2 : kp [0, 1, 4, 5, 23, 25, 26, 27, 28, 29, 30] vm vm') (h24 : ∀ j, j < 3 → vm' 24 j = vm 24 j) (h : RS5 w vm) : RS5 w' vm' := by
  subst h1
  obtain ⟨hL, hS⟩ := h
  refine ⟨⟨?_, fun j hj => ?_, ?_, ?_, ?_, ?_, ?_, ?_⟩, sti_kp hM (h2.sub (by decide)) h24 hS⟩
  · rw [h2 23 (by decide)]; exact hL.1
  · rw [h24 j hj]; exact hL.2.1 j hj
  · rw [h2 25 (by decide)]; exact hL.2.2.1
  · rw [h2 26 (by decide)]; exact hL.2.2.2.1
  · rw [h2 27 (by decide)]; exact hL.2.2.2.2.1
  · rw [h2 28 (by decide)]; exact hL.2.2.2.2.2.1
  · rw [h2 29 (by decide)]; exact hL.2.2.2.2.2.2.1
  · rw [h2 30 (by decide)]; exact hL.2.2.2.2.2.2.2
theorem rl_rw {X : TgX} {vm : Vf} (h : Rl X vm) (hM : MdI vm) : RW vm X.2.1 X.2.2.1 := ⟨h.2.2.1.1, h.2.2.2.1.1, h.2.2.2.1.2, hM.1, h.2.2.1.2⟩
theorem rl_k {X X' : TgX} {vm vm' : Vf} (hM : MdI vm) (h1 : KpX X X') (h2 : KpM vm vm') (h : Rl X vm) : Rl X' vm' := by
  obtain ⟨a, b⟩ := h1
  obtain ⟨k, k24⟩ := h2
  obtain ⟨q1, q2, q3, q4, q5, q6⟩ := h
  exact ⟨r3_kp (a.sub (by decide)) (k.sub (by decide)) q1, rb_kp (a.sub (by decide)) (k.sub (by decide)) q2, rp_kp (by rw [b]) (kp_keep (k.sub (by decide))) q3, rs_kp hM (by rw [b]) (k.sub (by decide)) k24 q4, ri_kp (by rw [b]) (k.sub (by decide)) q5, ri_kp (by rw [b]) (k.sub (by decide)) q6⟩
theorem rl_s2 {X X' : TgX} {vm vm' : Vf} (a : X'.1 = X.1) (b : X'.2.1 = X.2.1) (c : X'.2.2.2 = X.2.2.2) (h2 : kp lNS vm vm') (hs : RS5 X'.2.2.1 vm') (h : Rl X vm) : Rl X' vm' := by
  obtain ⟨q1, q2, q3, -, q5, q6⟩ := h
  exact ⟨r3_kp (kp.eq a) (h2.sub (by decide)) q1, rb_kp (kp.eq a) (h2.sub (by decide)) q2, rp_kp b (kp_keep h2) q3, hs, ri_kp (by rw [c]) (h2.sub (by decide)) q5, ri_kp (by rw [c]) (h2.sub (by decide)) q6⟩
/-- calls that change the state alone -/
theorem rl_s {X X' : TgX} {vm vm' : Vf} {l : List Nat} (h1 : KpS l X X') (h2 : kp lNS vm vm') (hs : RS5 X'.2.2.1 vm') (h : Rl X vm) : Rl X' vm' := rl_s2 h1.2.1 h1.2.2.1 h1.2.2.2 h2 hs h
theorem set_eq {x : Int32} {lo hi : Int} {a r a' b q b' : Int32} (h1 : SetP x lo hi a r a') (h2 : SetP x lo hi b q b') (e : a = b) : r.toInt = q.toInt ∧ a' = b' := by
  rcases h1 with ⟨p1, p2, p3⟩ | ⟨p1, p2, p3⟩
  · rcases h2 with ⟨g1, g2, g3⟩ | ⟨g1, g2, g3⟩
    · exact ⟨by omega, by rw [p3, g3, e]⟩
    · omega
  · rcases h2 with ⟨g1, g2, g3⟩ | ⟨g1, g2, g3⟩
    · omega
    · exact ⟨by rw [p2, g2, e], by rw [p3, g3]⟩
theorem prop_eq {h z n m : Int32} {f f' g g' : Nat → Int32} {r q : Int32} (h1 : PropP h z n f r f') (h2 : PropP h z m g q g') (en : n.toInt = m.toInt) (ef : ∀ j, j < 6 → f j = g j) : r.toInt = q.toInt ∧ ∀ j, j < 6 → f' j = g' j := by
  rcases h1 with ⟨p1, p2, p3⟩ | ⟨p0, ⟨p1, p2, p3⟩ | ⟨p1, p2, p3⟩⟩
  · rcases h2 with ⟨g1, g2, g3⟩ | ⟨g0, g1⟩
    · exact ⟨by omega, by rw [p3, g3]; exact ef⟩
    · omega
  · rcases h2 with ⟨g1, g2, g3⟩ | ⟨g0, ⟨g1, g2, g3⟩ | ⟨g1, g2, g3⟩⟩
    · omega
    · exact ⟨by omega, by rw [p3, g3]; exact ef⟩
    · omega
  · rcases h2 with ⟨g1, g2, g3⟩ | ⟨g0, ⟨g1, g2, g3⟩ | ⟨g1, g2, g3⟩⟩
    · omega
    · omega
    · have hk : h.toNatClampNeg < 6 := by show h.toInt.toNat < 6; omega
      refine ⟨by rw [p2, g2, ef _ hk], fun j hj => ?_⟩
      rw [p3, g3]
      by_cases e : j = h.toNatClampNeg
      · subst e
        rw [updA, updA]
      · rw [updN e, updN e]
        exact ef j hj
theorem cnt_eq {ok : Prop} {m : Int} {a r a' b q b' : Int32} (h1 : CntP ok m a r a') (h2 : CntP ok m b q b') (e : a = b) : r.toInt = q.toInt ∧ a' = b' := by
  subst e
  rcases h1 with ⟨p1, p2, p3⟩ | ⟨p0, ⟨p1, p2, p3⟩ | ⟨p1, p2, p3⟩⟩
  · rcases h2 with ⟨g1, g2, g3⟩ | ⟨g0, g1⟩
    · exact ⟨by omega, by rw [p3, g3]⟩
    · exact absurd g0 p2
  · rcases h2 with ⟨g1, g2, g3⟩ | ⟨g0, ⟨g1, g2, g3⟩ | ⟨g1, g2, g3⟩⟩
    · exact absurd p0 g2
    · exact ⟨by omega, by rw [p3, g3]⟩
    · omega
  · rcases h2 with ⟨g1, g2, g3⟩ | ⟨g0, ⟨g1, g2, g3⟩ | ⟨g1, g2, g3⟩⟩
    · exact absurd p0 g2
    · omega
    · exact ⟨by omega, Int32.toInt_inj.mp (by omega)⟩
theorem see_eq {x y t h W D W2 D2 a r a' b q b' : Int32} (h1 : SeeP x y t h W D a r a') (h2 : SeeP x y t h W2 D2 b q b') (eW : W.toInt = W2.toInt) (eD : D.toInt = D2.toInt) (e : a = b) : r.toInt = q.toInt ∧ a' = b' := by
  unfold SeeP at h1 h2
  rw [← eW, ← eD] at h2
  rcases h1 with ⟨p1, p2, p3⟩ | ⟨p0, p1⟩
  · rcases h2 with ⟨g1, g2, g3⟩ | ⟨g0, g1⟩
    · exact ⟨by omega, by rw [p3, g3, e]⟩
    · exact absurd g0 p2
  · rcases h2 with ⟨g1, g2, g3⟩ | ⟨g0, g1⟩
    · exact absurd p0 g2
    · exact cnt_eq p1 g1 e
theorem f24 {vm vm' : Vf} {l : List Nat} (g : fr l vm vm') (h : 24 ∉ l) : ∀ j, j < 3 → vm' 24 j = vm 24 j := fun j _ => by rw [g 24 h]
theorem rl_pass {X X' : TgX} {vm vm' : Vf} {z0 r q : Int32} (h1 : PassP z0 (X.2.2.1 0 0) r (X'.2.2.1 0 0) ∧ KpS [0] X X') (h2 : PassP z0 (vm 23 0) q (vm' 23 0) ∧ fr [23] vm vm') (hM : MdI vm) (hM' : MdI vm') (h : Rl X vm) : r.toInt = q.toInt ∧ Rl X' vm' := by
  obtain ⟨s1, k1⟩ := h1
  obtain ⟨s2, g⟩ := h2
  have f := k1.1
  obtain ⟨hL, hS⟩ := h.2.2.2.1
  have e := pass_eq s1 s2 hL.1
  exact ⟨e.1, rl_s k1 (kp.of g (by decide)) ⟨⟨e.2, (by rw [f 1 (by decide), g 24 (by decide)]; exact hL.2.1), (by rw [f 2 (by decide), g 25 (by decide)]; exact hL.2.2.1), (by rw [f 3 (by decide), g 26 (by decide)]; exact hL.2.2.2.1), (by rw [f 4 (by decide), g 27 (by decide)]; exact hL.2.2.2.2.1), (by rw [f 5 (by decide), g 28 (by decide)]; exact hL.2.2.2.2.2.1), (by rw [f 6 (by decide), g 29 (by decide)]; exact hL.2.2.2.2.2.2.1), (by rw [f 7 (by decide), g 30 (by decide)]; exact hL.2.2.2.2.2.2.2)⟩, sti_kp hM (kp.of g (by decide)) (f24 g (by decide)) hS⟩ h⟩
theorem rl_steep {X X' : TgX} {vm vm' : Vf} {z0 r q : Int32} (h1 : SetP z0 0 99 (X.2.2.1 6 0) r (X'.2.2.1 6 0) ∧ KpS [6] X X') (h2 : SetP z0 0 99 (vm 29 0) q (vm' 29 0) ∧ fr [29] vm vm') (hM : MdI vm) (hM' : MdI vm') (h : Rl X vm) : r.toInt = q.toInt ∧ Rl X' vm' := by
  obtain ⟨s1, k1⟩ := h1
  obtain ⟨s2, g⟩ := h2
  have f := k1.1
  obtain ⟨hL, hS⟩ := h.2.2.2.1
  have e := set_eq s1 s2 hL.2.2.2.2.2.2.1
  exact ⟨e.1, rl_s k1 (kp.of g (by decide)) ⟨⟨(by rw [f 0 (by decide), g 23 (by decide)]; exact hL.1), (by rw [f 1 (by decide), g 24 (by decide)]; exact hL.2.1), (by rw [f 2 (by decide), g 25 (by decide)]; exact hL.2.2.1), (by rw [f 3 (by decide), g 26 (by decide)]; exact hL.2.2.2.1), (by rw [f 4 (by decide), g 27 (by decide)]; exact hL.2.2.2.2.1), (by rw [f 5 (by decide), g 28 (by decide)]; exact hL.2.2.2.2.2.1), e.2, (by rw [f 7 (by decide), g 30 (by decide)]; exact hL.2.2.2.2.2.2.2)⟩, sti_kp hM (kp.of g (by decide)) (f24 g (by decide)) hS⟩ h⟩
theorem rl_seed {X X' : TgX} {vm vm' : Vf} {z0 r q : Int32} (h1 : SetP z0 0 2147483647 (X.2.2.1 7 0) r (X'.2.2.1 7 0) ∧ KpS [7] X X') (h2 : SetP z0 0 2147483647 (vm 30 0) q (vm' 30 0) ∧ fr [30] vm vm') (hM : MdI vm) (hM' : MdI vm') (h : Rl X vm) : r.toInt = q.toInt ∧ Rl X' vm' := by
  obtain ⟨s1, k1⟩ := h1
  obtain ⟨s2, g⟩ := h2
  have f := k1.1
  obtain ⟨hL, hS⟩ := h.2.2.2.1
  have e := set_eq s1 s2 hL.2.2.2.2.2.2.2
  exact ⟨e.1, rl_s k1 (kp.of g (by decide)) ⟨⟨(by rw [f 0 (by decide), g 23 (by decide)]; exact hL.1), (by rw [f 1 (by decide), g 24 (by decide)]; exact hL.2.1), (by rw [f 2 (by decide), g 25 (by decide)]; exact hL.2.2.1), (by rw [f 3 (by decide), g 26 (by decide)]; exact hL.2.2.2.1), (by rw [f 4 (by decide), g 27 (by decide)]; exact hL.2.2.2.2.1), (by rw [f 5 (by decide), g 28 (by decide)]; exact hL.2.2.2.2.2.1), (by rw [f 6 (by decide), g 29 (by decide)]; exact hL.2.2.2.2.2.2.1), e.2⟩, sti_kp hM (kp.of g (by decide)) (f24 g (by decide)) hS⟩ h⟩
theorem rl_prop {X X' : TgX} {vm vm' : Vf} {z0 z1 r q : Int32} (h1 : PropP z0 z1 (X.2.1 60 0) (X.2.2.1 3) r (X'.2.2.1 3) ∧ KpS [3] X X') (h2 : PropP z0 z1 (vm 9 0) (vm 26) q (vm' 26) ∧ fr [26] vm vm') (hM : MdI vm) (hM' : MdI vm') (h : Rl X vm) : r.toInt = q.toInt ∧ Rl X' vm' := by
  obtain ⟨s1, k1⟩ := h1
  obtain ⟨s2, g⟩ := h2
  have f := k1.1
  obtain ⟨hL, hS⟩ := h.2.2.2.1
  have e := prop_eq s1 s2 (by rw [h.2.2.1.1.2.2.1.1]) hL.2.2.2.1
  exact ⟨e.1, rl_s k1 (kp.of g (by decide)) ⟨⟨(by rw [f 0 (by decide), g 23 (by decide)]; exact hL.1), (by rw [f 1 (by decide), g 24 (by decide)]; exact hL.2.1), (by rw [f 2 (by decide), g 25 (by decide)]; exact hL.2.2.1), e.2, (by rw [f 4 (by decide), g 27 (by decide)]; exact hL.2.2.2.2.1), (by rw [f 5 (by decide), g 28 (by decide)]; exact hL.2.2.2.2.2.1), (by rw [f 6 (by decide), g 29 (by decide)]; exact hL.2.2.2.2.2.2.1), (by rw [f 7 (by decide), g 30 (by decide)]; exact hL.2.2.2.2.2.2.2)⟩, sti_kp hM (kp.of g (by decide)) (f24 g (by decide)) hS⟩ h⟩
theorem load_eq {x y z W D : Int32} {f f' g g' : Nat → Int32} {r q : Int32} (h1 : LoadP x y z W D f r f') (h2 : LoadP x y z W D g q g') (hw : 0 ≤ W.toInt ∧ W.toInt ≤ 6) (hc : W.toInt * D.toInt ≤ 24) (ef : ∀ j, j < 24 → f j = g j) : r.toInt = q.toInt ∧ ∀ j, j < 24 → f' j = g' j := by
  rcases h1 with ⟨p1, p2, p3⟩ | ⟨p0, ⟨p1, p2, p3⟩ | ⟨p1, p2, p3⟩⟩
  · rcases h2 with ⟨g1, g2, g3⟩ | ⟨g0, g1⟩
    · exact ⟨by omega, by rw [p3, g3]; exact ef⟩
    · exact absurd g0 p2
  · rcases h2 with ⟨g1, g2, g3⟩ | ⟨g0, ⟨g1, g2, g3⟩ | ⟨g1, g2, g3⟩⟩
    · exact absurd p0 g2
    · exact ⟨by omega, by rw [p3, g3]; exact ef⟩
    · omega
  · rcases h2 with ⟨g1, g2, g3⟩ | ⟨g0, ⟨g1, g2, g3⟩ | ⟨g1, g2, g3⟩⟩
    · exact absurd p0 g2
    · omega
    · have k := mcell_lt hw hc p0.1.1 p0.1.2 p0.2.1 p0.2.2
      have hk : (W.toInt * y.toInt + x.toInt).toNat < 24 := by omega
      refine ⟨by rw [p2, g2, ef _ hk], fun j hj => ?_⟩
      rw [p3, g3]
      by_cases e : j = (W.toInt * y.toInt + x.toInt).toNat
      · subst e
        rw [updA, updA]
      · rw [updN e, updN e]
        exact ef j hj
theorem rl_load {X X' : TgX} {vm vm' : Vf} {z0 z1 z2 r q : Int32} (h1 : LoadP z0 z1 z2 (X.2.1 0 0) (X.2.1 1 0) (X.2.2.1 2) r (X'.2.2.1 2) ∧ KpS [2] X X') (h2 : LoadP z0 z1 z2 (vm 0 0) (vm 1 0) (vm 25) q (vm' 25) ∧ fr [25] vm vm') (hM : MdI vm) (hM' : MdI vm') (h : Rl X vm) : r.toInt = q.toInt ∧ Rl X' vm' := by
  obtain ⟨s1, k1⟩ := h1
  obtain ⟨s2, g⟩ := h2
  have f := k1.1
  obtain ⟨hL, hS⟩ := h.2.2.2.1
  have hG := hM.1.1
  rw [h.2.2.1.1.1.1, h.2.2.1.1.1.2.1] at s1
  have e := load_eq s1 s2 hG.1 hG.2.2 hL.2.2.1
  exact ⟨e.1, rl_s k1 (kp.of g (by decide)) ⟨⟨(by rw [f 0 (by decide), g 23 (by decide)]; exact hL.1), (by rw [f 1 (by decide), g 24 (by decide)]; exact hL.2.1), e.2, (by rw [f 3 (by decide), g 26 (by decide)]; exact hL.2.2.2.1), (by rw [f 4 (by decide), g 27 (by decide)]; exact hL.2.2.2.2.1), (by rw [f 5 (by decide), g 28 (by decide)]; exact hL.2.2.2.2.2.1), (by rw [f 6 (by decide), g 29 (by decide)]; exact hL.2.2.2.2.2.2.1), (by rw [f 7 (by decide), g 30 (by decide)]; exact hL.2.2.2.2.2.2.2)⟩, sti_kp hM (kp.of g (by decide)) (f24 g (by decide)) hS⟩ h⟩
theorem shift_eq {i z n m : Int32} {c d f f' g g' : Nat → Int32} {r q : Int32} (h1 : ShiftP i z n c f r f') (h2 : ShiftP i z m d g q g') (en : n = m) (hm : m.toInt ≤ 3) (ec : ∀ j : Nat, (j : Int) < m.toInt → c j = d j) (ef : ∀ j, j < 3 → f j = g j) (hd : ∀ j : Nat, (j : Int) < m.toInt → 1 ≤ (d j).toInt) (hg : ∀ j : Nat, (j : Int) < m.toInt → 0 ≤ (g j).toInt ∧ (g j).toInt < (d j).toInt) : r.toInt = q.toInt ∧ (∀ j, j < 3 → f' j = g' j) ∧ ∀ j : Nat, (j : Int) < m.toInt → 0 ≤ (g' j).toInt ∧ (g' j).toInt < (d j).toInt := by
  subst en
  rcases h1 with ⟨p1, p2, p3⟩ | ⟨p0, ⟨p1, p2, p3⟩ | ⟨p1, p2, w, p3, p4⟩⟩
  · rcases h2 with ⟨g1, g2, g3⟩ | ⟨g0, g1⟩
    · exact ⟨by omega, by rw [p3, g3]; exact ef, by rw [g3]; exact hg⟩
    · clear g1; omega
  · rcases h2 with ⟨g1, g2, g3⟩ | ⟨g0, ⟨g1, g2, g3⟩ | ⟨g1, g2, w, g3, g4⟩⟩
    · omega
    · exact ⟨by omega, by rw [p3, g3]; exact ef, by rw [g3]; exact hg⟩
    · omega
  · rcases h2 with ⟨g1, g2, g3⟩ | ⟨g0, ⟨g1, g2, g3⟩ | ⟨g1, g2, u, g3, g4⟩⟩
    · omega
    · omega
    · have hi := i_nat p0.1
      have hk : i.toNatClampNeg < 3 := by omega
      have hk2 : ((i.toNatClampNeg : Nat) : Int) < n.toInt := by omega
      have ew : w = u := i_eqr (by rw [p3, g3, ec _ hk2])
      have b1 := hd _ hk2
      refine ⟨by rw [p2, g2, ef _ hk], fun j hj => ?_, fun j hj => ?_⟩
      · rw [p4, g4, ew]
        by_cases e : j = i.toNatClampNeg
        · subst e
          rw [updA, updA]
        · rw [updN e, updN e]
          exact ef j hj
      · rw [g4]
        by_cases e : j = i.toNatClampNeg
        · subst e
          rw [updA, g3]
          exact ⟨Int.emod_nonneg _ (by omega), Int.emod_lt_of_pos _ (by omega)⟩
        · rw [updN e]
          exact hg j hj
theorem many_eq {vm vp : Vf} (h : RqMs vm vp) (h4 : (vm 4 0).toInt ≤ 3) : ∀ j : Nat, (j : Int) < (vm 4 0).toInt → (fun j => vp (20 + 10 * j) 0) j = vm 5 j := by
  intro j hj
  rcases (show j = 0 ∨ j = 1 ∨ j = 2 by omega) with rfl | rfl | rfl
  · exact (h.2.1.1 hj).1.1
  · exact (h.2.2.1.1 hj).1.1
  · exact (h.2.2.2.1 hj).1.1
theorem many_1 {vm : Vf} (hM : MdI vm) : ∀ j : Nat, (j : Int) < (vm 4 0).toInt → 1 ≤ (vm 5 j).toInt := by
  intro j hj
  have h4 := hM.1.2.1.1
  exact ((hM.1.2.2.2.1.2.1.resolve_left (by omega)) j (by omega)).1
theorem rl_shift {X X' : TgX} {vm vm' : Vf} {z0 z1 r q : Int32} (h1 : ShiftP z0 z1 (X.2.1 5 0) (fun j => X.2.1 (20 + 10 * j) 0) (X.2.2.1 1) r (X'.2.2.1 1) ∧ KpS [1] X X') (h2 : ShiftP z0 z1 (vm 4 0) (vm 5) (vm 24) q (vm' 24) ∧ fr [24] vm vm') (hM : MdI vm) (hM' : MdI vm') (h : Rl X vm) : r.toInt = q.toInt ∧ Rl X' vm' := by
  obtain ⟨s1, k1⟩ := h1
  obtain ⟨s2, g⟩ := h2
  have f := k1.1
  obtain ⟨hL, hS⟩ := h.2.2.2.1
  have h4 := hM.1.2.1.1.2
  have e := shift_eq s1 s2 h.2.2.1.1.2.1.1 h4 (many_eq h.2.2.1.1.2.1 h4) hL.2.1 (many_1 hM) hS.1
  refine ⟨e.1, rl_s k1 (kp.of g (by decide)) ⟨⟨(by rw [f 0 (by decide), g 23 (by decide)]; exact hL.1), e.2.1, (by rw [f 2 (by decide), g 25 (by decide)]; exact hL.2.2.1), (by rw [f 3 (by decide), g 26 (by decide)]; exact hL.2.2.2.1), (by rw [f 4 (by decide), g 27 (by decide)]; exact hL.2.2.2.2.1), (by rw [f 5 (by decide), g 28 (by decide)]; exact hL.2.2.2.2.2.1), (by rw [f 6 (by decide), g 29 (by decide)]; exact hL.2.2.2.2.2.2.1), (by rw [f 7 (by decide), g 30 (by decide)]; exact hL.2.2.2.2.2.2.2)⟩, ⟨fun m hm => ?_, ?_⟩⟩ h⟩
  · rw [g 4 (by decide)] at hm
    rw [g 5 (by decide)]
    exact e.2.2 m hm
  · rw [g 0 (by decide), g 1 (by decide), g 27 (by decide)]
    exact hS.2
theorem go_cW {vm : Vf} {c way t : Int32} (hG : mdG vm) (hc : cW vm c) (h : 0 ≤ (mGo vm c way t).toInt) : cW vm (mGo vm c way t) := by
  unfold mGo at h ⊢
  by_cases q : way = 0
  · rw [if_pos q] at h ⊢
    exact hc
  · rw [if_neg q] at h ⊢
    by_cases q2 : (mBes vm c way).toInt < 0
    · rw [if_pos q2] at h
      omega
    · rw [if_neg q2] at h ⊢
      by_cases q3 : mBar vm c (mBes vm c way) t ≠ 0 ∨ vm 29 0 < mH vm (mBes vm c way) t - mH vm c t
      · rw [if_pos q3] at h
        exact absurd h (by decide)
      · rw [if_neg q3] at h ⊢
        exact bes_cW hG h
theorem rl_roll {X X' : TgX} {vm vm' : Vf} {z0 r q : Int32} (h1 : (∀ vm : Vf, RW vm X.2.1 X.2.2.1 → (-1 : Int32) = vm 62 0 → RolP vm z0 r (X.2.2.1 0 0) (X.2.2.1 4 0) (X.2.2.1 5 0) (X'.2.2.1 0 0) (X'.2.2.1 4 0) (X'.2.2.1 5 0)) ∧ KpS [0, 4, 5] X X') (h2 : RolP vm z0 q (vm 23 0) (vm 27 0) (vm 28 0) (vm' 23 0) (vm' 27 0) (vm' 28 0) ∧ fr [23, 27, 28] vm vm') (hM : MdI vm) (hM' : MdI vm') (h : Rl X vm) : r.toInt = q.toInt ∧ Rl X' vm' := by
  obtain ⟨s1, k1⟩ := h1
  obtain ⟨s2, g⟩ := h2
  have f := k1.1
  have hR := rl_rw h hM
  have s1 := s1 vm hR hM.2.1.symm
  obtain ⟨hL, hS⟩ := h.2.2.2.1
  rw [hL.1, hL.2.2.2.2.1, hL.2.2.2.2.2.1] at s1
  have e := rol_eq s1 s2
  have hc : (vm 0 0).toInt = 0 ∨ (vm' 27 0).toInt < (vm 0 0).toInt * (vm 1 0).toInt := by
    rcases s2 with ⟨-, -, -, a, -⟩ | ⟨-, ⟨-, -, -, a, -⟩ | ⟨az, ⟨-, -, -, a, -⟩ | ⟨-, -, -, a, -⟩⟩⟩
    · rw [a]; exact hS.2
    · rw [a]; exact hS.2
    · rw [a]; exact hS.2
    · rw [a]
      have g0 := hM.1.1.1.1
      have cc := rol_c hR (show 1 ≤ (vm 0 0).toInt by omega)
      rw [hL.2.2.2.2.1] at cc
      exact Or.inr (go_cW hM.1.1 cc az.2).2
  refine ⟨e.1, rl_s k1 (kp.of g (by decide)) ⟨⟨e.2.1, (by rw [f 1 (by decide), g 24 (by decide)]; exact hL.2.1), (by rw [f 2 (by decide), g 25 (by decide)]; exact hL.2.2.1), (by rw [f 3 (by decide), g 26 (by decide)]; exact hL.2.2.2.1), e.2.2.1, e.2.2.2, (by rw [f 6 (by decide), g 29 (by decide)]; exact hL.2.2.2.2.2.2.1), (by rw [f 7 (by decide), g 30 (by decide)]; exact hL.2.2.2.2.2.2.2)⟩, ⟨fun m hm => ?_, ?_⟩⟩ h⟩
  · rw [g 4 (by decide)] at hm
    rw [g 24 (by decide), g 5 (by decide)]
    exact hS.1 m hm
  · rw [g 0 (by decide), g 1 (by decide)]
    exact hc
theorem rl_drift {X X' : TgX} {vm vm' : Vf} {z0 r q : Int32} (h1 : (∀ vm : Vf, RW vm X.2.1 X.2.2.1 → (-1 : Int32) = vm 62 0 → DriP vm z0 r (X'.2.2.1 = X.2.2.1) (RW (drN vm z0.toNatClampNeg) X.2.1 X'.2.2.1)) ∧ KpS [0, 2, 4, 5, 7] X X') (h2 : DriP vm z0 q (vm' = vm) (Ag (drN vm z0.toNatClampNeg) vm') ∧ fr [23, 25, 27, 28, 30] vm vm') (hM : MdI vm) (hM' : MdI vm') (h : Rl X vm) : r.toInt = q.toInt ∧ Rl X' vm' := by
  obtain ⟨s1, k1⟩ := h1
  obtain ⟨s2, g⟩ := h2
  have hR := rl_rw h hM
  have e := dri_eq (s1 vm hR hM.2.1.symm) s2
  refine ⟨e.1, rl_s k1 (kp.of g (by decide)) ?_ h⟩
  rcases e.2 with ⟨a, b⟩ | ⟨a, b⟩
  · rw [a, b]
    exact h.2.2.2.1
  · obtain ⟨-, hL, hS, -, -⟩ := a
    obtain ⟨b0, b23, b27, b28, b30⟩ := b
    have k : ∀ t, t ≠ 23 → t ≠ 27 → t ≠ 28 → t ≠ 30 → vm' t = drN vm z0.toNatClampNeg t := b0
    refine ⟨⟨by rw [b23]; exact hL.1, ?_, ?_, ?_, by rw [b27]; exact hL.2.2.2.2.1, by rw [b28]; exact hL.2.2.2.2.2.1, ?_, by rw [b30]; exact hL.2.2.2.2.2.2.2⟩, ⟨fun m hm => ?_, ?_⟩⟩
    · rw [k 24 (by decide) (by decide) (by decide) (by decide)]; exact hL.2.1
    · rw [k 25 (by decide) (by decide) (by decide) (by decide)]; exact hL.2.2.1
    · rw [k 26 (by decide) (by decide) (by decide) (by decide)]; exact hL.2.2.2.1
    · rw [k 29 (by decide) (by decide) (by decide) (by decide)]; exact hL.2.2.2.2.2.2.1
    · rw [k 4 (by decide) (by decide) (by decide) (by decide)] at hm
      rw [k 24 (by decide) (by decide) (by decide) (by decide), k 5 (by decide) (by decide) (by decide) (by decide)]
      exact hS.1 m hm
    · rw [k 0 (by decide) (by decide) (by decide) (by decide), k 1 (by decide) (by decide) (by decide) (by decide), b27]
      exact hS.2
theorem rl_v {X X' : TgX} {vm vm' : Vf} {l l2 : List Nat} (h1 : KpV l X X') (h2 : fr l2 vm vm') (d2 : ∀ t ∈ lKM, t = 31 ∨ t = 32 ∨ t = 33 ∨ t = 67 ∨ t = 68 ∨ t = 69 ∨ t = 70 ∨ t = 75 ∨ t = 76 ∨ t ∉ l2) (d24 : 24 ∉ l2) (hM : MdI vm) (hr : R3 X'.1 vm') (hb : RB5 X'.1 vm') (h : Rl X vm) : Rl X' vm' := by
  obtain ⟨-, b⟩ := h1
  obtain ⟨-, -, q3, q4, q5, q6⟩ := h
  have k : kp [0, 1, 2, 3, 4, 5, 6, 7, 8, 9, 10, 11, 12, 13, 14, 15, 16, 17, 18, 19, 20, 21, 22, 23, 25, 26, 27, 28, 29, 30, 77, 78] vm vm' := fun t ht => h2 t (by
    have hk : t ∈ lKM := (by decide : ∀ t ∈ [0, 1, 2, 3, 4, 5, 6, 7, 8, 9, 10, 11, 12, 13, 14, 15, 16, 17, 18, 19, 20, 21, 22, 23, 25, 26, 27, 28, 29, 30, 77, 78], t ∈ lKM) t ht
    have hn := (by decide : ∀ t ∈ [0, 1, 2, 3, 4, 5, 6, 7, 8, 9, 10, 11, 12, 13, 14, 15, 16, 17, 18, 19, 20, 21, 22, 23, 25, 26, 27, 28, 29, 30, 77, 78], t ≠ 31 ∧ t ≠ 32 ∧ t ≠ 33 ∧ t ≠ 67 ∧ t ≠ 68 ∧ t ≠ 69 ∧ t ≠ 70 ∧ t ≠ 75 ∧ t ≠ 76) t ht
    have z := d2 t hk
    rcases z with z | z | z | z | z | z | z | z | z | z
    all_goals first | exact z | (exfalso; omega))
  have kk : keepP vm vm' := fun t ht => k t (by
    have : t = 0 ∨ t = 1 ∨ t = 2 ∨ t = 3 ∨ t = 4 ∨ t = 5 ∨ t = 6 ∨ t = 7 ∨ t = 8 ∨ t = 9 ∨ t = 10 ∨ t = 11 ∨ t = 12 ∨ t = 13 ∨ t = 14 ∨ t = 15 ∨ t = 16 ∨ t = 17 ∨ t = 18 ∨ t = 19 ∨ t = 20 ∨ t = 21 ∨ t = 22 := by omega
    rcases this with rfl | rfl | rfl | rfl | rfl | rfl | rfl | rfl | rfl | rfl | rfl | rfl | rfl | rfl | rfl | rfl | rfl | rfl | rfl | rfl | rfl | rfl | rfl <;> decide)
  exact ⟨hr, hb, rp_kp (by rw [b]) kk q3, rs_kp hM (by rw [b]) (k.sub (by decide)) (f24 h2 d24) q4, ri_kp (by rw [b]) (k.sub (by decide)) q5, ri_kp (by rw [b]) (k.sub (by decide)) q6⟩
theorem r3_feed {v v' vm vm' : Vf} {x : Int32} (h1 : FeedR x (v 0) (v 1 0) (v' 0) (v' 1 0) ∧ v' 2 = v 2) (h2 : FeedR x (vm 31) (vm 32 0) (vm' 31) (vm' 32 0) ∧ vm' 33 = vm 33) (h : R3 v vm) : R3 v' vm' := by
  obtain ⟨⟨⟨a1, a2⟩, a3⟩, a4⟩ := h
  obtain ⟨h1, e1⟩ := h1
  obtain ⟨h2, e2⟩ := h2
  rw [a1, a2] at h1
  have a4' : (v' 2 0).toInt = (vm' 33 0).toInt := by rw [e1, e2]; exact a4
  rcases h1 with ⟨b1, b2, b3⟩ | ⟨b1, b2, b3, b4⟩
  · rcases h2 with ⟨c1, c2, c3⟩ | ⟨c1, c2, c3, c4⟩
    · refine ⟨⟨⟨by rw [b2, c2], by rw [b1, c1]⟩, ?_⟩, a4'⟩
      rw [c1, c2]
      exact a3
    · omega
  · rcases h2 with ⟨c1, c2, c3⟩ | ⟨c1, c2, c3, c4⟩
    · omega
    · refine ⟨⟨⟨by rw [b3, c3], Int32.toInt_inj.mp (by omega)⟩, fun j hj => ?_⟩, a4'⟩
      rw [c3]
      by_cases q : j = (vm 32 0).toNatClampNeg
      · subst q
        rw [updA]
        exact c1.1
      · rw [updN q]
        refine a3 j ?_
        have q2 : j ≠ (vm 32 0).toInt.toNat := q
        omega
theorem rl_feed {X X' : TgX} {vm vm' : Vf} {z0 : Int32} (h1 : FeedR z0 (X.1 0) (X.1 1 0) (X'.1 0) (X'.1 1 0) ∧ KpV [0, 1] X X') (h2 : FeedR z0 (vm 31) (vm 32 0) (vm' 31) (vm' 32 0) ∧ fr [31, 32] vm vm') (hM : MdI vm) (hM' : MdI vm') (h : Rl X vm) : Rl X' vm' := by
  obtain ⟨s1, k1⟩ := h1
  obtain ⟨s2, g⟩ := h2
  have f := k1.1
  exact rl_v k1 g (by decide) (by decide) hM (r3_feed ⟨s1, f 2 (by decide)⟩ ⟨s2, g 33 (by decide)⟩ h.1) (rb_kp (kp.of f (by decide)) (kp.of g (by decide)) h.2.1) h
theorem cnt_cases {ok : Prop} {m : Int} {c r c' : Int32} (h : CntP ok m c r c') (hc : 0 ≤ c.toInt) : (r.toInt < 0 ∧ c' = c) ∨ (0 ≤ r.toInt ∧ ok ∧ c'.toInt = c.toInt + 1) := by
  rcases h with ⟨p1, p2, p3⟩ | ⟨p0, ⟨p1, p2, p3⟩ | ⟨p1, p2, p3⟩⟩
  · exact Or.inl ⟨by omega, p3⟩
  · exact Or.inl ⟨by omega, p3⟩
  · exact Or.inr ⟨by omega, p0, p3⟩
theorem row_ok {r q n : Int32} {f f' g g' : Nat → Int32} {x : Int32} {Q : Int32 → Prop} (h1 : RowP r n f f' x) (h2 : RowP q n g g' x) (er : r.toInt = q.toInt) (hn : 0 ≤ n.toInt) (ef : ∀ j : Nat, (j : Int) < n.toInt → f j = g j ∧ Q (g j)) {m : Int32} (hm : (q.toInt < 0 ∧ m = n) ∨ (0 ≤ q.toInt ∧ Q x ∧ m.toInt = n.toInt + 1)) : ∀ j : Nat, (j : Int) < m.toInt → f' j = g' j ∧ Q (g' j) := by
  intro j hj
  rcases hm with ⟨a, e⟩ | ⟨a, hq, e⟩
  · rcases h1 with ⟨-, p⟩ | ⟨b, -⟩
    · rcases h2 with ⟨-, p'⟩ | ⟨b', -⟩
      · rw [p, p']
        rw [e] at hj
        exact ef j hj
      · omega
    · omega
  · rcases h1 with ⟨b, -⟩ | ⟨-, p⟩
    · omega
    · rcases h2 with ⟨b', -⟩ | ⟨-, p'⟩
      · omega
      · rw [p, p']
        have en := i_nat hn
        by_cases z : j = n.toNatClampNeg
        · subst z
          rw [updA, updA]
          exact ⟨rfl, hq⟩
        · rw [updN z, updN z]
          exact ef j (by omega)
theorem see_ok {r q n W x y t h : Int32} {f1 f2 f3 f1' f2' f3' g1 g2 g3 g1' g2' g3' : Nat → Int32} {B : Int} (h1 : SeeR r n W x y t h f1 f2 f3 f1' f2' f3') (h2 : SeeR q n W x y t h g1 g2 g3 g1' g2' g3') (er : r.toInt = q.toInt) (hn : 0 ≤ n.toInt) (ef : ∀ j : Nat, (j : Int) < n.toInt → (f1 j = g1 j ∧ f2 j = g2 j ∧ f3 j = g3 j) ∧ (g1 j).toInt < B) {m : Int32} (hm : (q.toInt < 0 ∧ m = n) ∨ (0 ≤ q.toInt ∧ W.toInt * y.toInt + x.toInt < B ∧ m.toInt = n.toInt + 1)) : ∀ j : Nat, (j : Int) < m.toInt → (f1' j = g1' j ∧ f2' j = g2' j ∧ f3' j = g3' j) ∧ (g1' j).toInt < B := by
  intro j hj
  rcases hm with ⟨a, e⟩ | ⟨a, hq, e⟩
  · rcases h1 with ⟨-, p1, p2, p3⟩ | ⟨b, -⟩
    · rcases h2 with ⟨-, p1', p2', p3'⟩ | ⟨b', -⟩
      · rw [p1, p2, p3, p1', p2', p3']
        rw [e] at hj
        exact ef j hj
      · omega
    · omega
  · rcases h1 with ⟨b, -⟩ | ⟨-, c, hc, p1, p2, p3⟩
    · omega
    · rcases h2 with ⟨b', -⟩ | ⟨-, c', hc', p1', p2', p3'⟩
      · omega
      · have ec : c = c' := i_eqr (by rw [hc, hc'])
        subst ec
        rw [p1, p2, p3, p1', p2', p3']
        have en := i_nat hn
        by_cases z : j = n.toNatClampNeg
        · subst z
          rw [updA, updA, updA, updA, updA, updA]
          exact ⟨⟨rfl, rfl, rfl⟩, by rw [hc]; exact hq⟩
        · rw [updN z, updN z, updN z, updN z, updN z, updN z]
          exact ef j (by omega)
theorem rl_write {X X' : TgX} {vm vm' : Vf} {z0 r q : Int32} (h1 : (CntP (0 ≤ z0.toInt ∧ z0.toInt ≤ 4) 30 (X.1 12 0) r (X'.1 12 0) ∧ RowP r (X.1 12 0) (X.1 11) (X'.1 11) z0) ∧ KpV [11, 12] X X') (h2 : (CntP (0 ≤ z0.toInt ∧ z0.toInt ≤ 4) 30 (vm 75 0) q (vm' 75 0) ∧ RowP q (vm 75 0) (vm 76) (vm' 76) z0) ∧ fr [75, 76] vm vm') (hM : MdI vm) (hM' : MdI vm') (h : Rl X vm) : r.toInt = q.toInt ∧ Rl X' vm' := by
  obtain ⟨⟨s1, w1⟩, k1⟩ := h1
  obtain ⟨⟨s2, w2⟩, g⟩ := h2
  have f := k1.1
  obtain ⟨b1, b2, b3, b4⟩ := h.2.1
  have h75 := hM.1.2.2.2.2.2.2.2.2.2.2.1
  have e := cnt_eq s1 s2 b1
  rw [b1] at w1
  refine ⟨e.1, rl_v k1 g (by decide) (by decide) hM (r3_kp (kp.of f (by decide)) (kp.of g (by decide)) h.1) ⟨e.2, by rw [f 401 (by decide), g 67 (by decide)]; exact b2, row_ok (Q := fun y => 0 ≤ y.toInt ∧ y.toInt ≤ 4) (m := vm' 75 0) w1 w2 e.1 h75 b3 (cnt_cases s2 h75), ?_⟩ h⟩
  rw [f 402 (by decide), f 403 (by decide), f 404 (by decide), g 67 (by decide), g 68 (by decide), g 69 (by decide), g 70 (by decide), g 0 (by decide), g 1 (by decide)]
  exact b4
theorem rl_see {X X' : TgX} {vm vm' : Vf} {z0 z1 z2 z3 r q : Int32} (h1 : (SeeP z0 z1 z2 z3 (X.2.1 0 0) (X.2.1 1 0) (X.1 401 0) r (X'.1 401 0) ∧ SeeR r (X.1 401 0) (X.2.1 0 0) z0 z1 z2 z3 (X.1 402) (X.1 403) (X.1 404) (X'.1 402) (X'.1 403) (X'.1 404)) ∧ KpV [401, 402, 403, 404] X X') (h2 : (SeeP z0 z1 z2 z3 (vm 0 0) (vm 1 0) (vm 67 0) q (vm' 67 0) ∧ SeeR q (vm 67 0) (vm 0 0) z0 z1 z2 z3 (vm 68) (vm 69) (vm 70) (vm' 68) (vm' 69) (vm' 70)) ∧ fr [67, 68, 69, 70] vm vm') (hM : MdI vm) (hM' : MdI vm') (h : Rl X vm) : r.toInt = q.toInt ∧ Rl X' vm' := by
  obtain ⟨⟨s1, w1⟩, k1⟩ := h1
  obtain ⟨⟨s2, w2⟩, g⟩ := h2
  have f := k1.1
  obtain ⟨b1, b2, b3, b4⟩ := h.2.1
  have h67 := hM.1.2.2.2.2.2.2.2.1.1
  have hG := hM.1.1
  have eW : X.2.1 0 0 = vm 0 0 := h.2.2.1.1.1.1
  have eD : X.2.1 1 0 = vm 1 0 := h.2.2.1.1.1.2.1
  have e := see_eq s1 s2 (by rw [eW]) (by rw [eD]) b2
  rw [b2, eW] at w1
  have hm : (q.toInt < 0 ∧ vm' 67 0 = vm 67 0) ∨ (0 ≤ q.toInt ∧ (vm 0 0).toInt * z1.toInt + z0.toInt < (vm 0 0).toInt * (vm 1 0).toInt ∧ (vm' 67 0).toInt = (vm 67 0).toInt + 1) := by
    rcases s2 with ⟨p1, p2, p3⟩ | ⟨p0, p1⟩
    · exact Or.inl ⟨by omega, p3⟩
    · rcases cnt_cases p1 h67 with c | ⟨c1, c2, c3⟩
      · exact Or.inl c
      · exact Or.inr ⟨c1, (mcell_lt hG.1 hG.2.2 p0.1.1 p0.1.2 p0.2.1 p0.2.2).2, c3⟩
  have b4' : ∀ j : Nat, (j : Int) < (vm 67 0).toInt → (X.1 402 j = vm 68 j ∧ X.1 403 j = vm 69 j ∧ X.1 404 j = vm 70 j) ∧ (vm 68 j).toInt < (vm 0 0).toInt * (vm 1 0).toInt := b4
  refine ⟨e.1, rl_v k1 g (by decide) (by decide) hM (r3_kp (kp.of f (by decide)) (kp.of g (by decide)) h.1) ⟨by rw [f 12 (by decide), g 75 (by decide)]; exact b1, e.2, ?_, ?_⟩ h⟩
  · rw [f 11 (by decide), g 75 (by decide), g 76 (by decide)]
    exact b3
  · rw [g 0 (by decide), g 1 (by decide)]
    exact see_ok w1 w2 e.1 h67 b4' hm
theorem rl_tear {X X' : TgX} {vm vm' : Vf} {r q : Int32} (h1 : TearP (X.1 12 0) (X.1 401 0) r (X'.1 12 0) (X'.1 401 0) ∧ KpV [12, 401] X X') (h2 : TearP (vm 75 0) (vm 67 0) q (vm' 75 0) (vm' 67 0) ∧ fr [67, 75] vm vm') (hM : MdI vm) (hM' : MdI vm') (h : Rl X vm) : r.toInt = q.toInt ∧ Rl X' vm' := by
  obtain ⟨s1, k1⟩ := h1
  obtain ⟨s2, g⟩ := h2
  have f := k1.1
  obtain ⟨b1, b2, b3, b4⟩ := h.2.1
  have n0 : (0 : Int32).toInt = 0 := by decide
  exact ⟨by rw [s1.1, s2.1, b1, b2], rl_v k1 g (by decide) (by decide) hM (r3_kp (kp.of f (by decide)) (kp.of g (by decide)) h.1) ⟨by rw [s1.2.1, s2.2.1], by rw [s1.2.2, s2.2.2], fun j hj => absurd hj (by rw [s2.2.1, n0]; omega), fun j hj => absurd hj (by rw [s2.2.2, n0]; omega)⟩ h⟩
theorem ri_new {B k : Nat} {w vs vm vm' : Vf} (hM : MdI vm) (hw : stE w vs ∧ w 8 0 = 1) (hs : RS5 vs vm) (hC : imC (vm' 77) B vm) (hk : vm' 78 k = 1) (g : fr [77, 78] vm vm') : RI5 B k w vm' := by
  obtain ⟨⟨e0, e1, e2, e3, e4, e5, e6, e7⟩, e8⟩ := hw
  obtain ⟨c2, c3, c1, c0, c4, c5, c6, c7⟩ := hC
  obtain ⟨⟨l0, l1, l2, l3, l4, l5, l6, l7⟩, hS⟩ := hs
  have h4 := hM.1.2.1.1
  refine ⟨by rw [e8, hk], fun _ => ⟨⟨by rw [e0, l0, c0], fun j hj => by rw [e1 j hj, l1 j hj, c1 j hj], fun j hj => by rw [e2 j hj, l2 j hj, c2 j hj], fun j hj => by rw [e3 j hj, l3 j hj, c3 j hj], by rw [e4, l4, c4], by rw [e5, l5, c5], by rw [e6, l6, c6], by rw [e7, l7, c7]⟩, fun m hm => ?_, ?_⟩⟩
  · rw [g 4 (by decide)] at hm
    rw [c1 m (by omega), g 5 (by decide)]
    exact hS.1 m hm
  · rw [g 0 (by decide), g 1 (by decide), c4]
    exact hS.2
theorem ri_old {B B2 k : Nat} {w w' vm vm' : Vf} (hM : MdI vm) (hw : w' = w) (hO : imO B2 (vm 77) (vm' 77)) (hk : vm' 78 k = vm 78 k) (hB : B + 38 ≤ B2 ∨ B2 + 38 ≤ B) (g : fr [77, 78] vm vm') (h : RI5 B k w vm) : RI5 B k w' vm' := by
  subst hw
  have h4 := hM.1.2.1.1
  refine ⟨by rw [hk]; exact h.1, fun q => ?_⟩
  rw [hk] at q
  obtain ⟨⟨l0, l1, l2, l3, l4, l5, l6, l7⟩, t1, t2⟩ := h.2 q
  refine ⟨⟨by rw [hO (B + 33) (by omega)]; exact l0, fun j hj => by rw [hO (B + 30 + j) (by omega)]; exact l1 j hj, fun j hj => by rw [hO (B + j) (by omega)]; exact l2 j hj, fun j hj => by rw [hO (B + 24 + j) (by omega)]; exact l3 j hj, by rw [hO (B + 34) (by omega)]; exact l4, by rw [hO (B + 35) (by omega)]; exact l5, by rw [hO (B + 36) (by omega)]; exact l6, by rw [hO (B + 37) (by omega)]; exact l7⟩, fun m hm => ?_, ?_⟩
  · rw [g 4 (by decide)] at hm
    rw [hO (B + 30 + m) (by omega), g 5 (by decide)]
    exact t1 m hm
  · rw [g 0 (by decide), g 1 (by decide), hO (B + 34) (by omega)]
    exact t2
theorem rl_keep {X X' : TgX} {vm vm' : Vf} {z0 : Int32} (h1 : KeepC z0 X.2.2.1 X.2.2.2.1 X.2.2.2.2 X'.2.2.2.1 X'.2.2.2.2 ∧ X'.1 = X.1 ∧ X'.2.1 = X.2.1 ∧ X'.2.2.1 = X.2.2.1) (h2 : KeepM z0 vm vm' ∧ fr [77, 78] vm vm') (hM : MdI vm) (hM' : MdI vm') (h : Rl X vm) : Rl X' vm' := by
  obtain ⟨s1, av, ap, as_⟩ := h1
  obtain ⟨s2, g⟩ := h2
  obtain ⟨q1, q2, q3, q4, q5, q6⟩ := h
  refine ⟨r3_kp (kp.eq av) (kp.of g (by decide)) q1, rb_kp (kp.eq av) (kp.of g (by decide)) q2, rp_kp ap (fun t ht => g t (fun q => by rcases List.mem_cons.mp q with e | e; omega; have := List.mem_singleton.mp e; omega)) q3, rs_kp hM as_ (kp.of g (by decide)) (f24 g (by decide)) q4, ?_⟩
  rcases s1 with ⟨p1, p2, p3⟩ | ⟨p1, p2, p3⟩ | ⟨p1, p2, p3⟩
  · rcases s2 with ⟨g1, g2⟩ | ⟨g1, -⟩ | ⟨g1, -⟩
    · exact ⟨ri_kp p2 (kp.eq g2) q5, ri_kp p3 (kp.eq g2) q6⟩
    · omega
    · omega
  · rcases s2 with ⟨g1, g2⟩ | ⟨g1, g2, g3, g4⟩ | ⟨g1, -⟩
    · omega
    · exact ⟨ri_new hM p2 q4 g2 (by rw [g4]; exact updA) g, ri_old hM p3 g3 (by rw [g4]; exact updN (by decide)) (by decide) g q6⟩
    · omega
  · rcases s2 with ⟨g1, g2⟩ | ⟨g1, -⟩ | ⟨g1, g2, g3, g4⟩
    · omega
    · omega
    · exact ⟨ri_old hM p3 g3 (by rw [g4]; exact updN (by decide)) (by decide) g q5, ri_new hM p2 q4 g2 (by rw [g4]; exact updA) g⟩
theorem go_eq {B k : Nat} {w vs vs' vm vm' : Vf} {r q : Int32} (hM : MdI vm) (h1 : GoC1 w vs r vs') (h2 : GoM1 B (vm 78 k) vm q vm') (hi : RI5 B k w vm) (hs : RS5 vs vm) (g : fr [23, 24, 25, 26, 27, 28, 29, 30] vm vm') : r.toInt = q.toInt ∧ RS5 vs' vm' := by
  have h4 := hM.1.2.1.1
  rcases h1 with ⟨p1, p2, p3⟩ | ⟨p1, p2, p3⟩
  · rcases h2 with ⟨g1, g2, g3⟩ | ⟨g1, g2, g3⟩
    · exact ⟨by omega, by rw [p3, g3]; exact hs⟩
    · exact absurd (hi.1.mp p1) g1
  · rcases h2 with ⟨g1, g2, g3⟩ | ⟨g1, g2, g3⟩
    · exact absurd (hi.1.mpr g1) p1
    · obtain ⟨e0, e1, e2, e3, e4, e5, e6, e7⟩ := p3
      obtain ⟨c2, c3, c1, c0, c4, c5, c6, c7⟩ := g3
      obtain ⟨⟨l0, l1, l2, l3, l4, l5, l6, l7⟩, t1, t2⟩ := hi.2 g1
      refine ⟨by omega, ⟨by rw [e0, l0, c0], fun j hj => by rw [e1 j hj, l1 j hj, c1 j hj], fun j hj => by rw [e2 j hj, l2 j hj, c2 j hj], fun j hj => by rw [e3 j hj, l3 j hj, c3 j hj], by rw [e4, l4, c4], by rw [e5, l5, c5], by rw [e6, l6, c6], by rw [e7, l7, c7]⟩, fun m hm => ?_, ?_⟩
      · rw [g 4 (by decide)] at hm
        rw [← c1 m (by omega), g 5 (by decide)]
        exact t1 m hm
      · rw [g 0 (by decide), g 1 (by decide), ← c4]
        exact t2
theorem rl_goBack {X X' : TgX} {vm vm' : Vf} {z0 r q : Int32} (h1 : GoC z0 X.2.2.1 X.2.2.2.1 X.2.2.2.2 r X'.2.2.1 ∧ X'.1 = X.1 ∧ X'.2.1 = X.2.1 ∧ X'.2.2.2 = X.2.2.2) (h2 : GoM z0 vm q vm' ∧ fr [23, 24, 25, 26, 27, 28, 29, 30] vm vm') (hM : MdI vm) (hM' : MdI vm') (h : Rl X vm) : r.toInt = q.toInt ∧ Rl X' vm' := by
  obtain ⟨s1, av, ap, ai⟩ := h1
  obtain ⟨s2, g⟩ := h2
  have q4 := h.2.2.2.1
  have q5 := h.2.2.2.2.1
  have q6 := h.2.2.2.2.2
  have key : r.toInt = q.toInt ∧ RS5 X'.2.2.1 vm' := by
    rcases s1 with ⟨p1, p2, p3⟩ | ⟨p1, p2⟩ | ⟨p1, p2⟩
    · rcases s2 with ⟨g1, g2, g3⟩ | ⟨g1, -⟩ | ⟨g1, -⟩
      · exact ⟨by omega, by rw [p3, g3]; exact q4⟩
      · omega
      · omega
    · rcases s2 with ⟨g1, g2⟩ | ⟨g1, g2⟩ | ⟨g1, -⟩
      · omega
      · exact go_eq hM p2 g2 q5 q4 g
      · omega
    · rcases s2 with ⟨g1, g2⟩ | ⟨g1, -⟩ | ⟨g1, g2⟩
      · omega
      · omega
      · exact go_eq hM p2 g2 q6 q4 g
  exact ⟨key.1, rl_s2 av ap ai (kp.of g (by decide)) key.2 h⟩
theorem GrM.both5 {a : Rd St0} {r w r' w' : Int} {ok ok' : St0 → Prop} (h : GrM a r w ok) (h' : GrM a r' w' ok') (hk : okF a) (hr : 0 ≤ r) : ∃ S, a = .inr S ∧ ok S ∧ ok' S := by
  rcases h with ⟨k, q, h1, h2, h3⟩ | ⟨S, h1, h2, h3, h4⟩
  · have := hk k q h1
    omega
  · rcases h' with ⟨k', q', g1, g2, g3⟩ | ⟨S', g1, g2, g3, g4⟩
    · rw [h1] at g1
      cases g1
    · rw [h1] at g1
      cases g1
      exact ⟨S, h1, h4, g4⟩
theorem ri_z {B k : Nat} {w vm : Vf} (h1 : w 8 0 = 0) (h2 : vm 78 k = 0) : RI5 B k w vm := ⟨by rw [h1, h2], fun q => absurd (by rw [h2]; decide) q⟩
theorem rs_new {vs vs' vm vm' : Vf} (hM' : MdI vm') (h7 : vs 7 0 = vm 30 0) (g30 : vm' 30 = vm 30) (cs : stZ vs vs') (dz : mdRe vm') : RS5 vs' vm' := by
  obtain ⟨z0, z1, z2, z3, z4, z5, z6, z7, -⟩ := cs
  obtain ⟨y0, y1, y2, y3, y4, y5, y6⟩ := dz
  have n0 : (0 : Int32).toInt = 0 := by decide
  have h4 := hM'.1.2.1.1
  refine ⟨⟨by rw [z0, y0], fun j hj => by rw [z1 j hj, y1 j hj], fun j hj => by rw [z2 j hj, y2 j hj], fun j hj => by rw [z3 j hj, y3 j hj], by rw [z4, y4], by rw [z5, y5], by rw [z6, y6], by rw [z7, g30]; exact h7⟩, fun m hm => ?_, ?_⟩
  · have b := many_1 hM' m hm
    rw [y1 m (by omega)]
    omega
  · rw [y4]
    rcases hM'.1.2.2.1 with q | q
    · have := mul_pos1 q.1 q.2
      exact Or.inr (by omega)
    · exact Or.inl q.1
theorem rl_ground {X X' : TgX} {vm vm' : Vf} {r q : Int32} (h1 : (GrM (textF (X.1 0) (X.1 1 0).toInt 251 0 (SI (gr0 vm))) r.toInt (X'.1 2 0).toInt (fun S => ∃ cx ck, Rp S X'.2.1 cx ck) ∧ X'.1 0 = X.1 0 ∧ (X'.1 1 0).toInt = 0) ∧ GrC r X.1 X.2.1 X.2.2.1 X.2.2.2.1 X.2.2.2.2 X'.1 X'.2.1 X'.2.2.1 X'.2.2.2.1 X'.2.2.2.2) (h2 : (((∀ j : Nat, (j : Int) < (vm 32 0).toInt → 0 ≤ (vm 31 j).toInt) → GrM (textF (vm 31) (vm 32 0).toInt 251 0 (SI (gr0 vm))) q.toInt (vm' 33 0).toInt (fun S => RpMF S vm')) ∧ vm' 31 = vm 31 ∧ (vm' 32 0).toInt = 0) ∧ GrD q vm vm' ∧ vm' 30 = vm 30) (hM : MdI vm) (hM' : MdI vm') (h : Rl X vm) : r.toInt = q.toInt ∧ Rl X' vm' := by
  obtain ⟨⟨⟨⟨a1, a2⟩, a3⟩, a4⟩, q2, q3, q4, q5, q6⟩ := h
  obtain ⟨⟨t1, u1, u2⟩, g1⟩ := h1
  obtain ⟨⟨t2, w1, w2⟩, g2, g30⟩ := h2
  rw [a1, a2] at t1
  have f := t1.fn (t2 a3)
  have r3 : R3 X'.1 vm' := ⟨⟨⟨by rw [u1, w1, a1], Int32.toInt_inj.mp (by omega)⟩, fun j hj => by omega⟩, f.2⟩
  refine ⟨f.1, r3, ?_⟩
  rcases g1 with ⟨c1, cp, cs, ci, cj, cf⟩ | ⟨c1, cs, cb, ci, cj, cf⟩
  · rcases g2 with ⟨d1, df⟩ | ⟨d1, -⟩
    · exact ⟨rb_kp (kp.of cf (by decide)) (kp.of df (by decide)) q2, rp_kp cp (kp_keep2 (kp.of df (by decide))) q3, rs_kp hM cs (kp.of df (by decide)) (f24 df (by decide)) q4, ri_kp ci (kp.of df (by decide)) q5, ri_kp cj (kp.of df (by decide)) q6⟩
    · omega
  · rcases g2 with ⟨d1, df⟩ | ⟨d1, dz, db, dk⟩
    · omega
    · obtain ⟨S, hS, ⟨cx, ck, e1⟩, e2⟩ := t1.both5 (t2 a3) (okF.text _ _ _) c1
      have n0 : (0 : Int32).toInt = 0 := by decide
      have hq := rq_of e1 e2 (text_ok _ _ _ _ hS (ok_0 z0_gr0)) hM'.1
      exact ⟨⟨by rw [cb.1, db.2], by rw [cb.2, db.1], fun j hj => absurd hj (by rw [db.2, n0]; omega), fun j hj => absurd hj (by rw [db.1, n0]; omega)⟩, hq, rs_new hM' q4.1.2.2.2.2.2.2.2 g30 cs dz, ri_z ci.1 dk.1, ri_z cj.1 dk.2⟩
theorem rp_00 {vp : Vf} (hp : vp 0 0 = 0 ∧ vp 1 0 = 0 ∧ vp 5 0 = 0 ∧ vp 60 0 = 0 ∧ vp 70 0 = 0 ∧ vp 80 0 = 0 ∧ vp 90 0 = 0 ∧ (vp 20 0 = 1 ∧ vp 23 0 = 0 ∧ vp 23 1 = 0) ∧ (vp 30 0 = 1 ∧ vp 33 0 = 0 ∧ vp 33 1 = 0) ∧ (vp 40 0 = 1 ∧ vp 43 0 = 0 ∧ vp 43 1 = 0)) : RP5 vp vmd := by
  obtain ⟨p0, p1, p5, p6, p7, p8, p9, m0, m1, m2⟩ := hp
  have n0 : (0 : Int32).toInt = 0 := by decide
  have z0 : (vmd 0 0).toInt = 0 := n0
  have z4 : (vmd 4 0).toInt = 0 := n0
  have z9 : (vmd 9 0).toInt = 0 := n0
  have z12 : (vmd 12 0).toInt = 0 := n0
  have z16 : (vmd 16 0).toInt = 0 := n0
  have z19 : (vmd 19 0).toInt = 0 := n0
  refine ⟨⟨⟨p0, p1, fun c hc => ?_⟩, ⟨p5, ⟨fun hm => ?_, fun _ => m0⟩, ⟨fun hm => ?_, fun _ => m1⟩, ⟨fun hm => ?_, fun _ => m2⟩⟩, ⟨p6, fun k hk => ?_⟩, ⟨p7, fun k hk => ?_⟩, ⟨p8, fun k hk => ?_⟩, ⟨p9, fun k hk => ?_⟩⟩, fun k hk => ?_, fun k hk => ?_, fun k i hk => ?_, fun k hk => ?_, ?_, fun m _ _ => Or.inl z4⟩
  · rw [z0, Int.zero_mul] at hc; omega
  · rw [z4] at hm; omega
  · rw [z4] at hm; omega
  · rw [z4] at hm; omega
  · rw [z9] at hk; omega
  · rw [z12] at hk; omega
  · rw [z16] at hk; omega
  · rw [z19] at hk; omega
  · rw [z9] at hk; omega
  · rw [z12] at hk; omega
  · rw [z12] at hk; omega
  · rw [z16] at hk; omega
  · rw [z4]
    exact (by decide : (1 : Int32).toInt = 1)
theorem rs_00 : RS5 (up2 v00 6 0 20) vmd := by
  have n0 : (0 : Int32).toInt = 0 := by decide
  have z4 : (vmd 4 0).toInt = 0 := n0
  exact ⟨⟨rfl, fun _ _ => rfl, fun _ _ => rfl, fun _ _ => rfl, rfl, rfl, rfl, rfl⟩, fun m hm => by rw [z4] at hm; omega, Or.inl n0⟩
theorem lwj_md {E : Ev} {A : Nat → Prop} {qt qm : Nat} {X : TgX} {vm : Vf} {H : Heap} (h : LwJ E A qt qm X vm H) : MdI vm := by
  obtain ⟨wt, wm, -, ⟨am, -, -, h⟩, -⟩ := h
  exact h
end
section
abbrev tgPos : List Nat := [0, 2, 5, 8, 12, 18, 19, 20, 21, 22, 23, 24, 25, 26, 27, 28, 29, 30, 31, 32, 33, 34, 35, 36, 37, 38, 39, 40, 41, 42, 43, 44, 45, 46, 47, 48, 49, 50, 51]
theorem t_X9_feed (l : Launch) (E : Ev) (q : Nat) (z0 : Int32) : CalM l yX9_feed wsX9_feed rm_X9_feed E q 9 [.int z0] (TgW E q) (fun (X : TgX) (r : Int32) (X' : TgX) => FeedR z0 (X.1 0) (X.1 1 0) (X'.1 0) (X'.1 1 0) ∧ KpV [0, 1] X X') := by
  rintro sz ⟨v, vp, vs, vi, vj⟩ _ ⟨a, cz0, cz1, rt, rp, aq, vq, ap, as_, ai, bi, rfl, rfl, hTA⟩
  exact ⟨⟨_, rfl⟩, _, _, _, c_X9_feed l E sz a v cz0 cz1 rt rp aq vq ap vp as_ vs ai vi bi vj z0 hTA, fun r u h => ⟨(_, _, _, _, _), ⟨_, _, _, _, _, _, _, _, _, _, _, rfl, rfl, h.1.1.1⟩, ⟨h.2, h.1.2, rfl⟩⟩⟩
theorem t_X10_feed (l : Launch) (E : Ev) (q : Nat) (z0 : Int32) : CalM l yX10_feed wsX10_feed rm_X10_feed E q 10 [.int z0] (MdW E q) (fun (vm : Vf) (r : Int32) (vm' : Vf) => FeedR z0 (vm 31) (vm 32 0) (vm' 31) (vm' 32 0) ∧ fr [31, 32] vm vm') := by
  rintro sz vm _ ⟨am, rfl, rfl, hMI⟩
  exact ⟨⟨_, rfl⟩, _, _, _, c_X10_feed l E sz am vm z0 hMI, fun r u h => ⟨_, ⟨_, rfl, rfl, h.1.1.1⟩, ⟨h.2, h.1.2⟩⟩⟩
theorem t_X9_ground (l : Launch) (E : Ev) (q : Nat) (S0 : St0) (hZ0 : Z0 S0) : CalM l yX9_ground wsX9_ground rm_X9_ground E q 9 [] (TgW E q) (fun (X : TgX) (r : Int32) (X' : TgX) => (GrM (textF (X.1 0) (X.1 1 0).toInt 251 0 S0) r.toInt (X'.1 2 0).toInt (fun S => ∃ cx ck, Rp S X'.2.1 cx ck) ∧ X'.1 0 = X.1 0 ∧ (X'.1 1 0).toInt = 0) ∧ GrC r X.1 X.2.1 X.2.2.1 X.2.2.2.1 X.2.2.2.2 X'.1 X'.2.1 X'.2.2.1 X'.2.2.2.1 X'.2.2.2.2) := by
  rintro sz ⟨v, vp, vs, vi, vj⟩ _ ⟨a, cz0, cz1, rt, rp, aq, vq, ap, as_, ai, bi, rfl, rfl, hTA⟩
  exact ⟨⟨_, rfl⟩, _, _, _, c_X9_ground l E sz a v cz0 cz1 rt rp aq vq ap vp as_ vs ai vi bi vj S0 hTA hZ0, fun r u h => ⟨(_, _, _, _, _), ⟨_, _, _, _, _, _, _, _, _, _, _, rfl, rfl, h.1.1⟩, ⟨⟨h.2.1.1, h.2.1.2, h.1.2⟩, h.2.2⟩⟩⟩
theorem t_X10_ground (l : Launch) (E : Ev) (q : Nat) : CalM l yX10_ground wsX10_ground rm_X10_ground E q 10 [] (MdW E q) (fun (vm : Vf) (r : Int32) (vm' : Vf) => (((∀ j : Nat, (j : Int) < (vm 32 0).toInt → 0 ≤ (vm 31 j).toInt) → GrM (textF (vm 31) (vm 32 0).toInt 251 0 (SI (gr0 vm))) r.toInt (vm' 33 0).toInt (fun S => RpMF S vm')) ∧ vm' 31 = vm 31 ∧ (vm' 32 0).toInt = 0) ∧ GrD r vm vm' ∧ vm' 30 = vm 30) := by
  rintro sz vm _ ⟨am, rfl, rfl, hMI⟩
  exact ⟨⟨_, rfl⟩, _, _, _, c_X10_ground l E sz am vm  hMI, fun r u h => ⟨_, ⟨_, rfl, rfl, h.1.1.1⟩, ⟨⟨h.2.1, h.1.2 31 (by decide), h.1.1.2⟩, h.2.2, h.1.2 30 (by decide)⟩⟩⟩
theorem t_X9_fault (l : Launch) (E : Ev) (A : Nat → Prop) (q : Nat) : CalR l yX9_fault wsX9_fault rm_X9_fault E A q 9 [] (TgW E q) (fun _ _ => True) := by
  rintro ⟨v, vp, vs, vi, vj⟩ _ ⟨a, cz0, cz1, rt, rp, aq, vq, ap, as_, ai, bi, rfl, rfl, hTA⟩
  exact ⟨tgsL E (up1 (up1 a 201 cz0) 202 cz1) v aq ap vp as_ vs, tgPos, _, _, rfl, rfl, c_X9_fault l E A (up1 (up1 a 201 cz0) 202 cz1) v aq ap vp as_ vs  hTA.2.2.1 hTA.2.2.2.2.1 hTA.1, fun _ _ => trivial⟩
theorem t_X10_fault (l : Launch) (E : Ev) (A : Nat → Prop) (q : Nat) : CalR l yX10_fault wsX10_fault rm_X10_fault E A q 10 [] (MdW E q) (fun _ _ => True) := by
  rintro vm _ ⟨am, rfl, rfl, hMI⟩
  exact ⟨mdL E am vm, List.range 46, _, _, rfl, rfl, c_X10_fault l E A am vm  hMI.1, fun _ _ => trivial⟩
theorem t_X9_told (l : Launch) (E : Ev) (A : Nat → Prop) (q : Nat) (z0 : Int32) : CalR l yX9_told wsX9_told rm_X9_told E A q 9 [.int z0] (TgW E q) (fun _ _ => True) := by
  rintro ⟨v, vp, vs, vi, vj⟩ _ ⟨a, cz0, cz1, rt, rp, aq, vq, ap, as_, ai, bi, rfl, rfl, hTA⟩
  exact ⟨tgsL E (up1 (up1 a 201 cz0) 202 cz1) v aq ap vp as_ vs, tgPos, _, _, rfl, rfl, c_X9_told l E A (up1 (up1 a 201 cz0) 202 cz1) v aq ap vp as_ vs z0 hTA.2.2.1 hTA.2.2.2.2.1 hTA.1, fun _ _ => trivial⟩
theorem t_X10_told (l : Launch) (E : Ev) (A : Nat → Prop) (q : Nat) (z0 : Int32) : CalR l yX10_told wsX10_told rm_X10_told E A q 10 [.int z0] (MdW E q) (fun _ _ => True) := by
  rintro vm _ ⟨am, rfl, rfl, hMI⟩
  exact ⟨mdL E am vm, List.range 46, _, _, rfl, rfl, c_X10_told l E A am vm z0 hMI.1, fun _ _ => trivial⟩
theorem t_X9_cell (l : Launch) (E : Ev) (A : Nat → Prop) (q : Nat) (z0 : Int32) (z1 : Int32) (z2 : Int32) : CalR l yX9_cell wsX9_cell rm_X9_cell E A q 9 [.int z0, .int z1, .int z2] (TgW E q) (fun _ _ => True) := by
  rintro ⟨v, vp, vs, vi, vj⟩ _ ⟨a, cz0, cz1, rt, rp, aq, vq, ap, as_, ai, bi, rfl, rfl, hTA⟩
  exact ⟨tgsL E (up1 (up1 a 201 cz0) 202 cz1) v aq ap vp as_ vs, tgPos, _, _, rfl, rfl, c_X9_cell l E A (up1 (up1 a 201 cz0) 202 cz1) v aq ap vp as_ vs z0 z1 z2 hTA.2.2.1 hTA.2.2.2.2.1 hTA.1, fun _ _ => trivial⟩
theorem t_X10_cell (l : Launch) (E : Ev) (A : Nat → Prop) (q : Nat) (z0 : Int32) (z1 : Int32) (z2 : Int32) : CalR l yX10_cell wsX10_cell rm_X10_cell E A q 10 [.int z0, .int z1, .int z2] (MdW E q) (fun _ _ => True) := by
  rintro vm _ ⟨am, rfl, rfl, hMI⟩
  exact ⟨mdL E am vm, List.range 46, _, _, rfl, rfl, c_X10_cell l E A am vm z0 z1 z2 hMI.1, fun _ _ => trivial⟩
theorem t_X9_height (l : Launch) (E : Ev) (A : Nat → Prop) (q : Nat) (z0 : Int32) (z1 : Int32) (z2 : Int32) : CalR l yX9_height wsX9_height rm_X9_height E A q 9 [.int z0, .int z1, .int z2] (TgW E q) (fun _ _ => True) := by
  rintro ⟨v, vp, vs, vi, vj⟩ _ ⟨a, cz0, cz1, rt, rp, aq, vq, ap, as_, ai, bi, rfl, rfl, hTA⟩
  exact ⟨tgsL E (up1 (up1 a 201 cz0) 202 cz1) v aq ap vp as_ vs, tgPos, _, _, rfl, rfl, c_X9_height l E A (up1 (up1 a 201 cz0) 202 cz1) v aq ap vp as_ vs z0 z1 z2 hTA.2.2.1 hTA.2.2.2.2.1 hTA.1, fun _ _ => trivial⟩
theorem t_X10_height (l : Launch) (E : Ev) (A : Nat → Prop) (q : Nat) (z0 : Int32) (z1 : Int32) (z2 : Int32) : CalR l yX10_height wsX10_height rm_X10_height E A q 10 [.int z0, .int z1, .int z2] (MdW E q) (fun _ _ => True) := by
  rintro vm _ ⟨am, rfl, rfl, hMI⟩
  exact ⟨mdL E am vm, List.range 46, _, _, rfl, rfl, c_X10_height l E A am vm z0 z1 z2 hMI.1, fun _ _ => trivial⟩
theorem t_X9_moon (l : Launch) (E : Ev) (A : Nat → Prop) (q : Nat) (z0 : Int32) (z1 : Int32) : CalR l yX9_moon wsX9_moon rm_X9_moon E A q 9 [.int z0, .int z1] (TgW E q) (fun _ _ => True) := by
  rintro ⟨v, vp, vs, vi, vj⟩ _ ⟨a, cz0, cz1, rt, rp, aq, vq, ap, as_, ai, bi, rfl, rfl, hTA⟩
  exact ⟨tgsL E (up1 (up1 a 201 cz0) 202 cz1) v aq ap vp as_ vs, tgPos, _, _, rfl, rfl, c_X9_moon l E A (up1 (up1 a 201 cz0) 202 cz1) v aq ap vp as_ vs z0 z1 hTA.2.2.1 hTA.2.2.2.2.1 hTA.1, fun _ _ => trivial⟩
theorem t_X10_moon (l : Launch) (E : Ev) (A : Nat → Prop) (q : Nat) (z0 : Int32) (z1 : Int32) : CalR l yX10_moon wsX10_moon rm_X10_moon E A q 10 [.int z0, .int z1] (MdW E q) (fun _ _ => True) := by
  rintro vm _ ⟨am, rfl, rfl, hMI⟩
  exact ⟨mdL E am vm, List.range 46, _, _, rfl, rfl, c_X10_moon l E A am vm z0 z1 hMI.1, fun _ _ => trivial⟩
theorem t_X9_house (l : Launch) (E : Ev) (A : Nat → Prop) (q : Nat) (z0 : Int32) (z1 : Int32) : CalR l yX9_house wsX9_house rm_X9_house E A q 9 [.int z0, .int z1] (TgW E q) (fun _ _ => True) := by
  rintro ⟨v, vp, vs, vi, vj⟩ _ ⟨a, cz0, cz1, rt, rp, aq, vq, ap, as_, ai, bi, rfl, rfl, hTA⟩
  exact ⟨tgsL E (up1 (up1 a 201 cz0) 202 cz1) v aq ap vp as_ vs, tgPos, _, _, rfl, rfl, c_X9_house l E A (up1 (up1 a 201 cz0) 202 cz1) v aq ap vp as_ vs z0 z1 hTA.2.2.1 hTA.2.2.2.2.1 hTA.1, fun _ _ => trivial⟩
theorem t_X10_house (l : Launch) (E : Ev) (A : Nat → Prop) (q : Nat) (z0 : Int32) (z1 : Int32) : CalR l yX10_house wsX10_house rm_X10_house E A q 10 [.int z0, .int z1] (MdW E q) (fun _ _ => True) := by
  rintro vm _ ⟨am, rfl, rfl, hMI⟩
  exact ⟨mdL E am vm, List.range 46, _, _, rfl, rfl, c_X10_house l E A am vm z0 z1 hMI.1, fun _ _ => trivial⟩
theorem t_X9_crack (l : Launch) (E : Ev) (A : Nat → Prop) (q : Nat) (z0 : Int32) (z1 : Int32) : CalR l yX9_crack wsX9_crack rm_X9_crack E A q 9 [.int z0, .int z1] (TgW E q) (fun _ _ => True) := by
  rintro ⟨v, vp, vs, vi, vj⟩ _ ⟨a, cz0, cz1, rt, rp, aq, vq, ap, as_, ai, bi, rfl, rfl, hTA⟩
  exact ⟨tgsL E (up1 (up1 a 201 cz0) 202 cz1) v aq ap vp as_ vs, tgPos, _, _, rfl, rfl, c_X9_crack l E A (up1 (up1 a 201 cz0) 202 cz1) v aq ap vp as_ vs z0 z1 hTA.2.2.1 hTA.2.2.2.2.1 hTA.1, fun _ _ => trivial⟩
theorem t_X10_crack (l : Launch) (E : Ev) (A : Nat → Prop) (q : Nat) (z0 : Int32) (z1 : Int32) : CalR l yX10_crack wsX10_crack rm_X10_crack E A q 10 [.int z0, .int z1] (MdW E q) (fun _ _ => True) := by
  rintro vm _ ⟨am, rfl, rfl, hMI⟩
  exact ⟨mdL E am vm, List.range 46, _, _, rfl, rfl, c_X10_crack l E A am vm z0 z1 hMI.1, fun _ _ => trivial⟩
theorem t_X9_pass (l : Launch) (E : Ev) (q : Nat) (z0 : Int32) : CalM l yX9_pass wsX9_pass rm_X9_pass E q 9 [.int z0] (TgW E q) (fun (X : TgX) (r : Int32) (X' : TgX) => (PassP z0 (X.2.2.1 0 0) r (X'.2.2.1 0 0)) ∧ KpS [0] X X') := by
  rintro sz ⟨v, vp, vs, vi, vj⟩ _ ⟨a, cz0, cz1, rt, rp, aq, vq, ap, as_, ai, bi, rfl, rfl, hTA⟩
  exact ⟨⟨_, rfl⟩, _, _, _, c_X9_pass l E sz a v cz0 cz1 rt rp aq vq ap vp as_ vs ai vi bi vj z0 hTA, fun r u h => ⟨(_, _, _, _, _), ⟨_, _, _, _, _, _, _, _, _, _, _, rfl, rfl, h.1.1⟩, ⟨h.2, h.1.2, rfl, rfl, rfl⟩⟩⟩
theorem t_X10_pass (l : Launch) (E : Ev) (q : Nat) (z0 : Int32) : CalM l yX10_pass wsX10_pass rm_X10_pass E q 10 [.int z0] (MdW E q) (fun (vm : Vf) (r : Int32) (vm' : Vf) => (PassP z0 (vm 23 0) r (vm' 23 0)) ∧ fr [23] vm vm') := by
  rintro sz vm _ ⟨am, rfl, rfl, hMI⟩
  exact ⟨⟨_, rfl⟩, _, _, _, c_X10_pass l E sz am vm z0 hMI, fun r u h => ⟨_, ⟨_, rfl, rfl, h.1.1⟩, ⟨h.2, h.1.2⟩⟩⟩
theorem t_X9_roll (l : Launch) (E : Ev) (q : Nat) (z0 : Int32) : CalM l yX9_roll wsX9_roll rm_X9_roll E q 9 [.int z0] (TgW E q) (fun (X : TgX) (r : Int32) (X' : TgX) => (∀ vm : Vf, RW vm X.2.1 X.2.2.1 → (-1 : Int32) = vm 62 0 → RolP vm z0 r (X.2.2.1 0 0) (X.2.2.1 4 0) (X.2.2.1 5 0) (X'.2.2.1 0 0) (X'.2.2.1 4 0) (X'.2.2.1 5 0)) ∧ KpS [0, 4, 5] X X') := by
  rintro sz ⟨v, vp, vs, vi, vj⟩ _ ⟨a, cz0, cz1, rt, rp, aq, vq, ap, as_, ai, bi, rfl, rfl, hTA⟩
  exact ⟨⟨_, rfl⟩, _, _, _, c_X9_roll l E sz a v cz0 cz1 rt rp aq vq ap vp as_ vs ai vi bi vj z0 hTA, fun r u h => ⟨(_, _, _, _, _), ⟨_, _, _, _, _, _, _, _, _, _, _, rfl, rfl, h.1.1⟩, ⟨h.2, h.1.2, rfl, rfl, rfl⟩⟩⟩
theorem t_X10_roll (l : Launch) (E : Ev) (q : Nat) (z0 : Int32) : CalM l yX10_roll wsX10_roll rm_X10_roll E q 10 [.int z0] (MdW E q) (fun (vm : Vf) (r : Int32) (vm' : Vf) => (RolP vm z0 r (vm 23 0) (vm 27 0) (vm 28 0) (vm' 23 0) (vm' 27 0) (vm' 28 0)) ∧ fr [23, 27, 28] vm vm') := by
  rintro sz vm _ ⟨am, rfl, rfl, hMI⟩
  exact ⟨⟨_, rfl⟩, _, _, _, c_X10_roll l E sz am vm z0 hMI, fun r u h => ⟨_, ⟨_, rfl, rfl, h.1.1⟩, ⟨h.2, h.1.2⟩⟩⟩
theorem t_X9_steep (l : Launch) (E : Ev) (q : Nat) (z0 : Int32) : CalM l yX9_steep wsX9_steep rm_X9_steep E q 9 [.int z0] (TgW E q) (fun (X : TgX) (r : Int32) (X' : TgX) => (SetP z0 0 99 (X.2.2.1 6 0) r (X'.2.2.1 6 0)) ∧ KpS [6] X X') := by
  rintro sz ⟨v, vp, vs, vi, vj⟩ _ ⟨a, cz0, cz1, rt, rp, aq, vq, ap, as_, ai, bi, rfl, rfl, hTA⟩
  exact ⟨⟨_, rfl⟩, _, _, _, c_X9_steep l E sz a v cz0 cz1 rt rp aq vq ap vp as_ vs ai vi bi vj z0 hTA, fun r u h => ⟨(_, _, _, _, _), ⟨_, _, _, _, _, _, _, _, _, _, _, rfl, rfl, h.1.1⟩, ⟨h.2, h.1.2, rfl, rfl, rfl⟩⟩⟩
theorem t_X10_steep (l : Launch) (E : Ev) (q : Nat) (z0 : Int32) : CalM l yX10_steep wsX10_steep rm_X10_steep E q 10 [.int z0] (MdW E q) (fun (vm : Vf) (r : Int32) (vm' : Vf) => (SetP z0 0 99 (vm 29 0) r (vm' 29 0)) ∧ fr [29] vm vm') := by
  rintro sz vm _ ⟨am, rfl, rfl, hMI⟩
  exact ⟨⟨_, rfl⟩, _, _, _, c_X10_steep l E sz am vm z0 hMI, fun r u h => ⟨_, ⟨_, rfl, rfl, h.1.1⟩, ⟨h.2, h.1.2⟩⟩⟩
theorem t_X9_load (l : Launch) (E : Ev) (q : Nat) (z0 : Int32) (z1 : Int32) (z2 : Int32) : CalM l yX9_load wsX9_load rm_X9_load E q 9 [.int z0, .int z1, .int z2] (TgW E q) (fun (X : TgX) (r : Int32) (X' : TgX) => (LoadP z0 z1 z2 (X.2.1 0 0) (X.2.1 1 0) (X.2.2.1 2) r (X'.2.2.1 2)) ∧ KpS [2] X X') := by
  rintro sz ⟨v, vp, vs, vi, vj⟩ _ ⟨a, cz0, cz1, rt, rp, aq, vq, ap, as_, ai, bi, rfl, rfl, hTA⟩
  exact ⟨⟨_, rfl⟩, _, _, _, c_X9_load l E sz a v cz0 cz1 rt rp aq vq ap vp as_ vs ai vi bi vj z0 z1 z2 hTA, fun r u h => ⟨(_, _, _, _, _), ⟨_, _, _, _, _, _, _, _, _, _, _, rfl, rfl, h.1.1⟩, ⟨h.2, h.1.2, rfl, rfl, rfl⟩⟩⟩
theorem t_X10_load (l : Launch) (E : Ev) (q : Nat) (z0 : Int32) (z1 : Int32) (z2 : Int32) : CalM l yX10_load wsX10_load rm_X10_load E q 10 [.int z0, .int z1, .int z2] (MdW E q) (fun (vm : Vf) (r : Int32) (vm' : Vf) => (LoadP z0 z1 z2 (vm 0 0) (vm 1 0) (vm 25) r (vm' 25)) ∧ fr [25] vm vm') := by
  rintro sz vm _ ⟨am, rfl, rfl, hMI⟩
  exact ⟨⟨_, rfl⟩, _, _, _, c_X10_load l E sz am vm z0 z1 z2 hMI, fun r u h => ⟨_, ⟨_, rfl, rfl, h.1.1⟩, ⟨h.2, h.1.2⟩⟩⟩
theorem t_X9_prop (l : Launch) (E : Ev) (q : Nat) (z0 : Int32) (z1 : Int32) : CalM l yX9_prop wsX9_prop rm_X9_prop E q 9 [.int z0, .int z1] (TgW E q) (fun (X : TgX) (r : Int32) (X' : TgX) => (PropP z0 z1 (X.2.1 60 0) (X.2.2.1 3) r (X'.2.2.1 3)) ∧ KpS [3] X X') := by
  rintro sz ⟨v, vp, vs, vi, vj⟩ _ ⟨a, cz0, cz1, rt, rp, aq, vq, ap, as_, ai, bi, rfl, rfl, hTA⟩
  exact ⟨⟨_, rfl⟩, _, _, _, c_X9_prop l E sz a v cz0 cz1 rt rp aq vq ap vp as_ vs ai vi bi vj z0 z1 hTA, fun r u h => ⟨(_, _, _, _, _), ⟨_, _, _, _, _, _, _, _, _, _, _, rfl, rfl, h.1.1⟩, ⟨h.2, h.1.2, rfl, rfl, rfl⟩⟩⟩
theorem t_X10_prop (l : Launch) (E : Ev) (q : Nat) (z0 : Int32) (z1 : Int32) : CalM l yX10_prop wsX10_prop rm_X10_prop E q 10 [.int z0, .int z1] (MdW E q) (fun (vm : Vf) (r : Int32) (vm' : Vf) => (PropP z0 z1 (vm 9 0) (vm 26) r (vm' 26)) ∧ fr [26] vm vm') := by
  rintro sz vm _ ⟨am, rfl, rfl, hMI⟩
  exact ⟨⟨_, rfl⟩, _, _, _, c_X10_prop l E sz am vm z0 z1 hMI, fun r u h => ⟨_, ⟨_, rfl, rfl, h.1.1⟩, ⟨h.2, h.1.2⟩⟩⟩
theorem t_X9_shift (l : Launch) (E : Ev) (q : Nat) (z0 : Int32) (z1 : Int32) : CalM l yX9_shift wsX9_shift rm_X9_shift E q 9 [.int z0, .int z1] (TgW E q) (fun (X : TgX) (r : Int32) (X' : TgX) => (ShiftP z0 z1 (X.2.1 5 0) (fun j => X.2.1 (20 + 10 * j) 0) (X.2.2.1 1) r (X'.2.2.1 1)) ∧ KpS [1] X X') := by
  rintro sz ⟨v, vp, vs, vi, vj⟩ _ ⟨a, cz0, cz1, rt, rp, aq, vq, ap, as_, ai, bi, rfl, rfl, hTA⟩
  exact ⟨⟨_, rfl⟩, _, _, _, c_X9_shift l E sz a v cz0 cz1 rt rp aq vq ap vp as_ vs ai vi bi vj z0 z1 hTA, fun r u h => ⟨(_, _, _, _, _), ⟨_, _, _, _, _, _, _, _, _, _, _, rfl, rfl, h.1.1⟩, ⟨h.2, h.1.2, rfl, rfl, rfl⟩⟩⟩
theorem t_X10_shift (l : Launch) (E : Ev) (q : Nat) (z0 : Int32) (z1 : Int32) : CalM l yX10_shift wsX10_shift rm_X10_shift E q 10 [.int z0, .int z1] (MdW E q) (fun (vm : Vf) (r : Int32) (vm' : Vf) => (ShiftP z0 z1 (vm 4 0) (vm 5) (vm 24) r (vm' 24)) ∧ fr [24] vm vm') := by
  rintro sz vm _ ⟨am, rfl, rfl, hMI⟩
  exact ⟨⟨_, rfl⟩, _, _, _, c_X10_shift l E sz am vm z0 z1 hMI, fun r u h => ⟨_, ⟨_, rfl, rfl, h.1.1⟩, ⟨h.2, h.1.2⟩⟩⟩
theorem t_X9_drift (l : Launch) (E : Ev) (q : Nat) (z0 : Int32) : CalM l yX9_drift wsX9_drift rm_X9_drift E q 9 [.int z0] (TgW E q) (fun (X : TgX) (r : Int32) (X' : TgX) => (∀ vm : Vf, RW vm X.2.1 X.2.2.1 → (-1 : Int32) = vm 62 0 → DriP vm z0 r (X'.2.2.1 = X.2.2.1) (RW (drN vm z0.toNatClampNeg) X.2.1 X'.2.2.1)) ∧ KpS [0, 2, 4, 5, 7] X X') := by
  rintro sz ⟨v, vp, vs, vi, vj⟩ _ ⟨a, cz0, cz1, rt, rp, aq, vq, ap, as_, ai, bi, rfl, rfl, hTA⟩
  exact ⟨⟨_, rfl⟩, _, _, _, c_X9_drift l E sz a v cz0 cz1 rt rp aq vq ap vp as_ vs ai vi bi vj z0 hTA, fun r u h => ⟨(_, _, _, _, _), ⟨_, _, _, _, _, _, _, _, _, _, _, rfl, rfl, h.1.1⟩, ⟨h.2, h.1.2, rfl, rfl, rfl⟩⟩⟩
theorem t_X10_drift (l : Launch) (E : Ev) (q : Nat) (z0 : Int32) : CalM l yX10_drift wsX10_drift rm_X10_drift E q 10 [.int z0] (MdW E q) (fun (vm : Vf) (r : Int32) (vm' : Vf) => (DriP vm z0 r (vm' = vm) (Ag (drN vm z0.toNatClampNeg) vm')) ∧ fr [23, 25, 27, 28, 30] vm vm') := by
  rintro sz vm _ ⟨am, rfl, rfl, hMI⟩
  exact ⟨⟨_, rfl⟩, _, _, _, c_X10_drift l E sz am vm z0 hMI, fun r u h => ⟨_, ⟨_, rfl, rfl, h.1.1⟩, ⟨h.2, h.1.2⟩⟩⟩
theorem t_X9_level (l : Launch) (E : Ev) (A : Nat → Prop) (q : Nat) (z0 : Int32) (z1 : Int32) (z2 : Int32) : CalR l yX9_level wsX9_level rm_X9_level E A q 9 [.int z0, .int z1, .int z2] (TgW E q) (fun _ _ => True) := by
  rintro ⟨v, vp, vs, vi, vj⟩ _ ⟨a, cz0, cz1, rt, rp, aq, vq, ap, as_, ai, bi, rfl, rfl, hTA⟩
  exact ⟨tgsL E (up1 (up1 a 201 cz0) 202 cz1) v aq ap vp as_ vs, tgPos, _, _, rfl, rfl, c_X9_level l E A (up1 (up1 a 201 cz0) 202 cz1) v aq ap vp as_ vs z0 z1 z2 hTA.2.2.1 hTA.2.2.2.2.1 hTA.1, fun _ _ => trivial⟩
theorem t_X10_level (l : Launch) (E : Ev) (A : Nat → Prop) (q : Nat) (z0 : Int32) (z1 : Int32) (z2 : Int32) : CalR l yX10_level wsX10_level rm_X10_level E A q 10 [.int z0, .int z1, .int z2] (MdW E q) (fun _ _ => True) := by
  rintro vm _ ⟨am, rfl, rfl, hMI⟩
  exact ⟨mdL E am vm, List.range 46, _, _, rfl, rfl, c_X10_level l E A am vm z0 z1 z2 hMI.1, fun _ _ => trivial⟩
theorem t_X9_aslant (l : Launch) (E : Ev) (A : Nat → Prop) (q : Nat) (z0 : Int32) : CalR l yX9_aslant wsX9_aslant rm_X9_aslant E A q 9 [.int z0] (TgW E q) (fun _ _ => True) := by
  rintro ⟨v, vp, vs, vi, vj⟩ _ ⟨a, cz0, cz1, rt, rp, aq, vq, ap, as_, ai, bi, rfl, rfl, hTA⟩
  exact ⟨tgsL E (up1 (up1 a 201 cz0) 202 cz1) v aq ap vp as_ vs, tgPos, _, _, rfl, rfl, c_X9_aslant l E A (up1 (up1 a 201 cz0) 202 cz1) v aq ap vp as_ vs z0 hTA.2.2.1 hTA.2.2.2.2.1 hTA.1, fun _ _ => trivial⟩
theorem t_X10_aslant (l : Launch) (E : Ev) (A : Nat → Prop) (q : Nat) (z0 : Int32) : CalR l yX10_aslant wsX10_aslant rm_X10_aslant E A q 10 [.int z0] (MdW E q) (fun _ _ => True) := by
  rintro vm _ ⟨am, rfl, rfl, hMI⟩
  exact ⟨mdL E am vm, List.range 46, _, _, rfl, rfl, c_X10_aslant l E A am vm z0 hMI.1, fun _ _ => trivial⟩
theorem t_X9_turn (l : Launch) (E : Ev) (A : Nat → Prop) (q : Nat) (z0 : Int32) (z1 : Int32) (z2 : Int32) : CalR l yX9_turn wsX9_turn rm_X9_turn E A q 9 [.int z0, .int z1, .int z2] (TgW E q) (fun _ _ => True) := by
  rintro ⟨v, vp, vs, vi, vj⟩ _ ⟨a, cz0, cz1, rt, rp, aq, vq, ap, as_, ai, bi, rfl, rfl, hTA⟩
  exact ⟨tgsL E (up1 (up1 a 201 cz0) 202 cz1) v aq ap vp as_ vs, tgPos, _, _, rfl, rfl, c_X9_turn l E A (up1 (up1 a 201 cz0) 202 cz1) v aq ap vp as_ vs z0 z1 z2 hTA.2.2.1 hTA.2.2.2.2.1 hTA.1, fun _ _ => trivial⟩
theorem t_X10_turn (l : Launch) (E : Ev) (A : Nat → Prop) (q : Nat) (z0 : Int32) (z1 : Int32) (z2 : Int32) : CalR l yX10_turn wsX10_turn rm_X10_turn E A q 10 [.int z0, .int z1, .int z2] (MdW E q) (fun _ _ => True) := by
  rintro vm _ ⟨am, rfl, rfl, hMI⟩
  exact ⟨mdL E am vm, List.range 46, _, _, rfl, rfl, c_X10_turn l E A am vm z0 z1 z2 hMI.1, fun _ _ => trivial⟩
theorem t_X9_most (l : Launch) (E : Ev) (A : Nat → Prop) (q : Nat) (z0 : Int32) (z1 : Int32) (z2 : Int32) (z3 : Int32) : CalR l yX9_most wsX9_most rm_X9_most E A q 9 [.int z0, .int z1, .int z2, .int z3] (TgW E q) (fun _ _ => True) := by
  rintro ⟨v, vp, vs, vi, vj⟩ _ ⟨a, cz0, cz1, rt, rp, aq, vq, ap, as_, ai, bi, rfl, rfl, hTA⟩
  exact ⟨tgsL E (up1 (up1 a 201 cz0) 202 cz1) v aq ap vp as_ vs, tgPos, _, _, rfl, rfl, c_X9_most l E A (up1 (up1 a 201 cz0) 202 cz1) v aq ap vp as_ vs z0 z1 z2 z3 hTA.2.2.1 hTA.2.2.2.2.1 hTA.1, fun _ _ => trivial⟩
theorem t_X10_most (l : Launch) (E : Ev) (A : Nat → Prop) (q : Nat) (z0 : Int32) (z1 : Int32) (z2 : Int32) (z3 : Int32) : CalR l yX10_most wsX10_most rm_X10_most E A q 10 [.int z0, .int z1, .int z2, .int z3] (MdW E q) (fun _ _ => True) := by
  rintro vm _ ⟨am, rfl, rfl, hMI⟩
  exact ⟨mdL E am vm, List.range 46, _, _, rfl, rfl, c_X10_most l E A am vm z0 z1 z2 z3 hMI.1, fun _ _ => trivial⟩
theorem t_X9_bell (l : Launch) (E : Ev) (A : Nat → Prop) (q : Nat) (z0 : Int32) (z1 : Int32) (z2 : Int32) (z3 : Int32) (z4 : Int32) : CalR l yX9_bell wsX9_bell rm_X9_bell E A q 9 [.int z0, .int z1, .int z2, .int z3, .int z4] (TgW E q) (fun _ _ => True) := by
  rintro ⟨v, vp, vs, vi, vj⟩ _ ⟨a, cz0, cz1, rt, rp, aq, vq, ap, as_, ai, bi, rfl, rfl, hTA⟩
  exact ⟨tgsL E (up1 (up1 a 201 cz0) 202 cz1) v aq ap vp as_ vs, tgPos, _, _, rfl, rfl, c_X9_bell l E A (up1 (up1 a 201 cz0) 202 cz1) v aq ap vp as_ vs z0 z1 z2 z3 z4 hTA.2.2.1 hTA.2.2.2.2.1 hTA.1, fun _ _ => trivial⟩
theorem t_X10_bell (l : Launch) (E : Ev) (A : Nat → Prop) (q : Nat) (z0 : Int32) (z1 : Int32) (z2 : Int32) (z3 : Int32) (z4 : Int32) : CalR l yX10_bell wsX10_bell rm_X10_bell E A q 10 [.int z0, .int z1, .int z2, .int z3, .int z4] (MdW E q) (fun _ _ => True) := by
  rintro vm _ ⟨am, rfl, rfl, hMI⟩
  exact ⟨mdL E am vm, List.range 46, _, _, rfl, rfl, c_X10_bell l E A am vm z0 z1 z2 z3 z4 hMI.1, fun _ _ => trivial⟩
theorem t_X9_breaks (l : Launch) (E : Ev) (A : Nat → Prop) (q : Nat) (z0 : Int32) (z1 : Int32) : CalR l yX9_breaks wsX9_breaks rm_X9_breaks E A q 9 [.int z0, .int z1] (TgW E q) (fun _ _ => True) := by
  rintro ⟨v, vp, vs, vi, vj⟩ _ ⟨a, cz0, cz1, rt, rp, aq, vq, ap, as_, ai, bi, rfl, rfl, hTA⟩
  exact ⟨tgsL E (up1 (up1 a 201 cz0) 202 cz1) v aq ap vp as_ vs, tgPos, _, _, rfl, rfl, c_X9_breaks l E A (up1 (up1 a 201 cz0) 202 cz1) v aq ap vp as_ vs z0 z1 hTA.2.2.1 hTA.2.2.2.2.1 hTA.1, fun _ _ => trivial⟩
theorem t_X10_breaks (l : Launch) (E : Ev) (A : Nat → Prop) (q : Nat) (z0 : Int32) (z1 : Int32) : CalR l yX10_breaks wsX10_breaks rm_X10_breaks E A q 10 [.int z0, .int z1] (MdW E q) (fun _ _ => True) := by
  rintro vm _ ⟨am, rfl, rfl, hMI⟩
  exact ⟨mdL E am vm, List.range 46, _, _, rfl, rfl, c_X10_breaks l E A am vm z0 z1 hMI.1, fun _ _ => trivial⟩
theorem t_X9_props (l : Launch) (E : Ev) (A : Nat → Prop) (q : Nat) (z0 : Int32) : CalR l yX9_props wsX9_props rm_X9_props E A q 9 [.int z0] (TgW E q) (fun _ _ => True) := by
  rintro ⟨v, vp, vs, vi, vj⟩ _ ⟨a, cz0, cz1, rt, rp, aq, vq, ap, as_, ai, bi, rfl, rfl, hTA⟩
  exact ⟨tgsL E (up1 (up1 a 201 cz0) 202 cz1) v aq ap vp as_ vs, tgPos, _, _, rfl, rfl, c_X9_props l E A (up1 (up1 a 201 cz0) 202 cz1) v aq ap vp as_ vs z0 hTA.2.2.1 hTA.2.2.2.2.1 hTA.1, fun _ _ => trivial⟩
theorem t_X10_props (l : Launch) (E : Ev) (A : Nat → Prop) (q : Nat) (z0 : Int32) : CalR l yX10_props wsX10_props rm_X10_props E A q 10 [.int z0] (MdW E q) (fun _ _ => True) := by
  rintro vm _ ⟨am, rfl, rfl, hMI⟩
  exact ⟨mdL E am vm, List.range 46, _, _, rfl, rfl, c_X10_props l E A am vm z0 hMI.1, fun _ _ => trivial⟩
theorem t_X9_soonest (l : Launch) (E : Ev) (A : Nat → Prop) (q : Nat) (z0 : Int32) (z1 : Int32) (z2 : Int32) : CalR l yX9_soonest wsX9_soonest rm_X9_soonest E A q 9 [.int z0, .int z1, .int z2] (TgW E q) (fun _ _ => True) := by
  rintro ⟨v, vp, vs, vi, vj⟩ _ ⟨a, cz0, cz1, rt, rp, aq, vq, ap, as_, ai, bi, rfl, rfl, hTA⟩
  exact ⟨tgsL E (up1 (up1 a 201 cz0) 202 cz1) v aq ap vp as_ vs, tgPos, _, _, rfl, rfl, c_X9_soonest l E A (up1 (up1 a 201 cz0) 202 cz1) v aq ap vp as_ vs z0 z1 z2 hTA.2.2.1 hTA.2.2.2.2.1 hTA.1, fun _ _ => trivial⟩
theorem t_X10_soonest (l : Launch) (E : Ev) (A : Nat → Prop) (q : Nat) (z0 : Int32) (z1 : Int32) (z2 : Int32) : CalR l yX10_soonest wsX10_soonest rm_X10_soonest E A q 10 [.int z0, .int z1, .int z2] (MdW E q) (fun _ _ => True) := by
  rintro vm _ ⟨am, rfl, rfl, hMI⟩
  exact ⟨mdL E am vm, List.range 46, _, _, rfl, rfl, c_X10_soonest l E A am vm z0 z1 z2 hMI.1, fun _ _ => trivial⟩
theorem t_X9_least (l : Launch) (E : Ev) (q : Nat) (z0 : Int32) (z1 : Int32) (z2 : Int32) (z3 : Int32) (z4 : Int32) : CalM l yX9_least wsX9_least rm_X9_least E q 9 [.int z0, .int z1, .int z2, .int z3, .int z4] (TgW E q) (fun (X : TgX) (r : Int32) (X' : TgX) => KpX X X') := by
  rintro sz ⟨v, vp, vs, vi, vj⟩ _ ⟨a, cz0, cz1, rt, rp, aq, vq, ap, as_, ai, bi, rfl, rfl, hTA⟩
  exact ⟨⟨_, rfl⟩, _, _, _, c_X9_least l E sz a v cz0 cz1 rt rp aq vq ap vp as_ vs ai vi bi vj z0 z1 z2 z3 z4 hTA, fun r u h => ⟨(_, _, _, _, _), ⟨_, _, _, _, _, _, _, _, _, _, _, rfl, rfl, h.1⟩, ⟨kp.of h.2 (by decide), rfl⟩⟩⟩
theorem t_X10_least (l : Launch) (E : Ev) (q : Nat) (z0 : Int32) (z1 : Int32) (z2 : Int32) (z3 : Int32) (z4 : Int32) : CalM l yX10_least wsX10_least rm_X10_least E q 10 [.int z0, .int z1, .int z2, .int z3, .int z4] (MdW E q) (fun (vm : Vf) (r : Int32) (vm' : Vf) => KpM vm vm') := by
  rintro sz vm _ ⟨am, rfl, rfl, hMI⟩
  exact ⟨⟨_, rfl⟩, _, _, _, c_X10_least l E sz am vm z0 z1 z2 z3 z4 hMI, fun r u h => ⟨_, ⟨_, rfl, rfl, h.1⟩, ⟨kp.of h.2 (by decide), f24 h.2 (by decide)⟩⟩⟩
theorem t_X9_water (l : Launch) (E : Ev) (q : Nat) (z0 : Int32) (z1 : Int32) (z2 : Int32) : CalM l yX9_water wsX9_water rm_X9_water E q 9 [.int z0, .int z1, .int z2] (TgW E q) (fun (X : TgX) (r : Int32) (X' : TgX) => KpX X X') := by
  rintro sz ⟨v, vp, vs, vi, vj⟩ _ ⟨a, cz0, cz1, rt, rp, aq, vq, ap, as_, ai, bi, rfl, rfl, hTA⟩
  exact ⟨⟨_, rfl⟩, _, _, _, c_X9_water l E sz a v cz0 cz1 rt rp aq vq ap vp as_ vs ai vi bi vj z0 z1 z2 hTA, fun r u h => ⟨(_, _, _, _, _), ⟨_, _, _, _, _, _, _, _, _, _, _, rfl, rfl, h.1⟩, ⟨kp.of h.2 (by decide), rfl⟩⟩⟩
theorem t_X10_water (l : Launch) (E : Ev) (q : Nat) (z0 : Int32) (z1 : Int32) (z2 : Int32) : CalM l yX10_water wsX10_water rm_X10_water E q 10 [.int z0, .int z1, .int z2] (MdW E q) (fun (vm : Vf) (r : Int32) (vm' : Vf) => KpM vm vm') := by
  rintro sz vm _ ⟨am, rfl, rfl, hMI⟩
  exact ⟨⟨_, rfl⟩, _, _, _, c_X10_water l E sz am vm z0 z1 z2 hMI, fun r u h => ⟨_, ⟨_, rfl, rfl, h.1⟩, ⟨kp.of h.2 (by decide), f24 h.2 (by decide)⟩⟩⟩
theorem t_X9_whose (l : Launch) (E : Ev) (A : Nat → Prop) (q : Nat) (z0 : Int32) (z1 : Int32) : CalR l yX9_whose wsX9_whose rm_X9_whose E A q 9 [.int z0, .int z1] (TgW E q) (fun _ _ => True) := by
  rintro ⟨v, vp, vs, vi, vj⟩ _ ⟨a, cz0, cz1, rt, rp, aq, vq, ap, as_, ai, bi, rfl, rfl, hTA⟩
  exact ⟨tgsL E (up1 (up1 a 201 cz0) 202 cz1) v aq ap vp as_ vs, tgPos, _, _, rfl, rfl, c_X9_whose l E A (up1 (up1 a 201 cz0) 202 cz1) v aq ap vp as_ vs z0 z1 hTA.2.2.1 hTA.2.2.2.2.1 hTA.1, fun _ _ => trivial⟩
theorem t_X10_whose (l : Launch) (E : Ev) (A : Nat → Prop) (q : Nat) (z0 : Int32) (z1 : Int32) : CalR l yX10_whose wsX10_whose rm_X10_whose E A q 10 [.int z0, .int z1] (MdW E q) (fun _ _ => True) := by
  rintro vm _ ⟨am, rfl, rfl, hMI⟩
  exact ⟨mdL E am vm, List.range 46, _, _, rfl, rfl, c_X10_whose l E A am vm z0 z1 hMI.1, fun _ _ => trivial⟩
theorem t_X9_stays (l : Launch) (E : Ev) (A : Nat → Prop) (q : Nat) (z0 : Int32) : CalR l yX9_stays wsX9_stays rm_X9_stays E A q 9 [.int z0] (TgW E q) (fun _ _ => True) := by
  rintro ⟨v, vp, vs, vi, vj⟩ _ ⟨a, cz0, cz1, rt, rp, aq, vq, ap, as_, ai, bi, rfl, rfl, hTA⟩
  exact ⟨tgsL E (up1 (up1 a 201 cz0) 202 cz1) v aq ap vp as_ vs, tgPos, _, _, rfl, rfl, c_X9_stays l E A (up1 (up1 a 201 cz0) 202 cz1) v aq ap vp as_ vs z0 hTA.2.2.1 hTA.2.2.2.2.1 hTA.1, fun _ _ => trivial⟩
theorem t_X10_stays (l : Launch) (E : Ev) (A : Nat → Prop) (q : Nat) (z0 : Int32) : CalR l yX10_stays wsX10_stays rm_X10_stays E A q 10 [.int z0] (MdW E q) (fun _ _ => True) := by
  rintro vm _ ⟨am, rfl, rfl, hMI⟩
  exact ⟨mdL E am vm, List.range 46, _, _, rfl, rfl, c_X10_stays l E A am vm z0 hMI.1, fun _ _ => trivial⟩
theorem t_X9_see (l : Launch) (E : Ev) (q : Nat) (z0 : Int32) (z1 : Int32) (z2 : Int32) (z3 : Int32) : CalM l yX9_see wsX9_see rm_X9_see E q 9 [.int z0, .int z1, .int z2, .int z3] (TgW E q) (fun (X : TgX) (r : Int32) (X' : TgX) => (SeeP z0 z1 z2 z3 (X.2.1 0 0) (X.2.1 1 0) (X.1 401 0) r (X'.1 401 0) ∧ SeeR r (X.1 401 0) (X.2.1 0 0) z0 z1 z2 z3 (X.1 402) (X.1 403) (X.1 404) (X'.1 402) (X'.1 403) (X'.1 404)) ∧ KpV [401, 402, 403, 404] X X') := by
  rintro sz ⟨v, vp, vs, vi, vj⟩ _ ⟨a, cz0, cz1, rt, rp, aq, vq, ap, as_, ai, bi, rfl, rfl, hTA⟩
  exact ⟨⟨_, rfl⟩, _, _, _, c_X9_see l E sz a v cz0 cz1 rt rp aq vq ap vp as_ vs ai vi bi vj z0 z1 z2 z3 hTA, fun r u h => ⟨(_, _, _, _, _), ⟨_, _, _, _, _, _, _, _, _, _, _, rfl, rfl, h.1.1⟩, ⟨h.2, h.1.2, rfl⟩⟩⟩
theorem t_X10_see (l : Launch) (E : Ev) (q : Nat) (z0 : Int32) (z1 : Int32) (z2 : Int32) (z3 : Int32) : CalM l yX10_see wsX10_see rm_X10_see E q 10 [.int z0, .int z1, .int z2, .int z3] (MdW E q) (fun (vm : Vf) (r : Int32) (vm' : Vf) => (SeeP z0 z1 z2 z3 (vm 0 0) (vm 1 0) (vm 67 0) r (vm' 67 0) ∧ SeeR r (vm 67 0) (vm 0 0) z0 z1 z2 z3 (vm 68) (vm 69) (vm 70) (vm' 68) (vm' 69) (vm' 70)) ∧ fr [67, 68, 69, 70] vm vm') := by
  rintro sz vm _ ⟨am, rfl, rfl, hMI⟩
  exact ⟨⟨_, rfl⟩, _, _, _, c_X10_see l E sz am vm z0 z1 z2 z3 hMI, fun r u h => ⟨_, ⟨_, rfl, rfl, h.1.1⟩, ⟨h.2, h.1.2⟩⟩⟩
theorem t_X9_fits (l : Launch) (E : Ev) (q : Nat) (z0 : Int32) (z1 : Int32) : CalM l yX9_fits wsX9_fits rm_X9_fits E q 9 [.int z0, .int z1] (TgW E q) (fun (X : TgX) (r : Int32) (X' : TgX) => KpX X X') := by
  rintro sz ⟨v, vp, vs, vi, vj⟩ _ ⟨a, cz0, cz1, rt, rp, aq, vq, ap, as_, ai, bi, rfl, rfl, hTA⟩
  exact ⟨⟨_, rfl⟩, _, _, _, c_X9_fits l E sz a v cz0 cz1 rt rp aq vq ap vp as_ vs ai vi bi vj z0 z1 hTA, fun r u h => ⟨(_, _, _, _, _), ⟨_, _, _, _, _, _, _, _, _, _, _, rfl, rfl, h.1⟩, ⟨kp.of h.2 (by decide), rfl⟩⟩⟩
theorem t_X10_fits (l : Launch) (E : Ev) (q : Nat) (z0 : Int32) (z1 : Int32) : CalM l yX10_fits wsX10_fits rm_X10_fits E q 10 [.int z0, .int z1] (MdW E q) (fun (vm : Vf) (r : Int32) (vm' : Vf) => KpM vm vm') := by
  rintro sz vm _ ⟨am, rfl, rfl, hMI⟩
  exact ⟨⟨_, rfl⟩, _, _, _, c_X10_fits l E sz am vm z0 z1 hMI, fun r u h => ⟨_, ⟨_, rfl, rfl, h.1.1⟩, ⟨kp.of h.1.2 (by decide), h.2⟩⟩⟩
theorem t_X9_look (l : Launch) (E : Ev) (q : Nat) (z0 : Int32) : CalM l yX9_look wsX9_look rm_X9_look E q 9 [.int z0] (TgW E q) (fun (X : TgX) (r : Int32) (X' : TgX) => KpX X X') := by
  rintro sz ⟨v, vp, vs, vi, vj⟩ _ ⟨a, cz0, cz1, rt, rp, aq, vq, ap, as_, ai, bi, rfl, rfl, hTA⟩
  exact ⟨⟨_, rfl⟩, _, _, _, c_X9_look l E sz a v cz0 cz1 rt rp aq vq ap vp as_ vs ai vi bi vj z0 hTA, fun r u h => ⟨(_, _, _, _, _), ⟨_, _, _, _, _, _, _, _, _, _, _, rfl, rfl, h.1⟩, ⟨kp.of h.2 (by decide), rfl⟩⟩⟩
theorem t_X10_look (l : Launch) (E : Ev) (q : Nat) (z0 : Int32) : CalM l yX10_look wsX10_look rm_X10_look E q 10 [.int z0] (MdW E q) (fun (vm : Vf) (r : Int32) (vm' : Vf) => KpM vm vm') := by
  rintro sz vm _ ⟨am, rfl, rfl, hMI⟩
  exact ⟨⟨_, rfl⟩, _, _, _, c_X10_look l E sz am vm z0 hMI, fun r u h => ⟨_, ⟨_, rfl, rfl, h.1.1⟩, ⟨kp.of h.1.2 (by decide), h.2⟩⟩⟩
theorem t_X9_odds (l : Launch) (E : Ev) (A : Nat → Prop) (q : Nat) (z0 : Int32) (z1 : Int32) (z2 : Int32) (z3 : Int32) (z4 : Int32) (z5 : Int32) : CalR l yX9_odds wsX9_odds rm_X9_odds E A q 9 [.int z0, .int z1, .int z2, .int z3, .int z4, .int z5] (TgW E q) (fun _ _ => True) := by
  rintro ⟨v, vp, vs, vi, vj⟩ _ ⟨a, cz0, cz1, rt, rp, aq, vq, ap, as_, ai, bi, rfl, rfl, hTA⟩
  exact ⟨tgsL E (up1 (up1 a 201 cz0) 202 cz1) v aq ap vp as_ vs, tgPos, _, _, rfl, rfl, c_X9_odds l E A (up1 (up1 a 201 cz0) 202 cz1) v aq ap vp as_ vs z0 z1 z2 z3 z4 z5 hTA.2.2.1 hTA.2.2.2.2.1 hTA.1, fun _ _ => trivial⟩
theorem t_X10_odds (l : Launch) (E : Ev) (q : Nat) (z0 : Int32) (z1 : Int32) (z2 : Int32) (z3 : Int32) (z4 : Int32) (z5 : Int32) : CalM l yX10_odds wsX10_odds rm_X10_odds E q 10 [.int z0, .int z1, .int z2, .int z3, .int z4, .int z5] (MdW E q) (fun (vm : Vf) (r : Int32) (vm' : Vf) => (UnkP ((0 ≤ z0.toInt ∧ z0.toInt < (vm 4 0).toInt) ∧ inG z2 z3 (vm 0 0) (vm 1 0)) r (OutP ((0 ≤ z1.toInt ∧ z1.toInt ≤ 100) ∧ (0 ≤ z4.toInt ∧ z4.toInt ≤ 999) ∧ (0 ≤ z5.toInt ∧ z5.toInt ≤ 900000)) r (r = mOdd vm z0 z1 (mC vm z2 z3) z4 z5))) ∧ KpM vm vm') := by
  rintro sz vm _ ⟨am, rfl, rfl, hMI⟩
  exact ⟨⟨_, rfl⟩, _, _, _, c_X10_odds l E sz am vm z0 z1 z2 z3 z4 z5 hMI, fun r u h => ⟨_, ⟨_, rfl, rfl, h.1.1⟩, ⟨h.2, kp.of h.1.2 (by decide), f24 h.1.2 (by decide)⟩⟩⟩
theorem t_X9_write (l : Launch) (E : Ev) (q : Nat) (z0 : Int32) : CalM l yX9_write wsX9_write rm_X9_write E q 9 [.int z0] (TgW E q) (fun (X : TgX) (r : Int32) (X' : TgX) => (CntP (0 ≤ z0.toInt ∧ z0.toInt ≤ 4) 30 (X.1 12 0) r (X'.1 12 0) ∧ RowP r (X.1 12 0) (X.1 11) (X'.1 11) z0) ∧ KpV [11, 12] X X') := by
  rintro sz ⟨v, vp, vs, vi, vj⟩ _ ⟨a, cz0, cz1, rt, rp, aq, vq, ap, as_, ai, bi, rfl, rfl, hTA⟩
  exact ⟨⟨_, rfl⟩, _, _, _, c_X9_write l E sz a v cz0 cz1 rt rp aq vq ap vp as_ vs ai vi bi vj z0 hTA, fun r u h => ⟨(_, _, _, _, _), ⟨_, _, _, _, _, _, _, _, _, _, _, rfl, rfl, h.1.1⟩, ⟨h.2, h.1.2, rfl⟩⟩⟩
theorem t_X10_write (l : Launch) (E : Ev) (q : Nat) (z0 : Int32) : CalM l yX10_write wsX10_write rm_X10_write E q 10 [.int z0] (MdW E q) (fun (vm : Vf) (r : Int32) (vm' : Vf) => (CntP (0 ≤ z0.toInt ∧ z0.toInt ≤ 4) 30 (vm 75 0) r (vm' 75 0) ∧ RowP r (vm 75 0) (vm 76) (vm' 76) z0) ∧ fr [75, 76] vm vm') := by
  rintro sz vm _ ⟨am, rfl, rfl, hMI⟩
  exact ⟨⟨_, rfl⟩, _, _, _, c_X10_write l E sz am vm z0 hMI, fun r u h => ⟨_, ⟨_, rfl, rfl, h.1.1⟩, ⟨h.2, h.1.2⟩⟩⟩
theorem t_X9_tear (l : Launch) (E : Ev) (q : Nat) : CalM l yX9_tear wsX9_tear rm_X9_tear E q 9 [] (TgW E q) (fun (X : TgX) (r : Int32) (X' : TgX) => (TearP (X.1 12 0) (X.1 401 0) r (X'.1 12 0) (X'.1 401 0)) ∧ KpV [12, 401] X X') := by
  rintro sz ⟨v, vp, vs, vi, vj⟩ _ ⟨a, cz0, cz1, rt, rp, aq, vq, ap, as_, ai, bi, rfl, rfl, hTA⟩
  exact ⟨⟨_, rfl⟩, _, _, _, c_X9_tear l E sz a v cz0 cz1 rt rp aq vq ap vp as_ vs ai vi bi vj  hTA, fun r u h => ⟨(_, _, _, _, _), ⟨_, _, _, _, _, _, _, _, _, _, _, rfl, rfl, h.1.1⟩, ⟨h.2, h.1.2, rfl⟩⟩⟩
theorem t_X10_tear (l : Launch) (E : Ev) (q : Nat) : CalM l yX10_tear wsX10_tear rm_X10_tear E q 10 [] (MdW E q) (fun (vm : Vf) (r : Int32) (vm' : Vf) => (TearP (vm 75 0) (vm 67 0) r (vm' 75 0) (vm' 67 0)) ∧ fr [67, 75] vm vm') := by
  rintro sz vm _ ⟨am, rfl, rfl, hMI⟩
  exact ⟨⟨_, rfl⟩, _, _, _, c_X10_tear l E sz am vm  hMI, fun r u h => ⟨_, ⟨_, rfl, rfl, h.1.1⟩, ⟨h.2, h.1.2⟩⟩⟩
theorem t_X9_judge (l : Launch) (E : Ev) (A : Nat → Prop) (q : Nat) (z0 : Int32) : CalR l yX9_judge wsX9_judge rm_X9_judge E A q 9 [.int z0] (TgW E q) (fun _ _ => True) := by
  rintro ⟨v, vp, vs, vi, vj⟩ _ ⟨a, cz0, cz1, rt, rp, aq, vq, ap, as_, ai, bi, rfl, rfl, hTA⟩
  exact ⟨tgsL E (up1 (up1 a 201 cz0) 202 cz1) v aq ap vp as_ vs, tgPos, _, _, rfl, rfl, c_X9_judge l E A (up1 (up1 a 201 cz0) 202 cz1) v aq ap vp as_ vs z0 hTA.2.2.1 hTA.2.2.2.2.1 hTA.1, fun _ _ => trivial⟩
theorem t_X10_judge (l : Launch) (E : Ev) (A : Nat → Prop) (q : Nat) (z0 : Int32) : CalR l yX10_judge wsX10_judge rm_X10_judge E A q 10 [.int z0] (MdW E q) (fun _ _ => True) := by
  rintro vm _ ⟨am, rfl, rfl, hMI⟩
  exact ⟨mdL E am vm, List.range 46, _, _, rfl, rfl, c_X10_judge l E A am vm z0 hMI.1, fun _ _ => trivial⟩
theorem t_X9_seed (l : Launch) (E : Ev) (q : Nat) (z0 : Int32) : CalM l yX9_seed wsX9_seed rm_X9_seed E q 9 [.int z0] (TgW E q) (fun (X : TgX) (r : Int32) (X' : TgX) => (SetP z0 0 2147483647 (X.2.2.1 7 0) r (X'.2.2.1 7 0)) ∧ KpS [7] X X') := by
  rintro sz ⟨v, vp, vs, vi, vj⟩ _ ⟨a, cz0, cz1, rt, rp, aq, vq, ap, as_, ai, bi, rfl, rfl, hTA⟩
  exact ⟨⟨_, rfl⟩, _, _, _, c_X9_seed l E sz a v cz0 cz1 rt rp aq vq ap vp as_ vs ai vi bi vj z0 hTA, fun r u h => ⟨(_, _, _, _, _), ⟨_, _, _, _, _, _, _, _, _, _, _, rfl, rfl, h.1.1⟩, ⟨h.2, h.1.2, rfl, rfl, rfl⟩⟩⟩
theorem t_X10_seed (l : Launch) (E : Ev) (q : Nat) (z0 : Int32) : CalM l yX10_seed wsX10_seed rm_X10_seed E q 10 [.int z0] (MdW E q) (fun (vm : Vf) (r : Int32) (vm' : Vf) => (SetP z0 0 2147483647 (vm 30 0) r (vm' 30 0)) ∧ fr [30] vm vm') := by
  rintro sz vm _ ⟨am, rfl, rfl, hMI⟩
  exact ⟨⟨_, rfl⟩, _, _, _, c_X10_seed l E sz am vm z0 hMI, fun r u h => ⟨_, ⟨_, rfl, rfl, h.1.1⟩, ⟨h.2, h.1.2⟩⟩⟩
theorem t_X9_keep (l : Launch) (E : Ev) (q : Nat) (z0 : Int32) : CalM l yX9_keep wsX9_keep rm_X9_keep E q 9 [.int z0] (TgW E q) (fun (X : TgX) (r : Int32) (X' : TgX) => KeepC z0 X.2.2.1 X.2.2.2.1 X.2.2.2.2 X'.2.2.2.1 X'.2.2.2.2 ∧ X'.1 = X.1 ∧ X'.2.1 = X.2.1 ∧ X'.2.2.1 = X.2.2.1) := by
  rintro sz ⟨v, vp, vs, vi, vj⟩ _ ⟨a, cz0, cz1, rt, rp, aq, vq, ap, as_, ai, bi, rfl, rfl, hTA⟩
  exact ⟨⟨_, rfl⟩, _, _, _, c_X9_keep l E sz a v cz0 cz1 rt rp aq vq ap vp as_ vs ai vi bi vj z0 hTA, fun r u h => ⟨(_, _, _, _, _), ⟨_, _, _, _, _, _, _, _, _, _, _, rfl, rfl, h.1.1⟩, ⟨h.2, rfl, rfl, rfl⟩⟩⟩
theorem t_X10_keep (l : Launch) (E : Ev) (q : Nat) (z0 : Int32) : CalM l yX10_keep wsX10_keep rm_X10_keep E q 10 [.int z0] (MdW E q) (fun (vm : Vf) (r : Int32) (vm' : Vf) => KeepM z0 vm vm' ∧ fr [77, 78] vm vm') := by
  rintro sz vm _ ⟨am, rfl, rfl, hMI⟩
  exact ⟨⟨_, rfl⟩, _, _, _, c_X10_keep l E sz am vm z0 hMI, fun r u h => ⟨_, ⟨_, rfl, rfl, h.1.1.1⟩, ⟨h.2, h.1.2⟩⟩⟩
theorem t_X9_goBack (l : Launch) (E : Ev) (q : Nat) (z0 : Int32) : CalM l yX9_goBack wsX9_goBack rm_X9_goBack E q 9 [.int z0] (TgW E q) (fun (X : TgX) (r : Int32) (X' : TgX) => GoC z0 X.2.2.1 X.2.2.2.1 X.2.2.2.2 r X'.2.2.1 ∧ X'.1 = X.1 ∧ X'.2.1 = X.2.1 ∧ X'.2.2.2 = X.2.2.2) := by
  rintro sz ⟨v, vp, vs, vi, vj⟩ _ ⟨a, cz0, cz1, rt, rp, aq, vq, ap, as_, ai, bi, rfl, rfl, hTA⟩
  exact ⟨⟨_, rfl⟩, _, _, _, c_X9_goBack l E sz a v cz0 cz1 rt rp aq vq ap vp as_ vs ai vi bi vj z0 hTA, fun r u h => ⟨(_, _, _, _, _), ⟨_, _, _, _, _, _, _, _, _, _, _, rfl, rfl, h.1⟩, ⟨h.2, rfl, rfl, rfl⟩⟩⟩
theorem t_X10_goBack (l : Launch) (E : Ev) (q : Nat) (z0 : Int32) : CalM l yX10_goBack wsX10_goBack rm_X10_goBack E q 10 [.int z0] (MdW E q) (fun (vm : Vf) (r : Int32) (vm' : Vf) => GoM z0 vm r vm' ∧ fr [23, 24, 25, 26, 27, 28, 29, 30] vm vm') := by
  rintro sz vm _ ⟨am, rfl, rfl, hMI⟩
  exact ⟨⟨_, rfl⟩, _, _, _, c_X10_goBack l E sz am vm z0 hMI, fun r u h => ⟨_, ⟨_, rfl, rfl, h.1.1⟩, ⟨h.2, h.1.2⟩⟩⟩
end
section
section LK
variable {p : Program} {l : Launch} {e : Env} {s : State} {m : MethodId} {below : List Frame} {meth : Method} {c : Code} {H : Heap} {locs : List Loc} {Q : State → Prop}
variable {b L qt qm : Nat} {xs : Nat → Int32} {ls : Array Slot} {E : Ev} {A : Nat → Prop}
set_option maxHeartbeats 4000000
set_option maxRecDepth 100000
theorem i_of {x y : Int32} (h : x.toInt = y.toInt) : x = y := Int32.toInt_inj.mp h
theorem lc_0 (C : LwC p s m c b L xs E A) (hS : va_S A s.heap H locs) (I : LwI E A qt qm H) {i : Int32} (hl : lv_has ls 4 (lwl b qt qm i)) (hi : 0 ≤ i.toInt ∧ i.toInt + 7 ≤ L)
    (K : ∀ (H : Heap) (locs : List Loc), va_S A s.heap H locs → LwI E A qt qm H → W p l e room_1 s m #[Value.ref b] below meth c H locs 600000 7302250 Q (F0 m 1456 ls [])) : W p l e room_1 s m #[Value.ref b] below meth c H locs 600000 7302250 Q (F0 m 200 ls []) := by
  have hx := C.1.1
  have hb := C.1.2.1
  have hw := C.2.2.2.2.2.2.2
  obtain ⟨X, vm, hR, I⟩ := I
  have hM := lwj_md I
  refine lv_aload_n hx hb dL_law_200 rfl (lv_at hl 1 rfl) ?_
  refine lw_arg (v := 1) C hS hl hi (by decide) (by decide) dL_law_201 dL_law_202 dL_law_203 dL_law_204 dL_law_205 ?_
  refine lw_tM (rest := []) C hS I (t_X9_feed l E qt (xs (i + 1).toNatClampNeg)) (cwV 1 (hw_X9_feed hw) gd_X9_feed rfl rfl rfl (by decide +kernel) ⟨(Nat.le_of_ble_eq_true rfl), (Nat.le_of_ble_eq_true rfl)⟩) rfl hl.1 rfl (Nat.le_of_ble_eq_true rfl) dL_law_206 ⟨(Nat.le_of_ble_eq_true rfl), (Nat.le_of_ble_eq_true rfl)⟩ (fun r206 X206 H locs h206 hS I => ?_)
  refine lv_pop hx hb dL_law_209 rfl ?_
  refine lv_aload_n hx hb dL_law_210 rfl (lv_at hl 2 rfl) ?_
  refine lw_arg (v := 1) C hS hl hi (by decide) (by decide) dL_law_211 dL_law_212 dL_law_213 dL_law_214 dL_law_215 ?_
  refine lw_mM (rest := []) C hS I (t_X10_feed l E qm (xs (i + 1).toNatClampNeg)) (cwV 1 (hw_X10_feed hw) gd_X10_feed rfl rfl rfl (by decide +kernel) ⟨(Nat.le_of_ble_eq_true rfl), (Nat.le_of_ble_eq_true rfl)⟩) rfl hl.1 rfl (Nat.le_of_ble_eq_true rfl) dL_law_216 ⟨(Nat.le_of_ble_eq_true rfl), (Nat.le_of_ble_eq_true rfl)⟩ (fun r216 vm216 H locs h216 hS I => ?_)
  refine lv_pop hx hb dL_law_219 rfl ?_
  exact lv_goto (tgt := 1456) hx hb dL_law_220 (by decide) (K H locs hS ⟨X206, vm216, (rl_feed h206 h216 hM (lwj_md I) hR), I⟩)
theorem lc_1 (C : LwC p s m c b L xs E A) (hS : va_S A s.heap H locs) (I : LwI E A qt qm H) {i : Int32} (hl : lv_has ls 4 (lwl b qt qm i)) (hi : 0 ≤ i.toInt ∧ i.toInt + 7 ≤ L)
    (K : ∀ (H : Heap) (locs : List Loc), va_S A s.heap H locs → LwI E A qt qm H → W p l e room_1 s m #[Value.ref b] below meth c H locs 600000 7302250 Q (F0 m 1456 ls [])) : W p l e room_1 s m #[Value.ref b] below meth c H locs 600000 7302250 Q (F0 m 223 ls []) := by
  have hx := C.1.1
  have hb := C.1.2.1
  have hw := C.2.2.2.2.2.2.2
  obtain ⟨X, vm, hR, I⟩ := I
  have hM := lwj_md I
  refine lv_aload_n hx hb dL_law_223 rfl (lv_at hl 1 rfl) ?_
  refine lw_tM (rest := []) C hS I (t_X9_ground l E qt (SI (gr0 vm)) z0_gr0) (cwV 0 (hw_X9_ground hw) gd_X9_ground rfl rfl rfl (by decide +kernel) ⟨(Nat.le_of_ble_eq_true rfl), (Nat.le_of_ble_eq_true rfl)⟩) rfl hl.1 rfl (Nat.le_of_ble_eq_true rfl) dL_law_224 ⟨(Nat.le_of_ble_eq_true rfl), (Nat.le_of_ble_eq_true rfl)⟩ (fun r224 X224 H locs h224 hS I => ?_)
  refine lv_pop hx hb dL_law_227 rfl ?_
  refine lv_aload_n hx hb dL_law_228 rfl (lv_at hl 2 rfl) ?_
  refine lw_mM (rest := []) C hS I (t_X10_ground l E qm ) (cwV 0 (hw_X10_ground hw) gd_X10_ground rfl rfl rfl (by decide +kernel) ⟨(Nat.le_of_ble_eq_true rfl), (Nat.le_of_ble_eq_true rfl)⟩) rfl hl.1 rfl (Nat.le_of_ble_eq_true rfl) dL_law_229 ⟨(Nat.le_of_ble_eq_true rfl), (Nat.le_of_ble_eq_true rfl)⟩ (fun r229 vm229 H locs h229 hS I => ?_)
  refine lv_pop hx hb dL_law_232 rfl ?_
  exact lv_goto (tgt := 1456) hx hb dL_law_233 (by decide) (K H locs hS ⟨X224, vm229, (rl_ground h224 h229 hM (lwj_md I) hR).2, I⟩)
theorem lc_2 (C : LwC p s m c b L xs E A) (hS : va_S A s.heap H locs) (I : LwI E A qt qm H) {i : Int32} (hl : lv_has ls 4 (lwl b qt qm i)) (hi : 0 ≤ i.toInt ∧ i.toInt + 7 ≤ L)
    (K : ∀ (H : Heap) (locs : List Loc), va_S A s.heap H locs → LwI E A qt qm H → W p l e room_1 s m #[Value.ref b] below meth c H locs 600000 7302250 Q (F0 m 1456 ls [])) : W p l e room_1 s m #[Value.ref b] below meth c H locs 600000 7302250 Q (F0 m 236 ls []) := by
  have hx := C.1.1
  have hb := C.1.2.1
  have hw := C.2.2.2.2.2.2.2
  obtain ⟨X, vm, hR, I⟩ := I
  have hM := lwj_md I
  refine lv_aload_n hx hb dL_law_236 rfl (lv_at hl 1 rfl) ?_
  refine lw_tR (rest := []) C hS I (t_X9_fault l E A qt ) (cwV 0 (hw_X9_fault hw) gd_X9_fault rfl rfl rfl (by decide +kernel) ⟨(Nat.le_of_ble_eq_true rfl), (Nat.le_of_ble_eq_true rfl)⟩) rfl hl.1 rfl (Nat.le_of_ble_eq_true rfl) dL_law_237 ⟨(Nat.le_of_ble_eq_true rfl), (Nat.le_of_ble_eq_true rfl)⟩ (fun r237 h237 => ?_)
  refine lv_pop hx hb dL_law_240 rfl ?_
  refine lv_aload_n hx hb dL_law_241 rfl (lv_at hl 2 rfl) ?_
  refine lw_mR (rest := []) C hS I (t_X10_fault l E A qm ) (cwV 0 (hw_X10_fault hw) gd_X10_fault rfl rfl rfl (by decide +kernel) ⟨(Nat.le_of_ble_eq_true rfl), (Nat.le_of_ble_eq_true rfl)⟩) rfl hl.1 rfl (Nat.le_of_ble_eq_true rfl) dL_law_242 ⟨(Nat.le_of_ble_eq_true rfl), (Nat.le_of_ble_eq_true rfl)⟩ (fun r242 h242 => ?_)
  refine lv_pop hx hb dL_law_245 rfl ?_
  exact lv_goto (tgt := 1456) hx hb dL_law_246 (by decide) (K H locs hS ⟨X, vm, (rl_k hM ⟨kp.rf, rfl⟩ ⟨kp.rf, fun _ _ => rfl⟩ hR), I⟩)
theorem lc_3 (C : LwC p s m c b L xs E A) (hS : va_S A s.heap H locs) (I : LwI E A qt qm H) {i : Int32} (hl : lv_has ls 4 (lwl b qt qm i)) (hi : 0 ≤ i.toInt ∧ i.toInt + 7 ≤ L)
    (K : ∀ (H : Heap) (locs : List Loc), va_S A s.heap H locs → LwI E A qt qm H → W p l e room_1 s m #[Value.ref b] below meth c H locs 600000 7302250 Q (F0 m 1456 ls [])) : W p l e room_1 s m #[Value.ref b] below meth c H locs 600000 7302250 Q (F0 m 249 ls []) := by
  have hx := C.1.1
  have hb := C.1.2.1
  have hw := C.2.2.2.2.2.2.2
  obtain ⟨X, vm, hR, I⟩ := I
  have hM := lwj_md I
  refine lv_aload_n hx hb dL_law_249 rfl (lv_at hl 1 rfl) ?_
  refine lw_arg (v := 1) C hS hl hi (by decide) (by decide) dL_law_250 dL_law_251 dL_law_252 dL_law_253 dL_law_254 ?_
  refine lw_tR (rest := []) C hS I (t_X9_told l E A qt (xs (i + 1).toNatClampNeg)) (cwV 1 (hw_X9_told hw) gd_X9_told rfl rfl rfl (by decide +kernel) ⟨(Nat.le_of_ble_eq_true rfl), (Nat.le_of_ble_eq_true rfl)⟩) rfl hl.1 rfl (Nat.le_of_ble_eq_true rfl) dL_law_255 ⟨(Nat.le_of_ble_eq_true rfl), (Nat.le_of_ble_eq_true rfl)⟩ (fun r255 h255 => ?_)
  refine lv_pop hx hb dL_law_258 rfl ?_
  refine lv_aload_n hx hb dL_law_259 rfl (lv_at hl 2 rfl) ?_
  refine lw_arg (v := 1) C hS hl hi (by decide) (by decide) dL_law_260 dL_law_261 dL_law_262 dL_law_263 dL_law_264 ?_
  refine lw_mR (rest := []) C hS I (t_X10_told l E A qm (xs (i + 1).toNatClampNeg)) (cwV 1 (hw_X10_told hw) gd_X10_told rfl rfl rfl (by decide +kernel) ⟨(Nat.le_of_ble_eq_true rfl), (Nat.le_of_ble_eq_true rfl)⟩) rfl hl.1 rfl (Nat.le_of_ble_eq_true rfl) dL_law_265 ⟨(Nat.le_of_ble_eq_true rfl), (Nat.le_of_ble_eq_true rfl)⟩ (fun r265 h265 => ?_)
  refine lv_pop hx hb dL_law_268 rfl ?_
  exact lv_goto (tgt := 1456) hx hb dL_law_269 (by decide) (K H locs hS ⟨X, vm, (rl_k hM ⟨kp.rf, rfl⟩ ⟨kp.rf, fun _ _ => rfl⟩ hR), I⟩)
theorem lc_4 (C : LwC p s m c b L xs E A) (hS : va_S A s.heap H locs) (I : LwI E A qt qm H) {i : Int32} (hl : lv_has ls 4 (lwl b qt qm i)) (hi : 0 ≤ i.toInt ∧ i.toInt + 7 ≤ L)
    (K : ∀ (H : Heap) (locs : List Loc), va_S A s.heap H locs → LwI E A qt qm H → W p l e room_1 s m #[Value.ref b] below meth c H locs 600000 7302250 Q (F0 m 1456 ls [])) : W p l e room_1 s m #[Value.ref b] below meth c H locs 600000 7302250 Q (F0 m 272 ls []) := by
  have hx := C.1.1
  have hb := C.1.2.1
  have hw := C.2.2.2.2.2.2.2
  obtain ⟨X, vm, hR, I⟩ := I
  have hM := lwj_md I
  refine lv_aload_n hx hb dL_law_272 rfl (lv_at hl 1 rfl) ?_
  refine lw_arg (v := 1) C hS hl hi (by decide) (by decide) dL_law_273 dL_law_274 dL_law_275 dL_law_276 dL_law_277 ?_
  refine lw_arg (v := 2) C hS hl hi (by decide) (by decide) dL_law_278 dL_law_279 dL_law_280 dL_law_281 dL_law_282 ?_
  refine lw_arg (v := 3) C hS hl hi (by decide) (by decide) dL_law_283 dL_law_284 dL_law_285 dL_law_286 dL_law_287 ?_
  refine lw_tR (rest := []) C hS I (t_X9_cell l E A qt (xs (i + 1).toNatClampNeg) (xs (i + 2).toNatClampNeg) (xs (i + 3).toNatClampNeg)) (cwV 3 (hw_X9_cell hw) gd_X9_cell rfl rfl rfl (by decide +kernel) ⟨(Nat.le_of_ble_eq_true rfl), (Nat.le_of_ble_eq_true rfl)⟩) rfl hl.1 rfl (Nat.le_of_ble_eq_true rfl) dL_law_288 ⟨(Nat.le_of_ble_eq_true rfl), (Nat.le_of_ble_eq_true rfl)⟩ (fun r288 h288 => ?_)
  refine lv_pop hx hb dL_law_291 rfl ?_
  refine lv_aload_n hx hb dL_law_292 rfl (lv_at hl 2 rfl) ?_
  refine lw_arg (v := 1) C hS hl hi (by decide) (by decide) dL_law_293 dL_law_294 dL_law_295 dL_law_296 dL_law_297 ?_
  refine lw_arg (v := 2) C hS hl hi (by decide) (by decide) dL_law_298 dL_law_299 dL_law_300 dL_law_301 dL_law_302 ?_
  refine lw_arg (v := 3) C hS hl hi (by decide) (by decide) dL_law_303 dL_law_304 dL_law_305 dL_law_306 dL_law_307 ?_
  refine lw_mR (rest := []) C hS I (t_X10_cell l E A qm (xs (i + 1).toNatClampNeg) (xs (i + 2).toNatClampNeg) (xs (i + 3).toNatClampNeg)) (cwV 3 (hw_X10_cell hw) gd_X10_cell rfl rfl rfl (by decide +kernel) ⟨(Nat.le_of_ble_eq_true rfl), (Nat.le_of_ble_eq_true rfl)⟩) rfl hl.1 rfl (Nat.le_of_ble_eq_true rfl) dL_law_308 ⟨(Nat.le_of_ble_eq_true rfl), (Nat.le_of_ble_eq_true rfl)⟩ (fun r308 h308 => ?_)
  refine lv_pop hx hb dL_law_311 rfl ?_
  exact lv_goto (tgt := 1456) hx hb dL_law_312 (by decide) (K H locs hS ⟨X, vm, (rl_k hM ⟨kp.rf, rfl⟩ ⟨kp.rf, fun _ _ => rfl⟩ hR), I⟩)
theorem lc_5 (C : LwC p s m c b L xs E A) (hS : va_S A s.heap H locs) (I : LwI E A qt qm H) {i : Int32} (hl : lv_has ls 4 (lwl b qt qm i)) (hi : 0 ≤ i.toInt ∧ i.toInt + 7 ≤ L)
    (K : ∀ (H : Heap) (locs : List Loc), va_S A s.heap H locs → LwI E A qt qm H → W p l e room_1 s m #[Value.ref b] below meth c H locs 600000 7302250 Q (F0 m 1456 ls [])) : W p l e room_1 s m #[Value.ref b] below meth c H locs 600000 7302250 Q (F0 m 315 ls []) := by
  have hx := C.1.1
  have hb := C.1.2.1
  have hw := C.2.2.2.2.2.2.2
  obtain ⟨X, vm, hR, I⟩ := I
  have hM := lwj_md I
  refine lv_aload_n hx hb dL_law_315 rfl (lv_at hl 1 rfl) ?_
  refine lw_arg (v := 1) C hS hl hi (by decide) (by decide) dL_law_316 dL_law_317 dL_law_318 dL_law_319 dL_law_320 ?_
  refine lw_arg (v := 2) C hS hl hi (by decide) (by decide) dL_law_321 dL_law_322 dL_law_323 dL_law_324 dL_law_325 ?_
  refine lw_arg (v := 3) C hS hl hi (by decide) (by decide) dL_law_326 dL_law_327 dL_law_328 dL_law_329 dL_law_330 ?_
  refine lw_tR (rest := []) C hS I (t_X9_height l E A qt (xs (i + 1).toNatClampNeg) (xs (i + 2).toNatClampNeg) (xs (i + 3).toNatClampNeg)) (cwV 3 (hw_X9_height hw) gd_X9_height rfl rfl rfl (by decide +kernel) ⟨(Nat.le_of_ble_eq_true rfl), (Nat.le_of_ble_eq_true rfl)⟩) rfl hl.1 rfl (Nat.le_of_ble_eq_true rfl) dL_law_331 ⟨(Nat.le_of_ble_eq_true rfl), (Nat.le_of_ble_eq_true rfl)⟩ (fun r331 h331 => ?_)
  refine lv_pop hx hb dL_law_334 rfl ?_
  refine lv_aload_n hx hb dL_law_335 rfl (lv_at hl 2 rfl) ?_
  refine lw_arg (v := 1) C hS hl hi (by decide) (by decide) dL_law_336 dL_law_337 dL_law_338 dL_law_339 dL_law_340 ?_
  refine lw_arg (v := 2) C hS hl hi (by decide) (by decide) dL_law_341 dL_law_342 dL_law_343 dL_law_344 dL_law_345 ?_
  refine lw_arg (v := 3) C hS hl hi (by decide) (by decide) dL_law_346 dL_law_347 dL_law_348 dL_law_349 dL_law_350 ?_
  refine lw_mR (rest := []) C hS I (t_X10_height l E A qm (xs (i + 1).toNatClampNeg) (xs (i + 2).toNatClampNeg) (xs (i + 3).toNatClampNeg)) (cwV 3 (hw_X10_height hw) gd_X10_height rfl rfl rfl (by decide +kernel) ⟨(Nat.le_of_ble_eq_true rfl), (Nat.le_of_ble_eq_true rfl)⟩) rfl hl.1 rfl (Nat.le_of_ble_eq_true rfl) dL_law_351 ⟨(Nat.le_of_ble_eq_true rfl), (Nat.le_of_ble_eq_true rfl)⟩ (fun r351 h351 => ?_)
  refine lv_pop hx hb dL_law_354 rfl ?_
  exact lv_goto (tgt := 1456) hx hb dL_law_355 (by decide) (K H locs hS ⟨X, vm, (rl_k hM ⟨kp.rf, rfl⟩ ⟨kp.rf, fun _ _ => rfl⟩ hR), I⟩)
theorem lc_6 (C : LwC p s m c b L xs E A) (hS : va_S A s.heap H locs) (I : LwI E A qt qm H) {i : Int32} (hl : lv_has ls 4 (lwl b qt qm i)) (hi : 0 ≤ i.toInt ∧ i.toInt + 7 ≤ L)
    (K : ∀ (H : Heap) (locs : List Loc), va_S A s.heap H locs → LwI E A qt qm H → W p l e room_1 s m #[Value.ref b] below meth c H locs 600000 7302250 Q (F0 m 1456 ls [])) : W p l e room_1 s m #[Value.ref b] below meth c H locs 600000 7302250 Q (F0 m 358 ls []) := by
  have hx := C.1.1
  have hb := C.1.2.1
  have hw := C.2.2.2.2.2.2.2
  obtain ⟨X, vm, hR, I⟩ := I
  have hM := lwj_md I
  refine lv_aload_n hx hb dL_law_358 rfl (lv_at hl 1 rfl) ?_
  refine lw_arg (v := 1) C hS hl hi (by decide) (by decide) dL_law_359 dL_law_360 dL_law_361 dL_law_362 dL_law_363 ?_
  refine lw_arg (v := 2) C hS hl hi (by decide) (by decide) dL_law_364 dL_law_365 dL_law_366 dL_law_367 dL_law_368 ?_
  refine lw_tR (rest := []) C hS I (t_X9_moon l E A qt (xs (i + 1).toNatClampNeg) (xs (i + 2).toNatClampNeg)) (cwV 2 (hw_X9_moon hw) gd_X9_moon rfl rfl rfl (by decide +kernel) ⟨(Nat.le_of_ble_eq_true rfl), (Nat.le_of_ble_eq_true rfl)⟩) rfl hl.1 rfl (Nat.le_of_ble_eq_true rfl) dL_law_369 ⟨(Nat.le_of_ble_eq_true rfl), (Nat.le_of_ble_eq_true rfl)⟩ (fun r369 h369 => ?_)
  refine lv_pop hx hb dL_law_372 rfl ?_
  refine lv_aload_n hx hb dL_law_373 rfl (lv_at hl 2 rfl) ?_
  refine lw_arg (v := 1) C hS hl hi (by decide) (by decide) dL_law_374 dL_law_375 dL_law_376 dL_law_377 dL_law_378 ?_
  refine lw_arg (v := 2) C hS hl hi (by decide) (by decide) dL_law_379 dL_law_380 dL_law_381 dL_law_382 dL_law_383 ?_
  refine lw_mR (rest := []) C hS I (t_X10_moon l E A qm (xs (i + 1).toNatClampNeg) (xs (i + 2).toNatClampNeg)) (cwV 2 (hw_X10_moon hw) gd_X10_moon rfl rfl rfl (by decide +kernel) ⟨(Nat.le_of_ble_eq_true rfl), (Nat.le_of_ble_eq_true rfl)⟩) rfl hl.1 rfl (Nat.le_of_ble_eq_true rfl) dL_law_384 ⟨(Nat.le_of_ble_eq_true rfl), (Nat.le_of_ble_eq_true rfl)⟩ (fun r384 h384 => ?_)
  refine lv_pop hx hb dL_law_387 rfl ?_
  exact lv_goto (tgt := 1456) hx hb dL_law_388 (by decide) (K H locs hS ⟨X, vm, (rl_k hM ⟨kp.rf, rfl⟩ ⟨kp.rf, fun _ _ => rfl⟩ hR), I⟩)
theorem lc_7 (C : LwC p s m c b L xs E A) (hS : va_S A s.heap H locs) (I : LwI E A qt qm H) {i : Int32} (hl : lv_has ls 4 (lwl b qt qm i)) (hi : 0 ≤ i.toInt ∧ i.toInt + 7 ≤ L)
    (K : ∀ (H : Heap) (locs : List Loc), va_S A s.heap H locs → LwI E A qt qm H → W p l e room_1 s m #[Value.ref b] below meth c H locs 600000 7302250 Q (F0 m 1456 ls [])) : W p l e room_1 s m #[Value.ref b] below meth c H locs 600000 7302250 Q (F0 m 391 ls []) := by
  have hx := C.1.1
  have hb := C.1.2.1
  have hw := C.2.2.2.2.2.2.2
  obtain ⟨X, vm, hR, I⟩ := I
  have hM := lwj_md I
  refine lv_aload_n hx hb dL_law_391 rfl (lv_at hl 1 rfl) ?_
  refine lw_arg (v := 1) C hS hl hi (by decide) (by decide) dL_law_392 dL_law_393 dL_law_394 dL_law_395 dL_law_396 ?_
  refine lw_arg (v := 2) C hS hl hi (by decide) (by decide) dL_law_397 dL_law_398 dL_law_399 dL_law_400 dL_law_401 ?_
  refine lw_tR (rest := []) C hS I (t_X9_house l E A qt (xs (i + 1).toNatClampNeg) (xs (i + 2).toNatClampNeg)) (cwV 2 (hw_X9_house hw) gd_X9_house rfl rfl rfl (by decide +kernel) ⟨(Nat.le_of_ble_eq_true rfl), (Nat.le_of_ble_eq_true rfl)⟩) rfl hl.1 rfl (Nat.le_of_ble_eq_true rfl) dL_law_402 ⟨(Nat.le_of_ble_eq_true rfl), (Nat.le_of_ble_eq_true rfl)⟩ (fun r402 h402 => ?_)
  refine lv_pop hx hb dL_law_405 rfl ?_
  refine lv_aload_n hx hb dL_law_406 rfl (lv_at hl 2 rfl) ?_
  refine lw_arg (v := 1) C hS hl hi (by decide) (by decide) dL_law_407 dL_law_408 dL_law_409 dL_law_410 dL_law_411 ?_
  refine lw_arg (v := 2) C hS hl hi (by decide) (by decide) dL_law_412 dL_law_413 dL_law_414 dL_law_415 dL_law_416 ?_
  refine lw_mR (rest := []) C hS I (t_X10_house l E A qm (xs (i + 1).toNatClampNeg) (xs (i + 2).toNatClampNeg)) (cwV 2 (hw_X10_house hw) gd_X10_house rfl rfl rfl (by decide +kernel) ⟨(Nat.le_of_ble_eq_true rfl), (Nat.le_of_ble_eq_true rfl)⟩) rfl hl.1 rfl (Nat.le_of_ble_eq_true rfl) dL_law_417 ⟨(Nat.le_of_ble_eq_true rfl), (Nat.le_of_ble_eq_true rfl)⟩ (fun r417 h417 => ?_)
  refine lv_pop hx hb dL_law_420 rfl ?_
  exact lv_goto (tgt := 1456) hx hb dL_law_421 (by decide) (K H locs hS ⟨X, vm, (rl_k hM ⟨kp.rf, rfl⟩ ⟨kp.rf, fun _ _ => rfl⟩ hR), I⟩)
theorem lc_8 (C : LwC p s m c b L xs E A) (hS : va_S A s.heap H locs) (I : LwI E A qt qm H) {i : Int32} (hl : lv_has ls 4 (lwl b qt qm i)) (hi : 0 ≤ i.toInt ∧ i.toInt + 7 ≤ L)
    (K : ∀ (H : Heap) (locs : List Loc), va_S A s.heap H locs → LwI E A qt qm H → W p l e room_1 s m #[Value.ref b] below meth c H locs 600000 7302250 Q (F0 m 1456 ls [])) : W p l e room_1 s m #[Value.ref b] below meth c H locs 600000 7302250 Q (F0 m 424 ls []) := by
  have hx := C.1.1
  have hb := C.1.2.1
  have hw := C.2.2.2.2.2.2.2
  obtain ⟨X, vm, hR, I⟩ := I
  have hM := lwj_md I
  refine lv_aload_n hx hb dL_law_424 rfl (lv_at hl 1 rfl) ?_
  refine lw_arg (v := 1) C hS hl hi (by decide) (by decide) dL_law_425 dL_law_426 dL_law_427 dL_law_428 dL_law_429 ?_
  refine lw_arg (v := 2) C hS hl hi (by decide) (by decide) dL_law_430 dL_law_431 dL_law_432 dL_law_433 dL_law_434 ?_
  refine lw_tR (rest := []) C hS I (t_X9_crack l E A qt (xs (i + 1).toNatClampNeg) (xs (i + 2).toNatClampNeg)) (cwV 2 (hw_X9_crack hw) gd_X9_crack rfl rfl rfl (by decide +kernel) ⟨(Nat.le_of_ble_eq_true rfl), (Nat.le_of_ble_eq_true rfl)⟩) rfl hl.1 rfl (Nat.le_of_ble_eq_true rfl) dL_law_435 ⟨(Nat.le_of_ble_eq_true rfl), (Nat.le_of_ble_eq_true rfl)⟩ (fun r435 h435 => ?_)
  refine lv_pop hx hb dL_law_438 rfl ?_
  refine lv_aload_n hx hb dL_law_439 rfl (lv_at hl 2 rfl) ?_
  refine lw_arg (v := 1) C hS hl hi (by decide) (by decide) dL_law_440 dL_law_441 dL_law_442 dL_law_443 dL_law_444 ?_
  refine lw_arg (v := 2) C hS hl hi (by decide) (by decide) dL_law_445 dL_law_446 dL_law_447 dL_law_448 dL_law_449 ?_
  refine lw_mR (rest := []) C hS I (t_X10_crack l E A qm (xs (i + 1).toNatClampNeg) (xs (i + 2).toNatClampNeg)) (cwV 2 (hw_X10_crack hw) gd_X10_crack rfl rfl rfl (by decide +kernel) ⟨(Nat.le_of_ble_eq_true rfl), (Nat.le_of_ble_eq_true rfl)⟩) rfl hl.1 rfl (Nat.le_of_ble_eq_true rfl) dL_law_450 ⟨(Nat.le_of_ble_eq_true rfl), (Nat.le_of_ble_eq_true rfl)⟩ (fun r450 h450 => ?_)
  refine lv_pop hx hb dL_law_453 rfl ?_
  exact lv_goto (tgt := 1456) hx hb dL_law_454 (by decide) (K H locs hS ⟨X, vm, (rl_k hM ⟨kp.rf, rfl⟩ ⟨kp.rf, fun _ _ => rfl⟩ hR), I⟩)
theorem lc_9 (C : LwC p s m c b L xs E A) (hS : va_S A s.heap H locs) (I : LwI E A qt qm H) {i : Int32} (hl : lv_has ls 4 (lwl b qt qm i)) (hi : 0 ≤ i.toInt ∧ i.toInt + 7 ≤ L)
    (K : ∀ (H : Heap) (locs : List Loc), va_S A s.heap H locs → LwI E A qt qm H → W p l e room_1 s m #[Value.ref b] below meth c H locs 600000 7302250 Q (F0 m 1456 ls [])) : W p l e room_1 s m #[Value.ref b] below meth c H locs 600000 7302250 Q (F0 m 457 ls []) := by
  have hx := C.1.1
  have hb := C.1.2.1
  have hw := C.2.2.2.2.2.2.2
  obtain ⟨X, vm, hR, I⟩ := I
  have hM := lwj_md I
  refine lv_aload_n hx hb dL_law_457 rfl (lv_at hl 1 rfl) ?_
  refine lw_arg (v := 1) C hS hl hi (by decide) (by decide) dL_law_458 dL_law_459 dL_law_460 dL_law_461 dL_law_462 ?_
  refine lw_tM (rest := []) C hS I (t_X9_pass l E qt (xs (i + 1).toNatClampNeg)) (cwV 1 (hw_X9_pass hw) gd_X9_pass rfl rfl rfl (by decide +kernel) ⟨(Nat.le_of_ble_eq_true rfl), (Nat.le_of_ble_eq_true rfl)⟩) rfl hl.1 rfl (Nat.le_of_ble_eq_true rfl) dL_law_463 ⟨(Nat.le_of_ble_eq_true rfl), (Nat.le_of_ble_eq_true rfl)⟩ (fun r463 X463 H locs h463 hS I => ?_)
  refine lv_pop hx hb dL_law_466 rfl ?_
  refine lv_aload_n hx hb dL_law_467 rfl (lv_at hl 2 rfl) ?_
  refine lw_arg (v := 1) C hS hl hi (by decide) (by decide) dL_law_468 dL_law_469 dL_law_470 dL_law_471 dL_law_472 ?_
  refine lw_mM (rest := []) C hS I (t_X10_pass l E qm (xs (i + 1).toNatClampNeg)) (cwV 1 (hw_X10_pass hw) gd_X10_pass rfl rfl rfl (by decide +kernel) ⟨(Nat.le_of_ble_eq_true rfl), (Nat.le_of_ble_eq_true rfl)⟩) rfl hl.1 rfl (Nat.le_of_ble_eq_true rfl) dL_law_473 ⟨(Nat.le_of_ble_eq_true rfl), (Nat.le_of_ble_eq_true rfl)⟩ (fun r473 vm473 H locs h473 hS I => ?_)
  refine lv_pop hx hb dL_law_476 rfl ?_
  exact lv_goto (tgt := 1456) hx hb dL_law_477 (by decide) (K H locs hS ⟨X463, vm473, (rl_pass h463 h473 hM (lwj_md I) hR).2, I⟩)
theorem lc_10 (C : LwC p s m c b L xs E A) (hS : va_S A s.heap H locs) (I : LwI E A qt qm H) {i : Int32} (hl : lv_has ls 4 (lwl b qt qm i)) (hi : 0 ≤ i.toInt ∧ i.toInt + 7 ≤ L)
    (K : ∀ (H : Heap) (locs : List Loc), va_S A s.heap H locs → LwI E A qt qm H → W p l e room_1 s m #[Value.ref b] below meth c H locs 600000 7302250 Q (F0 m 1456 ls [])) : W p l e room_1 s m #[Value.ref b] below meth c H locs 600000 7302250 Q (F0 m 480 ls []) := by
  have hx := C.1.1
  have hb := C.1.2.1
  have hw := C.2.2.2.2.2.2.2
  obtain ⟨X, vm, hR, I⟩ := I
  have hM := lwj_md I
  refine lv_aload_n hx hb dL_law_480 rfl (lv_at hl 1 rfl) ?_
  refine lw_arg (v := 1) C hS hl hi (by decide) (by decide) dL_law_481 dL_law_482 dL_law_483 dL_law_484 dL_law_485 ?_
  refine lw_tM (rest := []) C hS I (t_X9_roll l E qt (xs (i + 1).toNatClampNeg)) (cwV 1 (hw_X9_roll hw) gd_X9_roll rfl rfl rfl (by decide +kernel) ⟨(Nat.le_of_ble_eq_true rfl), (Nat.le_of_ble_eq_true rfl)⟩) rfl hl.1 rfl (Nat.le_of_ble_eq_true rfl) dL_law_486 ⟨(Nat.le_of_ble_eq_true rfl), (Nat.le_of_ble_eq_true rfl)⟩ (fun r486 X486 H locs h486 hS I => ?_)
  refine lv_aload_n hx hb dL_law_489 rfl (lv_at hl 2 rfl) ?_
  refine lw_arg (v := 1) C hS hl hi (by decide) (by decide) dL_law_490 dL_law_491 dL_law_492 dL_law_493 dL_law_494 ?_
  refine lw_mM (rest := [.int r486]) C hS I (t_X10_roll l E qm (xs (i + 1).toNatClampNeg)) (cwV 1 (hw_X10_roll hw) gd_X10_roll rfl rfl rfl (by decide +kernel) ⟨(Nat.le_of_ble_eq_true rfl), (Nat.le_of_ble_eq_true rfl)⟩) rfl hl.1 rfl (Nat.le_of_ble_eq_true rfl) dL_law_495 ⟨(Nat.le_of_ble_eq_true rfl), (Nat.le_of_ble_eq_true rfl)⟩ (fun r495 vm495 H locs h495 hS I => ?_)
  have hcmp : r486.toInt = r495.toInt ∧ Rl X486 vm495 := rl_roll h486 h495 hM (lwj_md I) hR
  refine lv_icmp_eq (tgt := 1456) hx hb dL_law_498 (by decide) (fun _ => K H locs hS ⟨X486, vm495, hcmp.2, I⟩) (fun q => absurd q (fun h => h (i_of hcmp.1)))
theorem lc_11 (C : LwC p s m c b L xs E A) (hS : va_S A s.heap H locs) (I : LwI E A qt qm H) {i : Int32} (hl : lv_has ls 4 (lwl b qt qm i)) (hi : 0 ≤ i.toInt ∧ i.toInt + 7 ≤ L)
    (K : ∀ (H : Heap) (locs : List Loc), va_S A s.heap H locs → LwI E A qt qm H → W p l e room_1 s m #[Value.ref b] below meth c H locs 600000 7302250 Q (F0 m 1456 ls [])) : W p l e room_1 s m #[Value.ref b] below meth c H locs 600000 7302250 Q (F0 m 503 ls []) := by
  have hx := C.1.1
  have hb := C.1.2.1
  have hw := C.2.2.2.2.2.2.2
  obtain ⟨X, vm, hR, I⟩ := I
  have hM := lwj_md I
  refine lv_aload_n hx hb dL_law_503 rfl (lv_at hl 1 rfl) ?_
  refine lw_arg (v := 1) C hS hl hi (by decide) (by decide) dL_law_504 dL_law_505 dL_law_506 dL_law_507 dL_law_508 ?_
  refine lw_tM (rest := []) C hS I (t_X9_steep l E qt (xs (i + 1).toNatClampNeg)) (cwV 1 (hw_X9_steep hw) gd_X9_steep rfl rfl rfl (by decide +kernel) ⟨(Nat.le_of_ble_eq_true rfl), (Nat.le_of_ble_eq_true rfl)⟩) rfl hl.1 rfl (Nat.le_of_ble_eq_true rfl) dL_law_509 ⟨(Nat.le_of_ble_eq_true rfl), (Nat.le_of_ble_eq_true rfl)⟩ (fun r509 X509 H locs h509 hS I => ?_)
  refine lv_pop hx hb dL_law_512 rfl ?_
  refine lv_aload_n hx hb dL_law_513 rfl (lv_at hl 2 rfl) ?_
  refine lw_arg (v := 1) C hS hl hi (by decide) (by decide) dL_law_514 dL_law_515 dL_law_516 dL_law_517 dL_law_518 ?_
  refine lw_mM (rest := []) C hS I (t_X10_steep l E qm (xs (i + 1).toNatClampNeg)) (cwV 1 (hw_X10_steep hw) gd_X10_steep rfl rfl rfl (by decide +kernel) ⟨(Nat.le_of_ble_eq_true rfl), (Nat.le_of_ble_eq_true rfl)⟩) rfl hl.1 rfl (Nat.le_of_ble_eq_true rfl) dL_law_519 ⟨(Nat.le_of_ble_eq_true rfl), (Nat.le_of_ble_eq_true rfl)⟩ (fun r519 vm519 H locs h519 hS I => ?_)
  refine lv_pop hx hb dL_law_522 rfl ?_
  exact lv_goto (tgt := 1456) hx hb dL_law_523 (by decide) (K H locs hS ⟨X509, vm519, (rl_steep h509 h519 hM (lwj_md I) hR).2, I⟩)
theorem lc_12 (C : LwC p s m c b L xs E A) (hS : va_S A s.heap H locs) (I : LwI E A qt qm H) {i : Int32} (hl : lv_has ls 4 (lwl b qt qm i)) (hi : 0 ≤ i.toInt ∧ i.toInt + 7 ≤ L)
    (K : ∀ (H : Heap) (locs : List Loc), va_S A s.heap H locs → LwI E A qt qm H → W p l e room_1 s m #[Value.ref b] below meth c H locs 600000 7302250 Q (F0 m 1456 ls [])) : W p l e room_1 s m #[Value.ref b] below meth c H locs 600000 7302250 Q (F0 m 526 ls []) := by
  have hx := C.1.1
  have hb := C.1.2.1
  have hw := C.2.2.2.2.2.2.2
  obtain ⟨X, vm, hR, I⟩ := I
  have hM := lwj_md I
  refine lv_aload_n hx hb dL_law_526 rfl (lv_at hl 1 rfl) ?_
  refine lw_arg (v := 1) C hS hl hi (by decide) (by decide) dL_law_527 dL_law_528 dL_law_529 dL_law_530 dL_law_531 ?_
  refine lw_arg (v := 2) C hS hl hi (by decide) (by decide) dL_law_532 dL_law_533 dL_law_534 dL_law_535 dL_law_536 ?_
  refine lw_arg (v := 3) C hS hl hi (by decide) (by decide) dL_law_537 dL_law_538 dL_law_539 dL_law_540 dL_law_541 ?_
  refine lw_tM (rest := []) C hS I (t_X9_load l E qt (xs (i + 1).toNatClampNeg) (xs (i + 2).toNatClampNeg) (xs (i + 3).toNatClampNeg)) (cwV 3 (hw_X9_load hw) gd_X9_load rfl rfl rfl (by decide +kernel) ⟨(Nat.le_of_ble_eq_true rfl), (Nat.le_of_ble_eq_true rfl)⟩) rfl hl.1 rfl (Nat.le_of_ble_eq_true rfl) dL_law_542 ⟨(Nat.le_of_ble_eq_true rfl), (Nat.le_of_ble_eq_true rfl)⟩ (fun r542 X542 H locs h542 hS I => ?_)
  refine lv_pop hx hb dL_law_545 rfl ?_
  refine lv_aload_n hx hb dL_law_546 rfl (lv_at hl 2 rfl) ?_
  refine lw_arg (v := 1) C hS hl hi (by decide) (by decide) dL_law_547 dL_law_548 dL_law_549 dL_law_550 dL_law_551 ?_
  refine lw_arg (v := 2) C hS hl hi (by decide) (by decide) dL_law_552 dL_law_553 dL_law_554 dL_law_555 dL_law_556 ?_
  refine lw_arg (v := 3) C hS hl hi (by decide) (by decide) dL_law_557 dL_law_558 dL_law_559 dL_law_560 dL_law_561 ?_
  refine lw_mM (rest := []) C hS I (t_X10_load l E qm (xs (i + 1).toNatClampNeg) (xs (i + 2).toNatClampNeg) (xs (i + 3).toNatClampNeg)) (cwV 3 (hw_X10_load hw) gd_X10_load rfl rfl rfl (by decide +kernel) ⟨(Nat.le_of_ble_eq_true rfl), (Nat.le_of_ble_eq_true rfl)⟩) rfl hl.1 rfl (Nat.le_of_ble_eq_true rfl) dL_law_562 ⟨(Nat.le_of_ble_eq_true rfl), (Nat.le_of_ble_eq_true rfl)⟩ (fun r562 vm562 H locs h562 hS I => ?_)
  refine lv_pop hx hb dL_law_565 rfl ?_
  exact lv_goto (tgt := 1456) hx hb dL_law_566 (by decide) (K H locs hS ⟨X542, vm562, (rl_load h542 h562 hM (lwj_md I) hR).2, I⟩)
theorem lc_13 (C : LwC p s m c b L xs E A) (hS : va_S A s.heap H locs) (I : LwI E A qt qm H) {i : Int32} (hl : lv_has ls 4 (lwl b qt qm i)) (hi : 0 ≤ i.toInt ∧ i.toInt + 7 ≤ L)
    (K : ∀ (H : Heap) (locs : List Loc), va_S A s.heap H locs → LwI E A qt qm H → W p l e room_1 s m #[Value.ref b] below meth c H locs 600000 7302250 Q (F0 m 1456 ls [])) : W p l e room_1 s m #[Value.ref b] below meth c H locs 600000 7302250 Q (F0 m 569 ls []) := by
  have hx := C.1.1
  have hb := C.1.2.1
  have hw := C.2.2.2.2.2.2.2
  obtain ⟨X, vm, hR, I⟩ := I
  have hM := lwj_md I
  refine lv_aload_n hx hb dL_law_569 rfl (lv_at hl 1 rfl) ?_
  refine lw_arg (v := 1) C hS hl hi (by decide) (by decide) dL_law_570 dL_law_571 dL_law_572 dL_law_573 dL_law_574 ?_
  refine lw_arg (v := 2) C hS hl hi (by decide) (by decide) dL_law_575 dL_law_576 dL_law_577 dL_law_578 dL_law_579 ?_
  refine lw_tM (rest := []) C hS I (t_X9_prop l E qt (xs (i + 1).toNatClampNeg) (xs (i + 2).toNatClampNeg)) (cwV 2 (hw_X9_prop hw) gd_X9_prop rfl rfl rfl (by decide +kernel) ⟨(Nat.le_of_ble_eq_true rfl), (Nat.le_of_ble_eq_true rfl)⟩) rfl hl.1 rfl (Nat.le_of_ble_eq_true rfl) dL_law_580 ⟨(Nat.le_of_ble_eq_true rfl), (Nat.le_of_ble_eq_true rfl)⟩ (fun r580 X580 H locs h580 hS I => ?_)
  refine lv_pop hx hb dL_law_583 rfl ?_
  refine lv_aload_n hx hb dL_law_584 rfl (lv_at hl 2 rfl) ?_
  refine lw_arg (v := 1) C hS hl hi (by decide) (by decide) dL_law_585 dL_law_586 dL_law_587 dL_law_588 dL_law_589 ?_
  refine lw_arg (v := 2) C hS hl hi (by decide) (by decide) dL_law_590 dL_law_591 dL_law_592 dL_law_593 dL_law_594 ?_
  refine lw_mM (rest := []) C hS I (t_X10_prop l E qm (xs (i + 1).toNatClampNeg) (xs (i + 2).toNatClampNeg)) (cwV 2 (hw_X10_prop hw) gd_X10_prop rfl rfl rfl (by decide +kernel) ⟨(Nat.le_of_ble_eq_true rfl), (Nat.le_of_ble_eq_true rfl)⟩) rfl hl.1 rfl (Nat.le_of_ble_eq_true rfl) dL_law_595 ⟨(Nat.le_of_ble_eq_true rfl), (Nat.le_of_ble_eq_true rfl)⟩ (fun r595 vm595 H locs h595 hS I => ?_)
  refine lv_pop hx hb dL_law_598 rfl ?_
  exact lv_goto (tgt := 1456) hx hb dL_law_599 (by decide) (K H locs hS ⟨X580, vm595, (rl_prop h580 h595 hM (lwj_md I) hR).2, I⟩)
theorem lc_14 (C : LwC p s m c b L xs E A) (hS : va_S A s.heap H locs) (I : LwI E A qt qm H) {i : Int32} (hl : lv_has ls 4 (lwl b qt qm i)) (hi : 0 ≤ i.toInt ∧ i.toInt + 7 ≤ L)
    (K : ∀ (H : Heap) (locs : List Loc), va_S A s.heap H locs → LwI E A qt qm H → W p l e room_1 s m #[Value.ref b] below meth c H locs 600000 7302250 Q (F0 m 1456 ls [])) : W p l e room_1 s m #[Value.ref b] below meth c H locs 600000 7302250 Q (F0 m 602 ls []) := by
  have hx := C.1.1
  have hb := C.1.2.1
  have hw := C.2.2.2.2.2.2.2
  obtain ⟨X, vm, hR, I⟩ := I
  have hM := lwj_md I
  refine lv_aload_n hx hb dL_law_602 rfl (lv_at hl 1 rfl) ?_
  refine lw_arg (v := 1) C hS hl hi (by decide) (by decide) dL_law_603 dL_law_604 dL_law_605 dL_law_606 dL_law_607 ?_
  refine lw_arg (v := 2) C hS hl hi (by decide) (by decide) dL_law_608 dL_law_609 dL_law_610 dL_law_611 dL_law_612 ?_
  refine lw_tM (rest := []) C hS I (t_X9_shift l E qt (xs (i + 1).toNatClampNeg) (xs (i + 2).toNatClampNeg)) (cwV 2 (hw_X9_shift hw) gd_X9_shift rfl rfl rfl (by decide +kernel) ⟨(Nat.le_of_ble_eq_true rfl), (Nat.le_of_ble_eq_true rfl)⟩) rfl hl.1 rfl (Nat.le_of_ble_eq_true rfl) dL_law_613 ⟨(Nat.le_of_ble_eq_true rfl), (Nat.le_of_ble_eq_true rfl)⟩ (fun r613 X613 H locs h613 hS I => ?_)
  refine lv_pop hx hb dL_law_616 rfl ?_
  refine lv_aload_n hx hb dL_law_617 rfl (lv_at hl 2 rfl) ?_
  refine lw_arg (v := 1) C hS hl hi (by decide) (by decide) dL_law_618 dL_law_619 dL_law_620 dL_law_621 dL_law_622 ?_
  refine lw_arg (v := 2) C hS hl hi (by decide) (by decide) dL_law_623 dL_law_624 dL_law_625 dL_law_626 dL_law_627 ?_
  refine lw_mM (rest := []) C hS I (t_X10_shift l E qm (xs (i + 1).toNatClampNeg) (xs (i + 2).toNatClampNeg)) (cwV 2 (hw_X10_shift hw) gd_X10_shift rfl rfl rfl (by decide +kernel) ⟨(Nat.le_of_ble_eq_true rfl), (Nat.le_of_ble_eq_true rfl)⟩) rfl hl.1 rfl (Nat.le_of_ble_eq_true rfl) dL_law_628 ⟨(Nat.le_of_ble_eq_true rfl), (Nat.le_of_ble_eq_true rfl)⟩ (fun r628 vm628 H locs h628 hS I => ?_)
  refine lv_pop hx hb dL_law_631 rfl ?_
  exact lv_goto (tgt := 1456) hx hb dL_law_632 (by decide) (K H locs hS ⟨X613, vm628, (rl_shift h613 h628 hM (lwj_md I) hR).2, I⟩)
theorem lc_15 (C : LwC p s m c b L xs E A) (hS : va_S A s.heap H locs) (I : LwI E A qt qm H) {i : Int32} (hl : lv_has ls 4 (lwl b qt qm i)) (hi : 0 ≤ i.toInt ∧ i.toInt + 7 ≤ L)
    (K : ∀ (H : Heap) (locs : List Loc), va_S A s.heap H locs → LwI E A qt qm H → W p l e room_1 s m #[Value.ref b] below meth c H locs 600000 7302250 Q (F0 m 1456 ls [])) : W p l e room_1 s m #[Value.ref b] below meth c H locs 600000 7302250 Q (F0 m 635 ls []) := by
  have hx := C.1.1
  have hb := C.1.2.1
  have hw := C.2.2.2.2.2.2.2
  obtain ⟨X, vm, hR, I⟩ := I
  have hM := lwj_md I
  refine lv_aload_n hx hb dL_law_635 rfl (lv_at hl 1 rfl) ?_
  refine lw_arg (v := 1) C hS hl hi (by decide) (by decide) dL_law_636 dL_law_637 dL_law_638 dL_law_639 dL_law_640 ?_
  refine lw_tM (rest := []) C hS I (t_X9_drift l E qt (xs (i + 1).toNatClampNeg)) (cwV 1 (hw_X9_drift hw) gd_X9_drift rfl rfl rfl (by decide +kernel) ⟨(Nat.le_of_ble_eq_true rfl), (Nat.le_of_ble_eq_true rfl)⟩) rfl hl.1 rfl (Nat.le_of_ble_eq_true rfl) dL_law_641 ⟨(Nat.le_of_ble_eq_true rfl), (Nat.le_of_ble_eq_true rfl)⟩ (fun r641 X641 H locs h641 hS I => ?_)
  refine lv_pop hx hb dL_law_644 rfl ?_
  refine lv_aload_n hx hb dL_law_645 rfl (lv_at hl 2 rfl) ?_
  refine lw_arg (v := 1) C hS hl hi (by decide) (by decide) dL_law_646 dL_law_647 dL_law_648 dL_law_649 dL_law_650 ?_
  refine lw_mM (rest := []) C hS I (t_X10_drift l E qm (xs (i + 1).toNatClampNeg)) (cwV 1 (hw_X10_drift hw) gd_X10_drift rfl rfl rfl (by decide +kernel) ⟨(Nat.le_of_ble_eq_true rfl), (Nat.le_of_ble_eq_true rfl)⟩) rfl hl.1 rfl (Nat.le_of_ble_eq_true rfl) dL_law_651 ⟨(Nat.le_of_ble_eq_true rfl), (Nat.le_of_ble_eq_true rfl)⟩ (fun r651 vm651 H locs h651 hS I => ?_)
  refine lv_pop hx hb dL_law_654 rfl ?_
  exact lv_goto (tgt := 1456) hx hb dL_law_655 (by decide) (K H locs hS ⟨X641, vm651, (rl_drift h641 h651 hM (lwj_md I) hR).2, I⟩)
theorem lc_16 (C : LwC p s m c b L xs E A) (hS : va_S A s.heap H locs) (I : LwI E A qt qm H) {i : Int32} (hl : lv_has ls 4 (lwl b qt qm i)) (hi : 0 ≤ i.toInt ∧ i.toInt + 7 ≤ L)
    (K : ∀ (H : Heap) (locs : List Loc), va_S A s.heap H locs → LwI E A qt qm H → W p l e room_1 s m #[Value.ref b] below meth c H locs 600000 7302250 Q (F0 m 1456 ls [])) : W p l e room_1 s m #[Value.ref b] below meth c H locs 600000 7302250 Q (F0 m 658 ls []) := by
  have hx := C.1.1
  have hb := C.1.2.1
  have hw := C.2.2.2.2.2.2.2
  obtain ⟨X, vm, hR, I⟩ := I
  have hM := lwj_md I
  refine lv_aload_n hx hb dL_law_658 rfl (lv_at hl 1 rfl) ?_
  refine lw_arg (v := 1) C hS hl hi (by decide) (by decide) dL_law_659 dL_law_660 dL_law_661 dL_law_662 dL_law_663 ?_
  refine lw_arg (v := 2) C hS hl hi (by decide) (by decide) dL_law_664 dL_law_665 dL_law_666 dL_law_667 dL_law_668 ?_
  refine lw_arg (v := 3) C hS hl hi (by decide) (by decide) dL_law_669 dL_law_670 dL_law_671 dL_law_672 dL_law_673 ?_
  refine lw_tR (rest := []) C hS I (t_X9_level l E A qt (xs (i + 1).toNatClampNeg) (xs (i + 2).toNatClampNeg) (xs (i + 3).toNatClampNeg)) (cwV 3 (hw_X9_level hw) gd_X9_level rfl rfl rfl (by decide +kernel) ⟨(Nat.le_of_ble_eq_true rfl), (Nat.le_of_ble_eq_true rfl)⟩) rfl hl.1 rfl (Nat.le_of_ble_eq_true rfl) dL_law_674 ⟨(Nat.le_of_ble_eq_true rfl), (Nat.le_of_ble_eq_true rfl)⟩ (fun r674 h674 => ?_)
  refine lv_pop hx hb dL_law_677 rfl ?_
  refine lv_aload_n hx hb dL_law_678 rfl (lv_at hl 2 rfl) ?_
  refine lw_arg (v := 1) C hS hl hi (by decide) (by decide) dL_law_679 dL_law_680 dL_law_681 dL_law_682 dL_law_683 ?_
  refine lw_arg (v := 2) C hS hl hi (by decide) (by decide) dL_law_684 dL_law_685 dL_law_686 dL_law_687 dL_law_688 ?_
  refine lw_arg (v := 3) C hS hl hi (by decide) (by decide) dL_law_689 dL_law_690 dL_law_691 dL_law_692 dL_law_693 ?_
  refine lw_mR (rest := []) C hS I (t_X10_level l E A qm (xs (i + 1).toNatClampNeg) (xs (i + 2).toNatClampNeg) (xs (i + 3).toNatClampNeg)) (cwV 3 (hw_X10_level hw) gd_X10_level rfl rfl rfl (by decide +kernel) ⟨(Nat.le_of_ble_eq_true rfl), (Nat.le_of_ble_eq_true rfl)⟩) rfl hl.1 rfl (Nat.le_of_ble_eq_true rfl) dL_law_694 ⟨(Nat.le_of_ble_eq_true rfl), (Nat.le_of_ble_eq_true rfl)⟩ (fun r694 h694 => ?_)
  refine lv_pop hx hb dL_law_697 rfl ?_
  exact lv_goto (tgt := 1456) hx hb dL_law_698 (by decide) (K H locs hS ⟨X, vm, (rl_k hM ⟨kp.rf, rfl⟩ ⟨kp.rf, fun _ _ => rfl⟩ hR), I⟩)
theorem lc_17 (C : LwC p s m c b L xs E A) (hS : va_S A s.heap H locs) (I : LwI E A qt qm H) {i : Int32} (hl : lv_has ls 4 (lwl b qt qm i)) (hi : 0 ≤ i.toInt ∧ i.toInt + 7 ≤ L)
    (K : ∀ (H : Heap) (locs : List Loc), va_S A s.heap H locs → LwI E A qt qm H → W p l e room_1 s m #[Value.ref b] below meth c H locs 600000 7302250 Q (F0 m 1456 ls [])) : W p l e room_1 s m #[Value.ref b] below meth c H locs 600000 7302250 Q (F0 m 701 ls []) := by
  have hx := C.1.1
  have hb := C.1.2.1
  have hw := C.2.2.2.2.2.2.2
  obtain ⟨X, vm, hR, I⟩ := I
  have hM := lwj_md I
  refine lv_aload_n hx hb dL_law_701 rfl (lv_at hl 1 rfl) ?_
  refine lw_arg (v := 1) C hS hl hi (by decide) (by decide) dL_law_702 dL_law_703 dL_law_704 dL_law_705 dL_law_706 ?_
  refine lw_tR (rest := []) C hS I (t_X9_aslant l E A qt (xs (i + 1).toNatClampNeg)) (cwV 1 (hw_X9_aslant hw) gd_X9_aslant rfl rfl rfl (by decide +kernel) ⟨(Nat.le_of_ble_eq_true rfl), (Nat.le_of_ble_eq_true rfl)⟩) rfl hl.1 rfl (Nat.le_of_ble_eq_true rfl) dL_law_707 ⟨(Nat.le_of_ble_eq_true rfl), (Nat.le_of_ble_eq_true rfl)⟩ (fun r707 h707 => ?_)
  refine lv_pop hx hb dL_law_710 rfl ?_
  refine lv_aload_n hx hb dL_law_711 rfl (lv_at hl 2 rfl) ?_
  refine lw_arg (v := 1) C hS hl hi (by decide) (by decide) dL_law_712 dL_law_713 dL_law_714 dL_law_715 dL_law_716 ?_
  refine lw_mR (rest := []) C hS I (t_X10_aslant l E A qm (xs (i + 1).toNatClampNeg)) (cwV 1 (hw_X10_aslant hw) gd_X10_aslant rfl rfl rfl (by decide +kernel) ⟨(Nat.le_of_ble_eq_true rfl), (Nat.le_of_ble_eq_true rfl)⟩) rfl hl.1 rfl (Nat.le_of_ble_eq_true rfl) dL_law_717 ⟨(Nat.le_of_ble_eq_true rfl), (Nat.le_of_ble_eq_true rfl)⟩ (fun r717 h717 => ?_)
  refine lv_pop hx hb dL_law_720 rfl ?_
  exact lv_goto (tgt := 1456) hx hb dL_law_721 (by decide) (K H locs hS ⟨X, vm, (rl_k hM ⟨kp.rf, rfl⟩ ⟨kp.rf, fun _ _ => rfl⟩ hR), I⟩)
theorem lc_18 (C : LwC p s m c b L xs E A) (hS : va_S A s.heap H locs) (I : LwI E A qt qm H) {i : Int32} (hl : lv_has ls 4 (lwl b qt qm i)) (hi : 0 ≤ i.toInt ∧ i.toInt + 7 ≤ L)
    (K : ∀ (H : Heap) (locs : List Loc), va_S A s.heap H locs → LwI E A qt qm H → W p l e room_1 s m #[Value.ref b] below meth c H locs 600000 7302250 Q (F0 m 1456 ls [])) : W p l e room_1 s m #[Value.ref b] below meth c H locs 600000 7302250 Q (F0 m 724 ls []) := by
  have hx := C.1.1
  have hb := C.1.2.1
  have hw := C.2.2.2.2.2.2.2
  obtain ⟨X, vm, hR, I⟩ := I
  have hM := lwj_md I
  refine lv_aload_n hx hb dL_law_724 rfl (lv_at hl 1 rfl) ?_
  refine lw_arg (v := 1) C hS hl hi (by decide) (by decide) dL_law_725 dL_law_726 dL_law_727 dL_law_728 dL_law_729 ?_
  refine lw_arg (v := 2) C hS hl hi (by decide) (by decide) dL_law_730 dL_law_731 dL_law_732 dL_law_733 dL_law_734 ?_
  refine lw_arg (v := 3) C hS hl hi (by decide) (by decide) dL_law_735 dL_law_736 dL_law_737 dL_law_738 dL_law_739 ?_
  refine lw_tR (rest := []) C hS I (t_X9_turn l E A qt (xs (i + 1).toNatClampNeg) (xs (i + 2).toNatClampNeg) (xs (i + 3).toNatClampNeg)) (cwV 3 (hw_X9_turn hw) gd_X9_turn rfl rfl rfl (by decide +kernel) ⟨(Nat.le_of_ble_eq_true rfl), (Nat.le_of_ble_eq_true rfl)⟩) rfl hl.1 rfl (Nat.le_of_ble_eq_true rfl) dL_law_740 ⟨(Nat.le_of_ble_eq_true rfl), (Nat.le_of_ble_eq_true rfl)⟩ (fun r740 h740 => ?_)
  refine lv_pop hx hb dL_law_743 rfl ?_
  refine lv_aload_n hx hb dL_law_744 rfl (lv_at hl 2 rfl) ?_
  refine lw_arg (v := 1) C hS hl hi (by decide) (by decide) dL_law_745 dL_law_746 dL_law_747 dL_law_748 dL_law_749 ?_
  refine lw_arg (v := 2) C hS hl hi (by decide) (by decide) dL_law_750 dL_law_751 dL_law_752 dL_law_753 dL_law_754 ?_
  refine lw_arg (v := 3) C hS hl hi (by decide) (by decide) dL_law_755 dL_law_756 dL_law_757 dL_law_758 dL_law_759 ?_
  refine lw_mR (rest := []) C hS I (t_X10_turn l E A qm (xs (i + 1).toNatClampNeg) (xs (i + 2).toNatClampNeg) (xs (i + 3).toNatClampNeg)) (cwV 3 (hw_X10_turn hw) gd_X10_turn rfl rfl rfl (by decide +kernel) ⟨(Nat.le_of_ble_eq_true rfl), (Nat.le_of_ble_eq_true rfl)⟩) rfl hl.1 rfl (Nat.le_of_ble_eq_true rfl) dL_law_760 ⟨(Nat.le_of_ble_eq_true rfl), (Nat.le_of_ble_eq_true rfl)⟩ (fun r760 h760 => ?_)
  refine lv_pop hx hb dL_law_763 rfl ?_
  exact lv_goto (tgt := 1456) hx hb dL_law_764 (by decide) (K H locs hS ⟨X, vm, (rl_k hM ⟨kp.rf, rfl⟩ ⟨kp.rf, fun _ _ => rfl⟩ hR), I⟩)
theorem lc_19 (C : LwC p s m c b L xs E A) (hS : va_S A s.heap H locs) (I : LwI E A qt qm H) {i : Int32} (hl : lv_has ls 4 (lwl b qt qm i)) (hi : 0 ≤ i.toInt ∧ i.toInt + 7 ≤ L)
    (K : ∀ (H : Heap) (locs : List Loc), va_S A s.heap H locs → LwI E A qt qm H → W p l e room_1 s m #[Value.ref b] below meth c H locs 600000 7302250 Q (F0 m 1456 ls [])) : W p l e room_1 s m #[Value.ref b] below meth c H locs 600000 7302250 Q (F0 m 767 ls []) := by
  have hx := C.1.1
  have hb := C.1.2.1
  have hw := C.2.2.2.2.2.2.2
  obtain ⟨X, vm, hR, I⟩ := I
  have hM := lwj_md I
  refine lv_aload_n hx hb dL_law_767 rfl (lv_at hl 1 rfl) ?_
  refine lw_arg (v := 1) C hS hl hi (by decide) (by decide) dL_law_768 dL_law_769 dL_law_770 dL_law_771 dL_law_772 ?_
  refine lw_arg (v := 2) C hS hl hi (by decide) (by decide) dL_law_773 dL_law_774 dL_law_775 dL_law_776 dL_law_777 ?_
  refine lw_arg (v := 3) C hS hl hi (by decide) (by decide) dL_law_778 dL_law_779 dL_law_780 dL_law_781 dL_law_782 ?_
  refine lw_arg (v := 4) C hS hl hi (by decide) (by decide) dL_law_783 dL_law_784 dL_law_785 dL_law_786 dL_law_787 ?_
  refine lw_tR (rest := []) C hS I (t_X9_most l E A qt (xs (i + 1).toNatClampNeg) (xs (i + 2).toNatClampNeg) (xs (i + 3).toNatClampNeg) (xs (i + 4).toNatClampNeg)) (cwV 4 (hw_X9_most hw) gd_X9_most rfl rfl rfl (by decide +kernel) ⟨(Nat.le_of_ble_eq_true rfl), (Nat.le_of_ble_eq_true rfl)⟩) rfl hl.1 rfl (Nat.le_of_ble_eq_true rfl) dL_law_788 ⟨(Nat.le_of_ble_eq_true rfl), (Nat.le_of_ble_eq_true rfl)⟩ (fun r788 h788 => ?_)
  refine lv_pop hx hb dL_law_791 rfl ?_
  refine lv_aload_n hx hb dL_law_792 rfl (lv_at hl 2 rfl) ?_
  refine lw_arg (v := 1) C hS hl hi (by decide) (by decide) dL_law_793 dL_law_794 dL_law_795 dL_law_796 dL_law_797 ?_
  refine lw_arg (v := 2) C hS hl hi (by decide) (by decide) dL_law_798 dL_law_799 dL_law_800 dL_law_801 dL_law_802 ?_
  refine lw_arg (v := 3) C hS hl hi (by decide) (by decide) dL_law_803 dL_law_804 dL_law_805 dL_law_806 dL_law_807 ?_
  refine lw_arg (v := 4) C hS hl hi (by decide) (by decide) dL_law_808 dL_law_809 dL_law_810 dL_law_811 dL_law_812 ?_
  refine lw_mR (rest := []) C hS I (t_X10_most l E A qm (xs (i + 1).toNatClampNeg) (xs (i + 2).toNatClampNeg) (xs (i + 3).toNatClampNeg) (xs (i + 4).toNatClampNeg)) (cwV 4 (hw_X10_most hw) gd_X10_most rfl rfl rfl (by decide +kernel) ⟨(Nat.le_of_ble_eq_true rfl), (Nat.le_of_ble_eq_true rfl)⟩) rfl hl.1 rfl (Nat.le_of_ble_eq_true rfl) dL_law_813 ⟨(Nat.le_of_ble_eq_true rfl), (Nat.le_of_ble_eq_true rfl)⟩ (fun r813 h813 => ?_)
  refine lv_pop hx hb dL_law_816 rfl ?_
  exact lv_goto (tgt := 1456) hx hb dL_law_817 (by decide) (K H locs hS ⟨X, vm, (rl_k hM ⟨kp.rf, rfl⟩ ⟨kp.rf, fun _ _ => rfl⟩ hR), I⟩)
theorem lc_20 (C : LwC p s m c b L xs E A) (hS : va_S A s.heap H locs) (I : LwI E A qt qm H) {i : Int32} (hl : lv_has ls 4 (lwl b qt qm i)) (hi : 0 ≤ i.toInt ∧ i.toInt + 7 ≤ L)
    (K : ∀ (H : Heap) (locs : List Loc), va_S A s.heap H locs → LwI E A qt qm H → W p l e room_1 s m #[Value.ref b] below meth c H locs 600000 7302250 Q (F0 m 1456 ls [])) : W p l e room_1 s m #[Value.ref b] below meth c H locs 600000 7302250 Q (F0 m 820 ls []) := by
  have hx := C.1.1
  have hb := C.1.2.1
  have hw := C.2.2.2.2.2.2.2
  obtain ⟨X, vm, hR, I⟩ := I
  have hM := lwj_md I
  refine lv_aload_n hx hb dL_law_820 rfl (lv_at hl 1 rfl) ?_
  refine lw_arg (v := 1) C hS hl hi (by decide) (by decide) dL_law_821 dL_law_822 dL_law_823 dL_law_824 dL_law_825 ?_
  refine lw_arg (v := 2) C hS hl hi (by decide) (by decide) dL_law_826 dL_law_827 dL_law_828 dL_law_829 dL_law_830 ?_
  refine lw_arg (v := 3) C hS hl hi (by decide) (by decide) dL_law_831 dL_law_832 dL_law_833 dL_law_834 dL_law_835 ?_
  refine lw_arg (v := 4) C hS hl hi (by decide) (by decide) dL_law_836 dL_law_837 dL_law_838 dL_law_839 dL_law_840 ?_
  refine lw_arg (v := 5) C hS hl hi (by decide) (by decide) dL_law_841 dL_law_842 dL_law_843 dL_law_844 dL_law_845 ?_
  refine lw_tR (rest := []) C hS I (t_X9_bell l E A qt (xs (i + 1).toNatClampNeg) (xs (i + 2).toNatClampNeg) (xs (i + 3).toNatClampNeg) (xs (i + 4).toNatClampNeg) (xs (i + 5).toNatClampNeg)) (cwV 5 (hw_X9_bell hw) gd_X9_bell rfl rfl rfl (by decide +kernel) ⟨(Nat.le_of_ble_eq_true rfl), (Nat.le_of_ble_eq_true rfl)⟩) rfl hl.1 rfl (Nat.le_of_ble_eq_true rfl) dL_law_846 ⟨(Nat.le_of_ble_eq_true rfl), (Nat.le_of_ble_eq_true rfl)⟩ (fun r846 h846 => ?_)
  refine lv_pop hx hb dL_law_849 rfl ?_
  refine lv_aload_n hx hb dL_law_850 rfl (lv_at hl 2 rfl) ?_
  refine lw_arg (v := 1) C hS hl hi (by decide) (by decide) dL_law_851 dL_law_852 dL_law_853 dL_law_854 dL_law_855 ?_
  refine lw_arg (v := 2) C hS hl hi (by decide) (by decide) dL_law_856 dL_law_857 dL_law_858 dL_law_859 dL_law_860 ?_
  refine lw_arg (v := 3) C hS hl hi (by decide) (by decide) dL_law_861 dL_law_862 dL_law_863 dL_law_864 dL_law_865 ?_
  refine lw_arg (v := 4) C hS hl hi (by decide) (by decide) dL_law_866 dL_law_867 dL_law_868 dL_law_869 dL_law_870 ?_
  refine lw_arg (v := 5) C hS hl hi (by decide) (by decide) dL_law_871 dL_law_872 dL_law_873 dL_law_874 dL_law_875 ?_
  refine lw_mR (rest := []) C hS I (t_X10_bell l E A qm (xs (i + 1).toNatClampNeg) (xs (i + 2).toNatClampNeg) (xs (i + 3).toNatClampNeg) (xs (i + 4).toNatClampNeg) (xs (i + 5).toNatClampNeg)) (cwV 5 (hw_X10_bell hw) gd_X10_bell rfl rfl rfl (by decide +kernel) ⟨(Nat.le_of_ble_eq_true rfl), (Nat.le_of_ble_eq_true rfl)⟩) rfl hl.1 rfl (Nat.le_of_ble_eq_true rfl) dL_law_876 ⟨(Nat.le_of_ble_eq_true rfl), (Nat.le_of_ble_eq_true rfl)⟩ (fun r876 h876 => ?_)
  refine lv_pop hx hb dL_law_879 rfl ?_
  exact lv_goto (tgt := 1456) hx hb dL_law_880 (by decide) (K H locs hS ⟨X, vm, (rl_k hM ⟨kp.rf, rfl⟩ ⟨kp.rf, fun _ _ => rfl⟩ hR), I⟩)
theorem lc_21 (C : LwC p s m c b L xs E A) (hS : va_S A s.heap H locs) (I : LwI E A qt qm H) {i : Int32} (hl : lv_has ls 4 (lwl b qt qm i)) (hi : 0 ≤ i.toInt ∧ i.toInt + 7 ≤ L)
    (K : ∀ (H : Heap) (locs : List Loc), va_S A s.heap H locs → LwI E A qt qm H → W p l e room_1 s m #[Value.ref b] below meth c H locs 600000 7302250 Q (F0 m 1456 ls [])) : W p l e room_1 s m #[Value.ref b] below meth c H locs 600000 7302250 Q (F0 m 883 ls []) := by
  have hx := C.1.1
  have hb := C.1.2.1
  have hw := C.2.2.2.2.2.2.2
  obtain ⟨X, vm, hR, I⟩ := I
  have hM := lwj_md I
  refine lv_aload_n hx hb dL_law_883 rfl (lv_at hl 1 rfl) ?_
  refine lw_arg (v := 1) C hS hl hi (by decide) (by decide) dL_law_884 dL_law_885 dL_law_886 dL_law_887 dL_law_888 ?_
  refine lw_arg (v := 2) C hS hl hi (by decide) (by decide) dL_law_889 dL_law_890 dL_law_891 dL_law_892 dL_law_893 ?_
  refine lw_tR (rest := []) C hS I (t_X9_breaks l E A qt (xs (i + 1).toNatClampNeg) (xs (i + 2).toNatClampNeg)) (cwV 2 (hw_X9_breaks hw) gd_X9_breaks rfl rfl rfl (by decide +kernel) ⟨(Nat.le_of_ble_eq_true rfl), (Nat.le_of_ble_eq_true rfl)⟩) rfl hl.1 rfl (Nat.le_of_ble_eq_true rfl) dL_law_894 ⟨(Nat.le_of_ble_eq_true rfl), (Nat.le_of_ble_eq_true rfl)⟩ (fun r894 h894 => ?_)
  refine lv_pop hx hb dL_law_897 rfl ?_
  refine lv_aload_n hx hb dL_law_898 rfl (lv_at hl 2 rfl) ?_
  refine lw_arg (v := 1) C hS hl hi (by decide) (by decide) dL_law_899 dL_law_900 dL_law_901 dL_law_902 dL_law_903 ?_
  refine lw_arg (v := 2) C hS hl hi (by decide) (by decide) dL_law_904 dL_law_905 dL_law_906 dL_law_907 dL_law_908 ?_
  refine lw_mR (rest := []) C hS I (t_X10_breaks l E A qm (xs (i + 1).toNatClampNeg) (xs (i + 2).toNatClampNeg)) (cwV 2 (hw_X10_breaks hw) gd_X10_breaks rfl rfl rfl (by decide +kernel) ⟨(Nat.le_of_ble_eq_true rfl), (Nat.le_of_ble_eq_true rfl)⟩) rfl hl.1 rfl (Nat.le_of_ble_eq_true rfl) dL_law_909 ⟨(Nat.le_of_ble_eq_true rfl), (Nat.le_of_ble_eq_true rfl)⟩ (fun r909 h909 => ?_)
  refine lv_pop hx hb dL_law_912 rfl ?_
  exact lv_goto (tgt := 1456) hx hb dL_law_913 (by decide) (K H locs hS ⟨X, vm, (rl_k hM ⟨kp.rf, rfl⟩ ⟨kp.rf, fun _ _ => rfl⟩ hR), I⟩)
theorem lc_22 (C : LwC p s m c b L xs E A) (hS : va_S A s.heap H locs) (I : LwI E A qt qm H) {i : Int32} (hl : lv_has ls 4 (lwl b qt qm i)) (hi : 0 ≤ i.toInt ∧ i.toInt + 7 ≤ L)
    (K : ∀ (H : Heap) (locs : List Loc), va_S A s.heap H locs → LwI E A qt qm H → W p l e room_1 s m #[Value.ref b] below meth c H locs 600000 7302250 Q (F0 m 1456 ls [])) : W p l e room_1 s m #[Value.ref b] below meth c H locs 600000 7302250 Q (F0 m 916 ls []) := by
  have hx := C.1.1
  have hb := C.1.2.1
  have hw := C.2.2.2.2.2.2.2
  obtain ⟨X, vm, hR, I⟩ := I
  have hM := lwj_md I
  refine lv_aload_n hx hb dL_law_916 rfl (lv_at hl 1 rfl) ?_
  refine lw_arg (v := 1) C hS hl hi (by decide) (by decide) dL_law_917 dL_law_918 dL_law_919 dL_law_920 dL_law_921 ?_
  refine lw_tR (rest := []) C hS I (t_X9_props l E A qt (xs (i + 1).toNatClampNeg)) (cwV 1 (hw_X9_props hw) gd_X9_props rfl rfl rfl (by decide +kernel) ⟨(Nat.le_of_ble_eq_true rfl), (Nat.le_of_ble_eq_true rfl)⟩) rfl hl.1 rfl (Nat.le_of_ble_eq_true rfl) dL_law_922 ⟨(Nat.le_of_ble_eq_true rfl), (Nat.le_of_ble_eq_true rfl)⟩ (fun r922 h922 => ?_)
  refine lv_pop hx hb dL_law_925 rfl ?_
  refine lv_aload_n hx hb dL_law_926 rfl (lv_at hl 2 rfl) ?_
  refine lw_arg (v := 1) C hS hl hi (by decide) (by decide) dL_law_927 dL_law_928 dL_law_929 dL_law_930 dL_law_931 ?_
  refine lw_mR (rest := []) C hS I (t_X10_props l E A qm (xs (i + 1).toNatClampNeg)) (cwV 1 (hw_X10_props hw) gd_X10_props rfl rfl rfl (by decide +kernel) ⟨(Nat.le_of_ble_eq_true rfl), (Nat.le_of_ble_eq_true rfl)⟩) rfl hl.1 rfl (Nat.le_of_ble_eq_true rfl) dL_law_932 ⟨(Nat.le_of_ble_eq_true rfl), (Nat.le_of_ble_eq_true rfl)⟩ (fun r932 h932 => ?_)
  refine lv_pop hx hb dL_law_935 rfl ?_
  exact lv_goto (tgt := 1456) hx hb dL_law_936 (by decide) (K H locs hS ⟨X, vm, (rl_k hM ⟨kp.rf, rfl⟩ ⟨kp.rf, fun _ _ => rfl⟩ hR), I⟩)
theorem lc_23 (C : LwC p s m c b L xs E A) (hS : va_S A s.heap H locs) (I : LwI E A qt qm H) {i : Int32} (hl : lv_has ls 4 (lwl b qt qm i)) (hi : 0 ≤ i.toInt ∧ i.toInt + 7 ≤ L)
    (K : ∀ (H : Heap) (locs : List Loc), va_S A s.heap H locs → LwI E A qt qm H → W p l e room_1 s m #[Value.ref b] below meth c H locs 600000 7302250 Q (F0 m 1456 ls [])) : W p l e room_1 s m #[Value.ref b] below meth c H locs 600000 7302250 Q (F0 m 939 ls []) := by
  have hx := C.1.1
  have hb := C.1.2.1
  have hw := C.2.2.2.2.2.2.2
  obtain ⟨X, vm, hR, I⟩ := I
  have hM := lwj_md I
  refine lv_aload_n hx hb dL_law_939 rfl (lv_at hl 1 rfl) ?_
  refine lw_arg (v := 1) C hS hl hi (by decide) (by decide) dL_law_940 dL_law_941 dL_law_942 dL_law_943 dL_law_944 ?_
  refine lw_arg (v := 2) C hS hl hi (by decide) (by decide) dL_law_945 dL_law_946 dL_law_947 dL_law_948 dL_law_949 ?_
  refine lw_arg (v := 3) C hS hl hi (by decide) (by decide) dL_law_950 dL_law_951 dL_law_952 dL_law_953 dL_law_954 ?_
  refine lw_tR (rest := []) C hS I (t_X9_soonest l E A qt (xs (i + 1).toNatClampNeg) (xs (i + 2).toNatClampNeg) (xs (i + 3).toNatClampNeg)) (cwV 3 (hw_X9_soonest hw) gd_X9_soonest rfl rfl rfl (by decide +kernel) ⟨(Nat.le_of_ble_eq_true rfl), (Nat.le_of_ble_eq_true rfl)⟩) rfl hl.1 rfl (Nat.le_of_ble_eq_true rfl) dL_law_955 ⟨(Nat.le_of_ble_eq_true rfl), (Nat.le_of_ble_eq_true rfl)⟩ (fun r955 h955 => ?_)
  refine lv_pop hx hb dL_law_958 rfl ?_
  refine lv_aload_n hx hb dL_law_959 rfl (lv_at hl 2 rfl) ?_
  refine lw_arg (v := 1) C hS hl hi (by decide) (by decide) dL_law_960 dL_law_961 dL_law_962 dL_law_963 dL_law_964 ?_
  refine lw_arg (v := 2) C hS hl hi (by decide) (by decide) dL_law_965 dL_law_966 dL_law_967 dL_law_968 dL_law_969 ?_
  refine lw_arg (v := 3) C hS hl hi (by decide) (by decide) dL_law_970 dL_law_971 dL_law_972 dL_law_973 dL_law_974 ?_
  refine lw_mR (rest := []) C hS I (t_X10_soonest l E A qm (xs (i + 1).toNatClampNeg) (xs (i + 2).toNatClampNeg) (xs (i + 3).toNatClampNeg)) (cwV 3 (hw_X10_soonest hw) gd_X10_soonest rfl rfl rfl (by decide +kernel) ⟨(Nat.le_of_ble_eq_true rfl), (Nat.le_of_ble_eq_true rfl)⟩) rfl hl.1 rfl (Nat.le_of_ble_eq_true rfl) dL_law_975 ⟨(Nat.le_of_ble_eq_true rfl), (Nat.le_of_ble_eq_true rfl)⟩ (fun r975 h975 => ?_)
  refine lv_pop hx hb dL_law_978 rfl ?_
  exact lv_goto (tgt := 1456) hx hb dL_law_979 (by decide) (K H locs hS ⟨X, vm, (rl_k hM ⟨kp.rf, rfl⟩ ⟨kp.rf, fun _ _ => rfl⟩ hR), I⟩)
theorem lc_24 (C : LwC p s m c b L xs E A) (hS : va_S A s.heap H locs) (I : LwI E A qt qm H) {i : Int32} (hl : lv_has ls 4 (lwl b qt qm i)) (hi : 0 ≤ i.toInt ∧ i.toInt + 7 ≤ L)
    (K : ∀ (H : Heap) (locs : List Loc), va_S A s.heap H locs → LwI E A qt qm H → W p l e room_1 s m #[Value.ref b] below meth c H locs 600000 7302250 Q (F0 m 1456 ls [])) : W p l e room_1 s m #[Value.ref b] below meth c H locs 600000 7302250 Q (F0 m 982 ls []) := by
  have hx := C.1.1
  have hb := C.1.2.1
  have hw := C.2.2.2.2.2.2.2
  obtain ⟨X, vm, hR, I⟩ := I
  have hM := lwj_md I
  refine lv_aload_n hx hb dL_law_982 rfl (lv_at hl 1 rfl) ?_
  refine lw_arg (v := 1) C hS hl hi (by decide) (by decide) dL_law_983 dL_law_984 dL_law_985 dL_law_986 dL_law_987 ?_
  refine lw_arg (v := 2) C hS hl hi (by decide) (by decide) dL_law_988 dL_law_989 dL_law_990 dL_law_991 dL_law_992 ?_
  refine lw_arg (v := 3) C hS hl hi (by decide) (by decide) dL_law_993 dL_law_994 dL_law_995 dL_law_996 dL_law_997 ?_
  refine lw_arg (v := 4) C hS hl hi (by decide) (by decide) dL_law_998 dL_law_999 dL_law_1000 dL_law_1001 dL_law_1002 ?_
  refine lw_arg (v := 5) C hS hl hi (by decide) (by decide) dL_law_1003 dL_law_1004 dL_law_1005 dL_law_1006 dL_law_1007 ?_
  refine lw_tM (rest := []) C hS I (t_X9_least l E qt (xs (i + 1).toNatClampNeg) (xs (i + 2).toNatClampNeg) (xs (i + 3).toNatClampNeg) (xs (i + 4).toNatClampNeg) (xs (i + 5).toNatClampNeg)) (cwV 5 (hw_X9_least hw) gd_X9_least rfl rfl rfl (by decide +kernel) ⟨(Nat.le_of_ble_eq_true rfl), (Nat.le_of_ble_eq_true rfl)⟩) rfl hl.1 rfl (Nat.le_of_ble_eq_true rfl) dL_law_1008 ⟨(Nat.le_of_ble_eq_true rfl), (Nat.le_of_ble_eq_true rfl)⟩ (fun r1008 X1008 H locs h1008 hS I => ?_)
  refine lv_pop hx hb dL_law_1011 rfl ?_
  refine lv_aload_n hx hb dL_law_1012 rfl (lv_at hl 2 rfl) ?_
  refine lw_arg (v := 1) C hS hl hi (by decide) (by decide) dL_law_1013 dL_law_1014 dL_law_1015 dL_law_1016 dL_law_1017 ?_
  refine lw_arg (v := 2) C hS hl hi (by decide) (by decide) dL_law_1018 dL_law_1019 dL_law_1020 dL_law_1021 dL_law_1022 ?_
  refine lw_arg (v := 3) C hS hl hi (by decide) (by decide) dL_law_1023 dL_law_1024 dL_law_1025 dL_law_1026 dL_law_1027 ?_
  refine lw_arg (v := 4) C hS hl hi (by decide) (by decide) dL_law_1028 dL_law_1029 dL_law_1030 dL_law_1031 dL_law_1032 ?_
  refine lw_arg (v := 5) C hS hl hi (by decide) (by decide) dL_law_1033 dL_law_1034 dL_law_1035 dL_law_1036 dL_law_1037 ?_
  refine lw_mM (rest := []) C hS I (t_X10_least l E qm (xs (i + 1).toNatClampNeg) (xs (i + 2).toNatClampNeg) (xs (i + 3).toNatClampNeg) (xs (i + 4).toNatClampNeg) (xs (i + 5).toNatClampNeg)) (cwV 5 (hw_X10_least hw) gd_X10_least rfl rfl rfl (by decide +kernel) ⟨(Nat.le_of_ble_eq_true rfl), (Nat.le_of_ble_eq_true rfl)⟩) rfl hl.1 rfl (Nat.le_of_ble_eq_true rfl) dL_law_1038 ⟨(Nat.le_of_ble_eq_true rfl), (Nat.le_of_ble_eq_true rfl)⟩ (fun r1038 vm1038 H locs h1038 hS I => ?_)
  refine lv_pop hx hb dL_law_1041 rfl ?_
  exact lv_goto (tgt := 1456) hx hb dL_law_1042 (by decide) (K H locs hS ⟨X1008, vm1038, (rl_k hM h1008 h1038 hR), I⟩)
theorem lc_25 (C : LwC p s m c b L xs E A) (hS : va_S A s.heap H locs) (I : LwI E A qt qm H) {i : Int32} (hl : lv_has ls 4 (lwl b qt qm i)) (hi : 0 ≤ i.toInt ∧ i.toInt + 7 ≤ L)
    (K : ∀ (H : Heap) (locs : List Loc), va_S A s.heap H locs → LwI E A qt qm H → W p l e room_1 s m #[Value.ref b] below meth c H locs 600000 7302250 Q (F0 m 1456 ls [])) : W p l e room_1 s m #[Value.ref b] below meth c H locs 600000 7302250 Q (F0 m 1045 ls []) := by
  have hx := C.1.1
  have hb := C.1.2.1
  have hw := C.2.2.2.2.2.2.2
  obtain ⟨X, vm, hR, I⟩ := I
  have hM := lwj_md I
  refine lv_aload_n hx hb dL_law_1045 rfl (lv_at hl 1 rfl) ?_
  refine lw_arg (v := 1) C hS hl hi (by decide) (by decide) dL_law_1046 dL_law_1047 dL_law_1048 dL_law_1049 dL_law_1050 ?_
  refine lw_arg (v := 2) C hS hl hi (by decide) (by decide) dL_law_1051 dL_law_1052 dL_law_1053 dL_law_1054 dL_law_1055 ?_
  refine lw_arg (v := 3) C hS hl hi (by decide) (by decide) dL_law_1056 dL_law_1057 dL_law_1058 dL_law_1059 dL_law_1060 ?_
  refine lw_tM (rest := []) C hS I (t_X9_water l E qt (xs (i + 1).toNatClampNeg) (xs (i + 2).toNatClampNeg) (xs (i + 3).toNatClampNeg)) (cwV 3 (hw_X9_water hw) gd_X9_water rfl rfl rfl (by decide +kernel) ⟨(Nat.le_of_ble_eq_true rfl), (Nat.le_of_ble_eq_true rfl)⟩) rfl hl.1 rfl (Nat.le_of_ble_eq_true rfl) dL_law_1061 ⟨(Nat.le_of_ble_eq_true rfl), (Nat.le_of_ble_eq_true rfl)⟩ (fun r1061 X1061 H locs h1061 hS I => ?_)
  refine lv_pop hx hb dL_law_1064 rfl ?_
  refine lv_aload_n hx hb dL_law_1065 rfl (lv_at hl 2 rfl) ?_
  refine lw_arg (v := 1) C hS hl hi (by decide) (by decide) dL_law_1066 dL_law_1067 dL_law_1068 dL_law_1069 dL_law_1070 ?_
  refine lw_arg (v := 2) C hS hl hi (by decide) (by decide) dL_law_1071 dL_law_1072 dL_law_1073 dL_law_1074 dL_law_1075 ?_
  refine lw_arg (v := 3) C hS hl hi (by decide) (by decide) dL_law_1076 dL_law_1077 dL_law_1078 dL_law_1079 dL_law_1080 ?_
  refine lw_mM (rest := []) C hS I (t_X10_water l E qm (xs (i + 1).toNatClampNeg) (xs (i + 2).toNatClampNeg) (xs (i + 3).toNatClampNeg)) (cwV 3 (hw_X10_water hw) gd_X10_water rfl rfl rfl (by decide +kernel) ⟨(Nat.le_of_ble_eq_true rfl), (Nat.le_of_ble_eq_true rfl)⟩) rfl hl.1 rfl (Nat.le_of_ble_eq_true rfl) dL_law_1081 ⟨(Nat.le_of_ble_eq_true rfl), (Nat.le_of_ble_eq_true rfl)⟩ (fun r1081 vm1081 H locs h1081 hS I => ?_)
  refine lv_pop hx hb dL_law_1084 rfl ?_
  exact lv_goto (tgt := 1456) hx hb dL_law_1085 (by decide) (K H locs hS ⟨X1061, vm1081, (rl_k hM h1061 h1081 hR), I⟩)
theorem lc_26 (C : LwC p s m c b L xs E A) (hS : va_S A s.heap H locs) (I : LwI E A qt qm H) {i : Int32} (hl : lv_has ls 4 (lwl b qt qm i)) (hi : 0 ≤ i.toInt ∧ i.toInt + 7 ≤ L)
    (K : ∀ (H : Heap) (locs : List Loc), va_S A s.heap H locs → LwI E A qt qm H → W p l e room_1 s m #[Value.ref b] below meth c H locs 600000 7302250 Q (F0 m 1456 ls [])) : W p l e room_1 s m #[Value.ref b] below meth c H locs 600000 7302250 Q (F0 m 1088 ls []) := by
  have hx := C.1.1
  have hb := C.1.2.1
  have hw := C.2.2.2.2.2.2.2
  obtain ⟨X, vm, hR, I⟩ := I
  have hM := lwj_md I
  refine lv_aload_n hx hb dL_law_1088 rfl (lv_at hl 1 rfl) ?_
  refine lw_arg (v := 1) C hS hl hi (by decide) (by decide) dL_law_1089 dL_law_1090 dL_law_1091 dL_law_1092 dL_law_1093 ?_
  refine lw_arg (v := 2) C hS hl hi (by decide) (by decide) dL_law_1094 dL_law_1095 dL_law_1096 dL_law_1097 dL_law_1098 ?_
  refine lw_tR (rest := []) C hS I (t_X9_whose l E A qt (xs (i + 1).toNatClampNeg) (xs (i + 2).toNatClampNeg)) (cwV 2 (hw_X9_whose hw) gd_X9_whose rfl rfl rfl (by decide +kernel) ⟨(Nat.le_of_ble_eq_true rfl), (Nat.le_of_ble_eq_true rfl)⟩) rfl hl.1 rfl (Nat.le_of_ble_eq_true rfl) dL_law_1099 ⟨(Nat.le_of_ble_eq_true rfl), (Nat.le_of_ble_eq_true rfl)⟩ (fun r1099 h1099 => ?_)
  refine lv_pop hx hb dL_law_1102 rfl ?_
  refine lv_aload_n hx hb dL_law_1103 rfl (lv_at hl 2 rfl) ?_
  refine lw_arg (v := 1) C hS hl hi (by decide) (by decide) dL_law_1104 dL_law_1105 dL_law_1106 dL_law_1107 dL_law_1108 ?_
  refine lw_arg (v := 2) C hS hl hi (by decide) (by decide) dL_law_1109 dL_law_1110 dL_law_1111 dL_law_1112 dL_law_1113 ?_
  refine lw_mR (rest := []) C hS I (t_X10_whose l E A qm (xs (i + 1).toNatClampNeg) (xs (i + 2).toNatClampNeg)) (cwV 2 (hw_X10_whose hw) gd_X10_whose rfl rfl rfl (by decide +kernel) ⟨(Nat.le_of_ble_eq_true rfl), (Nat.le_of_ble_eq_true rfl)⟩) rfl hl.1 rfl (Nat.le_of_ble_eq_true rfl) dL_law_1114 ⟨(Nat.le_of_ble_eq_true rfl), (Nat.le_of_ble_eq_true rfl)⟩ (fun r1114 h1114 => ?_)
  refine lv_pop hx hb dL_law_1117 rfl ?_
  exact lv_goto (tgt := 1456) hx hb dL_law_1118 (by decide) (K H locs hS ⟨X, vm, (rl_k hM ⟨kp.rf, rfl⟩ ⟨kp.rf, fun _ _ => rfl⟩ hR), I⟩)
theorem lc_27 (C : LwC p s m c b L xs E A) (hS : va_S A s.heap H locs) (I : LwI E A qt qm H) {i : Int32} (hl : lv_has ls 4 (lwl b qt qm i)) (hi : 0 ≤ i.toInt ∧ i.toInt + 7 ≤ L)
    (K : ∀ (H : Heap) (locs : List Loc), va_S A s.heap H locs → LwI E A qt qm H → W p l e room_1 s m #[Value.ref b] below meth c H locs 600000 7302250 Q (F0 m 1456 ls [])) : W p l e room_1 s m #[Value.ref b] below meth c H locs 600000 7302250 Q (F0 m 1121 ls []) := by
  have hx := C.1.1
  have hb := C.1.2.1
  have hw := C.2.2.2.2.2.2.2
  obtain ⟨X, vm, hR, I⟩ := I
  have hM := lwj_md I
  refine lv_aload_n hx hb dL_law_1121 rfl (lv_at hl 1 rfl) ?_
  refine lw_arg (v := 1) C hS hl hi (by decide) (by decide) dL_law_1122 dL_law_1123 dL_law_1124 dL_law_1125 dL_law_1126 ?_
  refine lw_tR (rest := []) C hS I (t_X9_stays l E A qt (xs (i + 1).toNatClampNeg)) (cwV 1 (hw_X9_stays hw) gd_X9_stays rfl rfl rfl (by decide +kernel) ⟨(Nat.le_of_ble_eq_true rfl), (Nat.le_of_ble_eq_true rfl)⟩) rfl hl.1 rfl (Nat.le_of_ble_eq_true rfl) dL_law_1127 ⟨(Nat.le_of_ble_eq_true rfl), (Nat.le_of_ble_eq_true rfl)⟩ (fun r1127 h1127 => ?_)
  refine lv_pop hx hb dL_law_1130 rfl ?_
  refine lv_aload_n hx hb dL_law_1131 rfl (lv_at hl 2 rfl) ?_
  refine lw_arg (v := 1) C hS hl hi (by decide) (by decide) dL_law_1132 dL_law_1133 dL_law_1134 dL_law_1135 dL_law_1136 ?_
  refine lw_mR (rest := []) C hS I (t_X10_stays l E A qm (xs (i + 1).toNatClampNeg)) (cwV 1 (hw_X10_stays hw) gd_X10_stays rfl rfl rfl (by decide +kernel) ⟨(Nat.le_of_ble_eq_true rfl), (Nat.le_of_ble_eq_true rfl)⟩) rfl hl.1 rfl (Nat.le_of_ble_eq_true rfl) dL_law_1137 ⟨(Nat.le_of_ble_eq_true rfl), (Nat.le_of_ble_eq_true rfl)⟩ (fun r1137 h1137 => ?_)
  refine lv_pop hx hb dL_law_1140 rfl ?_
  exact lv_goto (tgt := 1456) hx hb dL_law_1141 (by decide) (K H locs hS ⟨X, vm, (rl_k hM ⟨kp.rf, rfl⟩ ⟨kp.rf, fun _ _ => rfl⟩ hR), I⟩)
theorem lc_28 (C : LwC p s m c b L xs E A) (hS : va_S A s.heap H locs) (I : LwI E A qt qm H) {i : Int32} (hl : lv_has ls 4 (lwl b qt qm i)) (hi : 0 ≤ i.toInt ∧ i.toInt + 7 ≤ L)
    (K : ∀ (H : Heap) (locs : List Loc), va_S A s.heap H locs → LwI E A qt qm H → W p l e room_1 s m #[Value.ref b] below meth c H locs 600000 7302250 Q (F0 m 1456 ls [])) : W p l e room_1 s m #[Value.ref b] below meth c H locs 600000 7302250 Q (F0 m 1144 ls []) := by
  have hx := C.1.1
  have hb := C.1.2.1
  have hw := C.2.2.2.2.2.2.2
  obtain ⟨X, vm, hR, I⟩ := I
  have hM := lwj_md I
  refine lv_aload_n hx hb dL_law_1144 rfl (lv_at hl 1 rfl) ?_
  refine lw_arg (v := 1) C hS hl hi (by decide) (by decide) dL_law_1145 dL_law_1146 dL_law_1147 dL_law_1148 dL_law_1149 ?_
  refine lw_arg (v := 2) C hS hl hi (by decide) (by decide) dL_law_1150 dL_law_1151 dL_law_1152 dL_law_1153 dL_law_1154 ?_
  refine lw_arg (v := 3) C hS hl hi (by decide) (by decide) dL_law_1155 dL_law_1156 dL_law_1157 dL_law_1158 dL_law_1159 ?_
  refine lw_arg (v := 4) C hS hl hi (by decide) (by decide) dL_law_1160 dL_law_1161 dL_law_1162 dL_law_1163 dL_law_1164 ?_
  refine lw_tM (rest := []) C hS I (t_X9_see l E qt (xs (i + 1).toNatClampNeg) (xs (i + 2).toNatClampNeg) (xs (i + 3).toNatClampNeg) (xs (i + 4).toNatClampNeg)) (cwV 4 (hw_X9_see hw) gd_X9_see rfl rfl rfl (by decide +kernel) ⟨(Nat.le_of_ble_eq_true rfl), (Nat.le_of_ble_eq_true rfl)⟩) rfl hl.1 rfl (Nat.le_of_ble_eq_true rfl) dL_law_1165 ⟨(Nat.le_of_ble_eq_true rfl), (Nat.le_of_ble_eq_true rfl)⟩ (fun r1165 X1165 H locs h1165 hS I => ?_)
  refine lv_pop hx hb dL_law_1168 rfl ?_
  refine lv_aload_n hx hb dL_law_1169 rfl (lv_at hl 2 rfl) ?_
  refine lw_arg (v := 1) C hS hl hi (by decide) (by decide) dL_law_1170 dL_law_1171 dL_law_1172 dL_law_1173 dL_law_1174 ?_
  refine lw_arg (v := 2) C hS hl hi (by decide) (by decide) dL_law_1175 dL_law_1176 dL_law_1177 dL_law_1178 dL_law_1179 ?_
  refine lw_arg (v := 3) C hS hl hi (by decide) (by decide) dL_law_1180 dL_law_1181 dL_law_1182 dL_law_1183 dL_law_1184 ?_
  refine lw_arg (v := 4) C hS hl hi (by decide) (by decide) dL_law_1185 dL_law_1186 dL_law_1187 dL_law_1188 dL_law_1189 ?_
  refine lw_mM (rest := []) C hS I (t_X10_see l E qm (xs (i + 1).toNatClampNeg) (xs (i + 2).toNatClampNeg) (xs (i + 3).toNatClampNeg) (xs (i + 4).toNatClampNeg)) (cwV 4 (hw_X10_see hw) gd_X10_see rfl rfl rfl (by decide +kernel) ⟨(Nat.le_of_ble_eq_true rfl), (Nat.le_of_ble_eq_true rfl)⟩) rfl hl.1 rfl (Nat.le_of_ble_eq_true rfl) dL_law_1190 ⟨(Nat.le_of_ble_eq_true rfl), (Nat.le_of_ble_eq_true rfl)⟩ (fun r1190 vm1190 H locs h1190 hS I => ?_)
  refine lv_pop hx hb dL_law_1193 rfl ?_
  exact lv_goto (tgt := 1456) hx hb dL_law_1194 (by decide) (K H locs hS ⟨X1165, vm1190, (rl_see h1165 h1190 hM (lwj_md I) hR).2, I⟩)
theorem lc_29 (C : LwC p s m c b L xs E A) (hS : va_S A s.heap H locs) (I : LwI E A qt qm H) {i : Int32} (hl : lv_has ls 4 (lwl b qt qm i)) (hi : 0 ≤ i.toInt ∧ i.toInt + 7 ≤ L)
    (K : ∀ (H : Heap) (locs : List Loc), va_S A s.heap H locs → LwI E A qt qm H → W p l e room_1 s m #[Value.ref b] below meth c H locs 600000 7302250 Q (F0 m 1456 ls [])) : W p l e room_1 s m #[Value.ref b] below meth c H locs 600000 7302250 Q (F0 m 1197 ls []) := by
  have hx := C.1.1
  have hb := C.1.2.1
  have hw := C.2.2.2.2.2.2.2
  obtain ⟨X, vm, hR, I⟩ := I
  have hM := lwj_md I
  refine lv_aload_n hx hb dL_law_1197 rfl (lv_at hl 1 rfl) ?_
  refine lw_arg (v := 1) C hS hl hi (by decide) (by decide) dL_law_1198 dL_law_1199 dL_law_1200 dL_law_1201 dL_law_1202 ?_
  refine lw_arg (v := 2) C hS hl hi (by decide) (by decide) dL_law_1203 dL_law_1204 dL_law_1205 dL_law_1206 dL_law_1207 ?_
  refine lw_tM (rest := []) C hS I (t_X9_fits l E qt (xs (i + 1).toNatClampNeg) (xs (i + 2).toNatClampNeg)) (cwV 2 (hw_X9_fits hw) gd_X9_fits rfl rfl rfl (by decide +kernel) ⟨(Nat.le_of_ble_eq_true rfl), (Nat.le_of_ble_eq_true rfl)⟩) rfl hl.1 rfl (Nat.le_of_ble_eq_true rfl) dL_law_1208 ⟨(Nat.le_of_ble_eq_true rfl), (Nat.le_of_ble_eq_true rfl)⟩ (fun r1208 X1208 H locs h1208 hS I => ?_)
  refine lv_pop hx hb dL_law_1211 rfl ?_
  refine lv_aload_n hx hb dL_law_1212 rfl (lv_at hl 2 rfl) ?_
  refine lw_arg (v := 1) C hS hl hi (by decide) (by decide) dL_law_1213 dL_law_1214 dL_law_1215 dL_law_1216 dL_law_1217 ?_
  refine lw_arg (v := 2) C hS hl hi (by decide) (by decide) dL_law_1218 dL_law_1219 dL_law_1220 dL_law_1221 dL_law_1222 ?_
  refine lw_mM (rest := []) C hS I (t_X10_fits l E qm (xs (i + 1).toNatClampNeg) (xs (i + 2).toNatClampNeg)) (cwV 2 (hw_X10_fits hw) gd_X10_fits rfl rfl rfl (by decide +kernel) ⟨(Nat.le_of_ble_eq_true rfl), (Nat.le_of_ble_eq_true rfl)⟩) rfl hl.1 rfl (Nat.le_of_ble_eq_true rfl) dL_law_1223 ⟨(Nat.le_of_ble_eq_true rfl), (Nat.le_of_ble_eq_true rfl)⟩ (fun r1223 vm1223 H locs h1223 hS I => ?_)
  refine lv_pop hx hb dL_law_1226 rfl ?_
  exact lv_goto (tgt := 1456) hx hb dL_law_1227 (by decide) (K H locs hS ⟨X1208, vm1223, (rl_k hM h1208 h1223 hR), I⟩)
theorem lc_30 (C : LwC p s m c b L xs E A) (hS : va_S A s.heap H locs) (I : LwI E A qt qm H) {i : Int32} (hl : lv_has ls 4 (lwl b qt qm i)) (hi : 0 ≤ i.toInt ∧ i.toInt + 7 ≤ L)
    (K : ∀ (H : Heap) (locs : List Loc), va_S A s.heap H locs → LwI E A qt qm H → W p l e room_1 s m #[Value.ref b] below meth c H locs 600000 7302250 Q (F0 m 1456 ls [])) : W p l e room_1 s m #[Value.ref b] below meth c H locs 600000 7302250 Q (F0 m 1230 ls []) := by
  have hx := C.1.1
  have hb := C.1.2.1
  have hw := C.2.2.2.2.2.2.2
  obtain ⟨X, vm, hR, I⟩ := I
  have hM := lwj_md I
  refine lv_aload_n hx hb dL_law_1230 rfl (lv_at hl 1 rfl) ?_
  refine lw_arg (v := 1) C hS hl hi (by decide) (by decide) dL_law_1231 dL_law_1232 dL_law_1233 dL_law_1234 dL_law_1235 ?_
  refine lw_tM (rest := []) C hS I (t_X9_look l E qt (xs (i + 1).toNatClampNeg)) (cwV 1 (hw_X9_look hw) gd_X9_look rfl rfl rfl (by decide +kernel) ⟨(Nat.le_of_ble_eq_true rfl), (Nat.le_of_ble_eq_true rfl)⟩) rfl hl.1 rfl (Nat.le_of_ble_eq_true rfl) dL_law_1236 ⟨(Nat.le_of_ble_eq_true rfl), (Nat.le_of_ble_eq_true rfl)⟩ (fun r1236 X1236 H locs h1236 hS I => ?_)
  refine lv_pop hx hb dL_law_1239 rfl ?_
  refine lv_aload_n hx hb dL_law_1240 rfl (lv_at hl 2 rfl) ?_
  refine lw_arg (v := 1) C hS hl hi (by decide) (by decide) dL_law_1241 dL_law_1242 dL_law_1243 dL_law_1244 dL_law_1245 ?_
  refine lw_mM (rest := []) C hS I (t_X10_look l E qm (xs (i + 1).toNatClampNeg)) (cwV 1 (hw_X10_look hw) gd_X10_look rfl rfl rfl (by decide +kernel) ⟨(Nat.le_of_ble_eq_true rfl), (Nat.le_of_ble_eq_true rfl)⟩) rfl hl.1 rfl (Nat.le_of_ble_eq_true rfl) dL_law_1246 ⟨(Nat.le_of_ble_eq_true rfl), (Nat.le_of_ble_eq_true rfl)⟩ (fun r1246 vm1246 H locs h1246 hS I => ?_)
  refine lv_pop hx hb dL_law_1249 rfl ?_
  exact lv_goto (tgt := 1456) hx hb dL_law_1250 (by decide) (K H locs hS ⟨X1236, vm1246, (rl_k hM h1236 h1246 hR), I⟩)
theorem lc_31 (C : LwC p s m c b L xs E A) (hS : va_S A s.heap H locs) (I : LwI E A qt qm H) {i : Int32} (hl : lv_has ls 4 (lwl b qt qm i)) (hi : 0 ≤ i.toInt ∧ i.toInt + 7 ≤ L)
    (K : ∀ (H : Heap) (locs : List Loc), va_S A s.heap H locs → LwI E A qt qm H → W p l e room_1 s m #[Value.ref b] below meth c H locs 600000 7302250 Q (F0 m 1456 ls [])) : W p l e room_1 s m #[Value.ref b] below meth c H locs 600000 7302250 Q (F0 m 1253 ls []) := by
  have hx := C.1.1
  have hb := C.1.2.1
  have hw := C.2.2.2.2.2.2.2
  obtain ⟨X, vm, hR, I⟩ := I
  have hM := lwj_md I
  refine lv_aload_n hx hb dL_law_1253 rfl (lv_at hl 1 rfl) ?_
  refine lw_arg (v := 1) C hS hl hi (by decide) (by decide) dL_law_1254 dL_law_1255 dL_law_1256 dL_law_1257 dL_law_1258 ?_
  refine lw_arg (v := 2) C hS hl hi (by decide) (by decide) dL_law_1259 dL_law_1260 dL_law_1261 dL_law_1262 dL_law_1263 ?_
  refine lw_arg (v := 3) C hS hl hi (by decide) (by decide) dL_law_1264 dL_law_1265 dL_law_1266 dL_law_1267 dL_law_1268 ?_
  refine lw_arg (v := 4) C hS hl hi (by decide) (by decide) dL_law_1269 dL_law_1270 dL_law_1271 dL_law_1272 dL_law_1273 ?_
  refine lw_arg (v := 5) C hS hl hi (by decide) (by decide) dL_law_1274 dL_law_1275 dL_law_1276 dL_law_1277 dL_law_1278 ?_
  refine lw_arg6 (v := 6) C hS hl hi (by decide) (by decide) dL_law_1279 dL_law_1280 dL_law_1281 dL_law_1283 dL_law_1284 ?_
  refine lw_tR (rest := []) C hS I (t_X9_odds l E A qt (xs (i + 1).toNatClampNeg) (xs (i + 2).toNatClampNeg) (xs (i + 3).toNatClampNeg) (xs (i + 4).toNatClampNeg) (xs (i + 5).toNatClampNeg) (xs (i + 6).toNatClampNeg)) (cwV 6 (hw_X9_odds hw) gd_X9_odds rfl rfl rfl (by decide +kernel) ⟨(Nat.le_of_ble_eq_true rfl), (Nat.le_of_ble_eq_true rfl)⟩) rfl hl.1 rfl (Nat.le_of_ble_eq_true rfl) dL_law_1285 ⟨(Nat.le_of_ble_eq_true rfl), (Nat.le_of_ble_eq_true rfl)⟩ (fun r1285 h1285 => ?_)
  refine lv_pop hx hb dL_law_1288 rfl ?_
  refine lv_aload_n hx hb dL_law_1289 rfl (lv_at hl 2 rfl) ?_
  refine lw_arg (v := 1) C hS hl hi (by decide) (by decide) dL_law_1290 dL_law_1291 dL_law_1292 dL_law_1293 dL_law_1294 ?_
  refine lw_arg (v := 2) C hS hl hi (by decide) (by decide) dL_law_1295 dL_law_1296 dL_law_1297 dL_law_1298 dL_law_1299 ?_
  refine lw_arg (v := 3) C hS hl hi (by decide) (by decide) dL_law_1300 dL_law_1301 dL_law_1302 dL_law_1303 dL_law_1304 ?_
  refine lw_arg (v := 4) C hS hl hi (by decide) (by decide) dL_law_1305 dL_law_1306 dL_law_1307 dL_law_1308 dL_law_1309 ?_
  refine lw_arg (v := 5) C hS hl hi (by decide) (by decide) dL_law_1310 dL_law_1311 dL_law_1312 dL_law_1313 dL_law_1314 ?_
  refine lw_arg6 (v := 6) C hS hl hi (by decide) (by decide) dL_law_1315 dL_law_1316 dL_law_1317 dL_law_1319 dL_law_1320 ?_
  refine lw_mM (rest := []) C hS I (t_X10_odds l E qm (xs (i + 1).toNatClampNeg) (xs (i + 2).toNatClampNeg) (xs (i + 3).toNatClampNeg) (xs (i + 4).toNatClampNeg) (xs (i + 5).toNatClampNeg) (xs (i + 6).toNatClampNeg)) (cwV 6 (hw_X10_odds hw) gd_X10_odds rfl rfl rfl (by decide +kernel) ⟨(Nat.le_of_ble_eq_true rfl), (Nat.le_of_ble_eq_true rfl)⟩) rfl hl.1 rfl (Nat.le_of_ble_eq_true rfl) dL_law_1321 ⟨(Nat.le_of_ble_eq_true rfl), (Nat.le_of_ble_eq_true rfl)⟩ (fun r1321 vm1321 H locs h1321 hS I => ?_)
  refine lv_pop hx hb dL_law_1324 rfl ?_
  exact lv_goto (tgt := 1456) hx hb dL_law_1325 (by decide) (K H locs hS ⟨X, vm1321, (rl_k hM ⟨kp.rf, rfl⟩ h1321.2 hR), I⟩)
theorem lc_32 (C : LwC p s m c b L xs E A) (hS : va_S A s.heap H locs) (I : LwI E A qt qm H) {i : Int32} (hl : lv_has ls 4 (lwl b qt qm i)) (hi : 0 ≤ i.toInt ∧ i.toInt + 7 ≤ L)
    (K : ∀ (H : Heap) (locs : List Loc), va_S A s.heap H locs → LwI E A qt qm H → W p l e room_1 s m #[Value.ref b] below meth c H locs 600000 7302250 Q (F0 m 1456 ls [])) : W p l e room_1 s m #[Value.ref b] below meth c H locs 600000 7302250 Q (F0 m 1328 ls []) := by
  have hx := C.1.1
  have hb := C.1.2.1
  have hw := C.2.2.2.2.2.2.2
  obtain ⟨X, vm, hR, I⟩ := I
  have hM := lwj_md I
  refine lv_aload_n hx hb dL_law_1328 rfl (lv_at hl 1 rfl) ?_
  refine lw_arg (v := 1) C hS hl hi (by decide) (by decide) dL_law_1329 dL_law_1330 dL_law_1331 dL_law_1332 dL_law_1333 ?_
  refine lw_tM (rest := []) C hS I (t_X9_write l E qt (xs (i + 1).toNatClampNeg)) (cwV 1 (hw_X9_write hw) gd_X9_write rfl rfl rfl (by decide +kernel) ⟨(Nat.le_of_ble_eq_true rfl), (Nat.le_of_ble_eq_true rfl)⟩) rfl hl.1 rfl (Nat.le_of_ble_eq_true rfl) dL_law_1334 ⟨(Nat.le_of_ble_eq_true rfl), (Nat.le_of_ble_eq_true rfl)⟩ (fun r1334 X1334 H locs h1334 hS I => ?_)
  refine lv_pop hx hb dL_law_1337 rfl ?_
  refine lv_aload_n hx hb dL_law_1338 rfl (lv_at hl 2 rfl) ?_
  refine lw_arg (v := 1) C hS hl hi (by decide) (by decide) dL_law_1339 dL_law_1340 dL_law_1341 dL_law_1342 dL_law_1343 ?_
  refine lw_mM (rest := []) C hS I (t_X10_write l E qm (xs (i + 1).toNatClampNeg)) (cwV 1 (hw_X10_write hw) gd_X10_write rfl rfl rfl (by decide +kernel) ⟨(Nat.le_of_ble_eq_true rfl), (Nat.le_of_ble_eq_true rfl)⟩) rfl hl.1 rfl (Nat.le_of_ble_eq_true rfl) dL_law_1344 ⟨(Nat.le_of_ble_eq_true rfl), (Nat.le_of_ble_eq_true rfl)⟩ (fun r1344 vm1344 H locs h1344 hS I => ?_)
  refine lv_pop hx hb dL_law_1347 rfl ?_
  exact lv_goto (tgt := 1456) hx hb dL_law_1348 (by decide) (K H locs hS ⟨X1334, vm1344, (rl_write h1334 h1344 hM (lwj_md I) hR).2, I⟩)
theorem lc_33 (C : LwC p s m c b L xs E A) (hS : va_S A s.heap H locs) (I : LwI E A qt qm H) {i : Int32} (hl : lv_has ls 4 (lwl b qt qm i)) (hi : 0 ≤ i.toInt ∧ i.toInt + 7 ≤ L)
    (K : ∀ (H : Heap) (locs : List Loc), va_S A s.heap H locs → LwI E A qt qm H → W p l e room_1 s m #[Value.ref b] below meth c H locs 600000 7302250 Q (F0 m 1456 ls [])) : W p l e room_1 s m #[Value.ref b] below meth c H locs 600000 7302250 Q (F0 m 1351 ls []) := by
  have hx := C.1.1
  have hb := C.1.2.1
  have hw := C.2.2.2.2.2.2.2
  obtain ⟨X, vm, hR, I⟩ := I
  have hM := lwj_md I
  refine lv_aload_n hx hb dL_law_1351 rfl (lv_at hl 1 rfl) ?_
  refine lw_tM (rest := []) C hS I (t_X9_tear l E qt ) (cwV 0 (hw_X9_tear hw) gd_X9_tear rfl rfl rfl (by decide +kernel) ⟨(Nat.le_of_ble_eq_true rfl), (Nat.le_of_ble_eq_true rfl)⟩) rfl hl.1 rfl (Nat.le_of_ble_eq_true rfl) dL_law_1352 ⟨(Nat.le_of_ble_eq_true rfl), (Nat.le_of_ble_eq_true rfl)⟩ (fun r1352 X1352 H locs h1352 hS I => ?_)
  refine lv_pop hx hb dL_law_1355 rfl ?_
  refine lv_aload_n hx hb dL_law_1356 rfl (lv_at hl 2 rfl) ?_
  refine lw_mM (rest := []) C hS I (t_X10_tear l E qm ) (cwV 0 (hw_X10_tear hw) gd_X10_tear rfl rfl rfl (by decide +kernel) ⟨(Nat.le_of_ble_eq_true rfl), (Nat.le_of_ble_eq_true rfl)⟩) rfl hl.1 rfl (Nat.le_of_ble_eq_true rfl) dL_law_1357 ⟨(Nat.le_of_ble_eq_true rfl), (Nat.le_of_ble_eq_true rfl)⟩ (fun r1357 vm1357 H locs h1357 hS I => ?_)
  refine lv_pop hx hb dL_law_1360 rfl ?_
  exact lv_goto (tgt := 1456) hx hb dL_law_1361 (by decide) (K H locs hS ⟨X1352, vm1357, (rl_tear h1352 h1357 hM (lwj_md I) hR).2, I⟩)
theorem lc_34 (C : LwC p s m c b L xs E A) (hS : va_S A s.heap H locs) (I : LwI E A qt qm H) {i : Int32} (hl : lv_has ls 4 (lwl b qt qm i)) (hi : 0 ≤ i.toInt ∧ i.toInt + 7 ≤ L)
    (K : ∀ (H : Heap) (locs : List Loc), va_S A s.heap H locs → LwI E A qt qm H → W p l e room_1 s m #[Value.ref b] below meth c H locs 600000 7302250 Q (F0 m 1456 ls [])) : W p l e room_1 s m #[Value.ref b] below meth c H locs 600000 7302250 Q (F0 m 1364 ls []) := by
  have hx := C.1.1
  have hb := C.1.2.1
  have hw := C.2.2.2.2.2.2.2
  obtain ⟨X, vm, hR, I⟩ := I
  have hM := lwj_md I
  refine lv_aload_n hx hb dL_law_1364 rfl (lv_at hl 1 rfl) ?_
  refine lw_arg (v := 1) C hS hl hi (by decide) (by decide) dL_law_1365 dL_law_1366 dL_law_1367 dL_law_1368 dL_law_1369 ?_
  refine lw_tR (rest := []) C hS I (t_X9_judge l E A qt (xs (i + 1).toNatClampNeg)) (cwV 1 (hw_X9_judge hw) gd_X9_judge rfl rfl rfl (by decide +kernel) ⟨(Nat.le_of_ble_eq_true rfl), (Nat.le_of_ble_eq_true rfl)⟩) rfl hl.1 rfl (Nat.le_of_ble_eq_true rfl) dL_law_1370 ⟨(Nat.le_of_ble_eq_true rfl), (Nat.le_of_ble_eq_true rfl)⟩ (fun r1370 h1370 => ?_)
  refine lv_pop hx hb dL_law_1373 rfl ?_
  refine lv_aload_n hx hb dL_law_1374 rfl (lv_at hl 2 rfl) ?_
  refine lw_arg (v := 1) C hS hl hi (by decide) (by decide) dL_law_1375 dL_law_1376 dL_law_1377 dL_law_1378 dL_law_1379 ?_
  refine lw_mR (rest := []) C hS I (t_X10_judge l E A qm (xs (i + 1).toNatClampNeg)) (cwV 1 (hw_X10_judge hw) gd_X10_judge rfl rfl rfl (by decide +kernel) ⟨(Nat.le_of_ble_eq_true rfl), (Nat.le_of_ble_eq_true rfl)⟩) rfl hl.1 rfl (Nat.le_of_ble_eq_true rfl) dL_law_1380 ⟨(Nat.le_of_ble_eq_true rfl), (Nat.le_of_ble_eq_true rfl)⟩ (fun r1380 h1380 => ?_)
  refine lv_pop hx hb dL_law_1383 rfl ?_
  exact lv_goto (tgt := 1456) hx hb dL_law_1384 (by decide) (K H locs hS ⟨X, vm, (rl_k hM ⟨kp.rf, rfl⟩ ⟨kp.rf, fun _ _ => rfl⟩ hR), I⟩)
theorem lc_35 (C : LwC p s m c b L xs E A) (hS : va_S A s.heap H locs) (I : LwI E A qt qm H) {i : Int32} (hl : lv_has ls 4 (lwl b qt qm i)) (hi : 0 ≤ i.toInt ∧ i.toInt + 7 ≤ L)
    (K : ∀ (H : Heap) (locs : List Loc), va_S A s.heap H locs → LwI E A qt qm H → W p l e room_1 s m #[Value.ref b] below meth c H locs 600000 7302250 Q (F0 m 1456 ls [])) : W p l e room_1 s m #[Value.ref b] below meth c H locs 600000 7302250 Q (F0 m 1387 ls []) := by
  have hx := C.1.1
  have hb := C.1.2.1
  have hw := C.2.2.2.2.2.2.2
  obtain ⟨X, vm, hR, I⟩ := I
  have hM := lwj_md I
  refine lv_aload_n hx hb dL_law_1387 rfl (lv_at hl 1 rfl) ?_
  refine lw_arg (v := 1) C hS hl hi (by decide) (by decide) dL_law_1388 dL_law_1389 dL_law_1390 dL_law_1391 dL_law_1392 ?_
  refine lw_tM (rest := []) C hS I (t_X9_seed l E qt (xs (i + 1).toNatClampNeg)) (cwV 1 (hw_X9_seed hw) gd_X9_seed rfl rfl rfl (by decide +kernel) ⟨(Nat.le_of_ble_eq_true rfl), (Nat.le_of_ble_eq_true rfl)⟩) rfl hl.1 rfl (Nat.le_of_ble_eq_true rfl) dL_law_1393 ⟨(Nat.le_of_ble_eq_true rfl), (Nat.le_of_ble_eq_true rfl)⟩ (fun r1393 X1393 H locs h1393 hS I => ?_)
  refine lv_pop hx hb dL_law_1396 rfl ?_
  refine lv_aload_n hx hb dL_law_1397 rfl (lv_at hl 2 rfl) ?_
  refine lw_arg (v := 1) C hS hl hi (by decide) (by decide) dL_law_1398 dL_law_1399 dL_law_1400 dL_law_1401 dL_law_1402 ?_
  refine lw_mM (rest := []) C hS I (t_X10_seed l E qm (xs (i + 1).toNatClampNeg)) (cwV 1 (hw_X10_seed hw) gd_X10_seed rfl rfl rfl (by decide +kernel) ⟨(Nat.le_of_ble_eq_true rfl), (Nat.le_of_ble_eq_true rfl)⟩) rfl hl.1 rfl (Nat.le_of_ble_eq_true rfl) dL_law_1403 ⟨(Nat.le_of_ble_eq_true rfl), (Nat.le_of_ble_eq_true rfl)⟩ (fun r1403 vm1403 H locs h1403 hS I => ?_)
  refine lv_pop hx hb dL_law_1406 rfl ?_
  exact lv_goto (tgt := 1456) hx hb dL_law_1407 (by decide) (K H locs hS ⟨X1393, vm1403, (rl_seed h1393 h1403 hM (lwj_md I) hR).2, I⟩)
theorem lc_36 (C : LwC p s m c b L xs E A) (hS : va_S A s.heap H locs) (I : LwI E A qt qm H) {i : Int32} (hl : lv_has ls 4 (lwl b qt qm i)) (hi : 0 ≤ i.toInt ∧ i.toInt + 7 ≤ L)
    (K : ∀ (H : Heap) (locs : List Loc), va_S A s.heap H locs → LwI E A qt qm H → W p l e room_1 s m #[Value.ref b] below meth c H locs 600000 7302250 Q (F0 m 1456 ls [])) : W p l e room_1 s m #[Value.ref b] below meth c H locs 600000 7302250 Q (F0 m 1410 ls []) := by
  have hx := C.1.1
  have hb := C.1.2.1
  have hw := C.2.2.2.2.2.2.2
  obtain ⟨X, vm, hR, I⟩ := I
  have hM := lwj_md I
  refine lv_aload_n hx hb dL_law_1410 rfl (lv_at hl 1 rfl) ?_
  refine lw_arg (v := 1) C hS hl hi (by decide) (by decide) dL_law_1411 dL_law_1412 dL_law_1413 dL_law_1414 dL_law_1415 ?_
  refine lw_tM (rest := []) C hS I (t_X9_keep l E qt (xs (i + 1).toNatClampNeg)) (cwV 1 (hw_X9_keep hw) gd_X9_keep rfl rfl rfl (by decide +kernel) ⟨(Nat.le_of_ble_eq_true rfl), (Nat.le_of_ble_eq_true rfl)⟩) rfl hl.1 rfl (Nat.le_of_ble_eq_true rfl) dL_law_1416 ⟨(Nat.le_of_ble_eq_true rfl), (Nat.le_of_ble_eq_true rfl)⟩ (fun r1416 X1416 H locs h1416 hS I => ?_)
  refine lv_pop hx hb dL_law_1419 rfl ?_
  refine lv_aload_n hx hb dL_law_1420 rfl (lv_at hl 2 rfl) ?_
  refine lw_arg (v := 1) C hS hl hi (by decide) (by decide) dL_law_1421 dL_law_1422 dL_law_1423 dL_law_1424 dL_law_1425 ?_
  refine lw_mM (rest := []) C hS I (t_X10_keep l E qm (xs (i + 1).toNatClampNeg)) (cwV 1 (hw_X10_keep hw) gd_X10_keep rfl rfl rfl (by decide +kernel) ⟨(Nat.le_of_ble_eq_true rfl), (Nat.le_of_ble_eq_true rfl)⟩) rfl hl.1 rfl (Nat.le_of_ble_eq_true rfl) dL_law_1426 ⟨(Nat.le_of_ble_eq_true rfl), (Nat.le_of_ble_eq_true rfl)⟩ (fun r1426 vm1426 H locs h1426 hS I => ?_)
  refine lv_pop hx hb dL_law_1429 rfl ?_
  exact lv_goto (tgt := 1456) hx hb dL_law_1430 (by decide) (K H locs hS ⟨X1416, vm1426, (rl_keep h1416 h1426 hM (lwj_md I) hR), I⟩)
theorem lc_37 (C : LwC p s m c b L xs E A) (hS : va_S A s.heap H locs) (I : LwI E A qt qm H) {i : Int32} (hl : lv_has ls 4 (lwl b qt qm i)) (hi : 0 ≤ i.toInt ∧ i.toInt + 7 ≤ L)
    (K : ∀ (H : Heap) (locs : List Loc), va_S A s.heap H locs → LwI E A qt qm H → W p l e room_1 s m #[Value.ref b] below meth c H locs 600000 7302250 Q (F0 m 1456 ls [])) : W p l e room_1 s m #[Value.ref b] below meth c H locs 600000 7302250 Q (F0 m 1433 ls []) := by
  have hx := C.1.1
  have hb := C.1.2.1
  have hw := C.2.2.2.2.2.2.2
  obtain ⟨X, vm, hR, I⟩ := I
  have hM := lwj_md I
  refine lv_aload_n hx hb dL_law_1433 rfl (lv_at hl 1 rfl) ?_
  refine lw_arg (v := 1) C hS hl hi (by decide) (by decide) dL_law_1434 dL_law_1435 dL_law_1436 dL_law_1437 dL_law_1438 ?_
  refine lw_tM (rest := []) C hS I (t_X9_goBack l E qt (xs (i + 1).toNatClampNeg)) (cwV 1 (hw_X9_goBack hw) gd_X9_goBack rfl rfl rfl (by decide +kernel) ⟨(Nat.le_of_ble_eq_true rfl), (Nat.le_of_ble_eq_true rfl)⟩) rfl hl.1 rfl (Nat.le_of_ble_eq_true rfl) dL_law_1439 ⟨(Nat.le_of_ble_eq_true rfl), (Nat.le_of_ble_eq_true rfl)⟩ (fun r1439 X1439 H locs h1439 hS I => ?_)
  refine lv_pop hx hb dL_law_1442 rfl ?_
  refine lv_aload_n hx hb dL_law_1443 rfl (lv_at hl 2 rfl) ?_
  refine lw_arg (v := 1) C hS hl hi (by decide) (by decide) dL_law_1444 dL_law_1445 dL_law_1446 dL_law_1447 dL_law_1448 ?_
  refine lw_mM (rest := []) C hS I (t_X10_goBack l E qm (xs (i + 1).toNatClampNeg)) (cwV 1 (hw_X10_goBack hw) gd_X10_goBack rfl rfl rfl (by decide +kernel) ⟨(Nat.le_of_ble_eq_true rfl), (Nat.le_of_ble_eq_true rfl)⟩) rfl hl.1 rfl (Nat.le_of_ble_eq_true rfl) dL_law_1449 ⟨(Nat.le_of_ble_eq_true rfl), (Nat.le_of_ble_eq_true rfl)⟩ (fun r1449 vm1449 H locs h1449 hS I => ?_)
  refine lv_pop hx hb dL_law_1452 rfl ?_
  exact lv_goto (tgt := 1456) hx hb dL_law_1453 (by decide) (K H locs hS ⟨X1439, vm1449, (rl_goBack h1439 h1449 hM (lwj_md I) hR).2, I⟩)
end LK
end
