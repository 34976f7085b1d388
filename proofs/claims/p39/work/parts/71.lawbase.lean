/-! ===== two worlds side by side ===== -/
theorem ap_l {α : Type} {a b : List α} {i : Nat} {x : α} (h : a[i]? = some x) : (a ++ b)[i]? = some x := by
  rw [List.getElem?_append_left (List.getElem?_eq_some_iff.mp h).1]
  exact h
theorem ap_r {α : Type} {a b : List α} {i : Nat} {x : α} (h : b[i]? = some x) : (a ++ b)[a.length + i]? = some x := by
  rw [List.getElem?_append_right (Nat.le_add_right _ _), Nat.add_sub_cancel_left]
  exact h
theorem va_P.l {D : va_G} {cl : List vw_C} {a b : va_W} {H : Heap} (h : va_P D cl (a ++ b) H) : va_P D cl a H := fun k q hk => h k q (ap_l hk)
theorem va_P.r {D : va_G} {cl : List vw_C} {a b : va_W} {H : Heap} (h : va_P D cl (a ++ b) H) : va_P D cl b H := fun k q hk => h _ q (ap_r hk)
theorem va_P.sw {D : va_G} {cl : List vw_C} {a b : va_W} {H : Heap} (h : va_P D cl (a ++ b) H) : va_P D cl (b ++ a) H := va_P.app h.r h.l
theorem va_D.l {A : Nat → Prop} {a b : va_W} (h : va_D A (a ++ b)) : va_D A a := ⟨fun i j x y hi hj e => h.1 i j x y (ap_l hi) (ap_l hj) e, fun k q hk => h.2 k q (ap_l hk)⟩
theorem va_D.r {A : Nat → Prop} {a b : va_W} (h : va_D A (a ++ b)) : va_D A b := ⟨fun i j x y hi hj e => Nat.add_left_cancel (h.1 _ _ x y (ap_r hi) (ap_r hj) e), fun k q hk => h.2 _ q (ap_r hk)⟩
theorem va_D.ap {A : Nat → Prop} {a b : va_W} (h : va_D A (a ++ b)) {i j : Nat} {x y : Nat × va_E} (hi : a[i]? = some x) (hj : b[j]? = some y) : x.1 ≠ y.1 := by
  intro e
  have h1 := h.1 _ _ x y (ap_l hi) (ap_r hj) e
  have h2 := (List.getElem?_eq_some_iff.mp hi).1
  omega
theorem va_D.sw {A : Nat → Prop} {a b : va_W} (h : va_D A (a ++ b)) : va_D A (b ++ a) := va_D.app h.r h.l (fun i j x y hi hj e => h.ap hj hi e.symm)
section LW
variable {p : Program} {l : Launch} {e : Env} {R : Room} {s : State} {m : MethodId} {args : Array Value} {below : List Frame} {meth : Method} {c : Code} {H : Heap} {locs : List Loc} {cells slots : Nat} {Q : State → Prop}
variable {y : MethodName} {bytes cc : ByteArray} {maxL nL n index : Nat} {ret : Option FieldType} {ws : List Cond} {rm : Room} {Ts : List Cond} {own C : String} {b : Addr} {As rest st0 : List Value} {pc : Nat} {ls : Array Slot} {E : Ev} {A : Nat → Prop}
/-- a call that writes in the first of two worlds -/
theorem lw_Vi {S : Type} {post : Int32 → S → Prop} {w1 : S → va_W} {wc wr : va_W} (S0 : CallFix p m c cc nL s args Ts own)
    (hM : Met l y ws rm (MtP E H.size (.ref b :: As) wc) (va_Qi post (MtB E (va_A wc H.size) w1) (va_A wc H.size)) 0 0 (va_A wc H.size)) (cw : CallW R s args own C index y bytes maxL ret ws rm 0 0 n)
    (hE : EN E A s s.heap) (hS : va_S A s.heap H locs) (hA : ∀ q, s.heap.size ≤ q → A q) (hP : va_P (eD E) vwCl (wc ++ wr) H) (hD : va_D A (wc ++ wr)) {ci : Nat} {fs : List Value} {r : vw_C} (hc : vwCl[ci]? = some r) (he : wc[0]? = some (b, .inr (ci, fs))) (hrC : r.1 = C)
    (hn : As.length = n) (hsize : ls.size = nL) (hst : st0 = As.reverse ++ .ref b :: rest) (hW : (rest.map fun v => v.category).sum ≤ 8) (hdg : decode cc pc = .ok (.invokevirtual index, 3)) (hf : cells ≤ R.cells ∧ slots ≤ R.slots)
    (kk : ∀ (r : Int32) (u : S) (H1 : Heap) (locs1 : List Loc), post r u → va_P (eD E) vwCl (w1 u ++ wr) H1 → va_D A (w1 u ++ wr) → va_S A s.heap H1 locs1 → W p l e R s m args below meth c H1 locs1 cells slots Q (F0 m (pc + 3) ls (.int r :: rest))) : W p l e R s m args below meth c H locs cells slots Q (F0 m pc ls st0) := by
  subst hrC
  have hPc : va_P (eD E) vwCl wc H := hP.l
  have hDc := hD.l
  have hFc : ∀ q, va_A wc H.size q → A q := by
    intro q h
    rcases h with ⟨k, z, h⟩ | h
    · exact hDc.2 k (q, z) h
    · exact hA q (Nat.le_trans hS.1 h)
  refine va_calli (va_runV S0 hM cw ⟨MtP.blind, va_recv hE.1 hPc hc he, fun U hU hW => ⟨rfl, by rw [hU], by rw [hU]; exact EN.warm hW ((hE.kept hS.2.1).narrow hFc), by rw [hU]; exact hPc, hDc.weaken (fun _ _ _ _ => trivial)⟩⟩ rfl hn hsize hst (lv_room hW) hdg hf) hS (fun q _ h => hFc q h) hFc (fun r u t H1 locs1 ht hvm hw hB hz1 hk1 hS1 => ?_)
  obtain ⟨hP1, hD1⟩ := hB
  rw [ht] at hP1
  have hap : ∀ (k : Nat) (q : Nat × va_E), wr[k]? = some q → ¬ va_A wc H.size q.1 := by
    intro k q hq h
    rcases h with ⟨k2, z, h⟩ | h
    · exact hD.ap h hq rfl
    · exact absurd (hP.r k q hq).lt (Nat.not_lt.mpr h)
  exact kk r u H1 locs1 hw (va_P.app hP1 (hP.r.kept (fun k q hq => hk1 q.1 (hP.r k q hq).lt (hap k q hq)))) (va_D.app (hD1.weaken (fun k q _ h => hFc q.1 h)) hD.r (fun i j x z hx hz hxz => hap j z hz (hxz ▸ hD1.2 i x hx))) hS1
end LW
/-- a world that a method may be called on, and is one of the kind again -/
def CalM {τ : Type} (l : Launch) (y : MethodName) (ws : List Cond) (rm : Room) (E : Ev) (q ci : Nat) (As : List Value) (TW : τ → va_W → Prop) (Po : τ → Int32 → τ → Prop) : Prop :=
  ∀ (sz : Nat) (X : τ) (w : va_W), TW X w → (∃ fs : List Value, w[0]? = some (q, .inr (ci, fs))) ∧ ∃ (S : Type) (post : Int32 → S → Prop) (w1 : S → va_W), Met l y ws rm (MtP E sz (.ref q :: As) w) (va_Qi post (MtB E (va_A w sz) w1) (va_A w sz)) 0 0 (va_A w sz) ∧ ∀ (r : Int32) (u : S), post r u → ∃ X' : τ, TW X' (w1 u) ∧ Po X r X'
def CalR {τ : Type} (l : Launch) (y : MethodName) (ws : List Cond) (rm : Room) (E : Ev) (A : Nat → Prop) (q ci : Nat) (As : List Value) (TW : τ → va_W → Prop) (Po : τ → Int32 → Prop) : Prop :=
  ∀ (X : τ) (w : va_W), TW X w → ∃ (wc : va_W) (is : List Nat) (fs : List Value) (post : Int32 → Prop), is.filterMap (fun i => w[i]?) = wc ∧ wc[0]? = some (q, .inr (ci, fs)) ∧ Met l y ws rm (RdP E A (.ref q :: As) wc) (vp_Si post) 0 0 (fun _ => False) ∧ ∀ r, post r → Po X r
abbrev TgX : Type := Vf × Vf × Vf × Vf × Vf
def TgW (E : Ev) (q : Nat) (X : TgX) (w : va_W) : Prop := ∃ (a : Nat → Nat) (cz0 : Nat) (cz1 : Nat) (rt : Value) (rp : Value) (aq : Nat → Nat) (vq : Vf) (ap : Nat → Nat) (as_ : Nat → Nat) (ai : Nat → Nat) (bi : Nat → Nat), w = tgL E a X.1 cz0 cz1 rt rp aq vq ap X.2.1 as_ X.2.2.1 ai X.2.2.2.1 bi X.2.2.2.2 ∧ a 99 = q ∧ TgA X.1 X.2.1 vq X.2.2.1 X.2.2.2.1 X.2.2.2.2
def MdW (E : Ev) (q : Nat) (vm : Vf) (w : va_W) : Prop := ∃ am : Nat → Nat, w = mdL E am vm ∧ am 0 = q ∧ MdI vm
def R3 (v vm : Vf) : Prop := ((v 0 = vm 31 ∧ v 1 0 = vm 32 0) ∧ (∀ j : Nat, (j : Int) < (vm 32 0).toInt → 0 ≤ (vm 31 j).toInt)) ∧ (v 2 0).toInt = (vm 33 0).toInt
def RBk (v vm : Vf) : Prop := v 12 0 = vm 75 0 ∧ v 401 0 = vm 67 0
def RPl (vp vm : Vf) : Prop := (vp 0 0).toInt = (vm 0 0).toInt ∧ (vp 1 0).toInt = (vm 1 0).toInt ∧ (vp 60 0).toInt = (vm 9 0).toInt
def RSt (vs vm : Vf) : Prop := vs 6 0 = vm 29 0 ∧ ∀ j, j < 6 → vs 3 j = vm 26 j
def RIm (B k : Nat) (w vm : Vf) : Prop := ((w 8 0).toInt = 0 ↔ (vm 78 k).toInt = 0) ∧ ((vm 78 k).toInt ≠ 0 → w 6 0 = vm 77 (B + 36) ∧ ∀ j, j < 6 → w 3 j = vm 77 (B + 24 + j))
def Rl (X : TgX) (vm : Vf) : Prop := R3 X.1 vm ∧ RBk X.1 vm ∧ RPl X.2.1 vm ∧ RSt X.2.2.1 vm ∧ RIm 0 0 X.2.2.2.1 vm ∧ RIm 40 1 X.2.2.2.2 vm
def LwJ (E : Ev) (A : Nat → Prop) (qt qm : Nat) (X : TgX) (vm : Vf) (H : Heap) : Prop := ∃ wt wm : va_W, TgW E qt X wt ∧ MdW E qm vm wm ∧ va_P (eD E) vwCl (wt ++ wm) H ∧ va_D A (wt ++ wm)
def LwI (E : Ev) (A : Nat → Prop) (qt qm : Nat) (H : Heap) : Prop := ∃ (X : TgX) (vm : Vf), Rl X vm ∧ LwJ E A qt qm X vm H
def LwC (p : Program) (s : State) (m : MethodId) (c : Code) (b L : Nat) (xs : Nat → Int32) (E : Ev) (A : Nat → Prop) : Prop :=
  CallFix p m c cL_law 4 s #[Value.ref b] [] RL ∧ EN E A s s.heap ∧ (∀ q, s.heap.size ≤ q → A q) ∧ va_X b L xs s s.heap ∧ b < s.heap.size ∧ ¬ A b ∧ L ≤ 448 ∧ ∀ w ∈ lw_tbl, w.before #[Value.ref b] s = true
abbrev lwl (b qt qm : Nat) (i : Int32) : List (Nat × Value) := [(0, .ref b), (1, .ref qt), (2, .ref qm), (3, .int i)]
section LC
variable {p : Program} {l : Launch} {e : Env} {s : State} {m : MethodId} {below : List Frame} {meth : Method} {c : Code} {H : Heap} {locs : List Loc} {cells slots : Nat} {Q : State → Prop}
variable {y : MethodName} {bytes : ByteArray} {maxL n index : Nat} {ret : Option FieldType} {ws : List Cond} {rm : Room} {b L qt qm : Nat} {xs : Nat → Int32} {As rest st0 : List Value} {pc : Nat} {ls : Array Slot} {E : Ev} {A : Nat → Prop}
theorem lw_arg (C : LwC p s m c b L xs E A) (hS : va_S A s.heap H locs) {i v : Int32} (hl : lv_has ls 4 (lwl b qt qm i)) (hi : 0 ≤ i.toInt ∧ i.toInt + 7 ≤ L) {k : Int} (hk : Int32.ofInt k = v) (hv : 0 ≤ v.toInt ∧ v.toInt ≤ 6) (d0 : decode cL_law pc = .ok (.aload_n 0, 1)) (d1 : decode cL_law (pc + 1) = .ok (.iload_n 3, 1)) (d2 : decode cL_law (pc + 1 + 1) = .ok (.iconst k, 1)) (d3 : decode cL_law (pc + 1 + 1 + 1) = .ok (.iadd, 1)) (d4 : decode cL_law (pc + 1 + 1 + 1 + 1) = .ok (.iaload, 1))
    (kk : W p l e room_1 s m #[Value.ref b] below meth c H locs cells slots Q (F0 m (pc + 1 + 1 + 1 + 1 + 1) ls (.int (xs (i + v).toNatClampNeg) :: rest))) : W p l e room_1 s m #[Value.ref b] below meth c H locs cells slots Q (F0 m pc ls rest) := by
  obtain ⟨⟨hx, hb, hml, hown, hts⟩, hE, hA, hX, hbl, hbA, hL, hw⟩ := C
  refine lv_aload_n hx hb d0 rfl (lv_at hl 0 rfl) ?_
  refine lv_iload_n hx hb d1 rfl (lv_at hl 3 rfl) ?_
  refine lv_iconst (v := v) hx hb d2 hk ?_
  refine lv_iadd hx hb d3 ?_
  have e9 : (i + v).toInt = i.toInt + v.toInt := i_add rfl (by omega)
  exact va_sld hx hb hX hbl hbA hS (i_in (by omega) (by omega)) d4 kk
theorem lw_arg6 (C : LwC p s m c b L xs E A) (hS : va_S A s.heap H locs) {i v : Int32} (hl : lv_has ls 4 (lwl b qt qm i)) (hi : 0 ≤ i.toInt ∧ i.toInt + 7 ≤ L) {k : Int} (hk : (Int8.ofInt k).toInt32 = v) (hv : 0 ≤ v.toInt ∧ v.toInt ≤ 6) (d0 : decode cL_law pc = .ok (.aload_n 0, 1)) (d1 : decode cL_law (pc + 1) = .ok (.iload_n 3, 1)) (d2 : decode cL_law (pc + 1 + 1) = .ok (.bipush k, 2)) (d3 : decode cL_law (pc + 1 + 1 + 2) = .ok (.iadd, 1)) (d4 : decode cL_law (pc + 1 + 1 + 2 + 1) = .ok (.iaload, 1))
    (kk : W p l e room_1 s m #[Value.ref b] below meth c H locs cells slots Q (F0 m (pc + 1 + 1 + 2 + 1 + 1) ls (.int (xs (i + v).toNatClampNeg) :: rest))) : W p l e room_1 s m #[Value.ref b] below meth c H locs cells slots Q (F0 m pc ls rest) := by
  obtain ⟨⟨hx, hb, hml, hown, hts⟩, hE, hA, hX, hbl, hbA, hL, hw⟩ := C
  refine lv_aload_n hx hb d0 rfl (lv_at hl 0 rfl) ?_
  refine lv_iload_n hx hb d1 rfl (lv_at hl 3 rfl) ?_
  refine lv_bipush (v := v) hx hb d2 hk ?_
  refine lv_iadd hx hb d3 ?_
  have e9 : (i + v).toInt = i.toInt + v.toInt := i_add rfl (by omega)
  exact va_sld hx hb hX hbl hbA hS (i_in (by omega) (by omega)) d4 kk
theorem lw_tM {X : TgX} {vm : Vf} {Po : TgX → Int32 → TgX → Prop} (C : LwC p s m c b L xs E A) (hS : va_S A s.heap H locs) (I : LwJ E A qt qm X vm H) (hM : CalM l y ws rm E qt 9 As (TgW E qt) Po) (cw : CallW room_1 s #[Value.ref b] RL RX9 index y bytes maxL ret ws rm 0 0 n)
    (hn : As.length = n) (hsize : ls.size = 4) (hst : st0 = As.reverse ++ .ref qt :: rest) (hW : (rest.map fun v => v.category).sum ≤ 8) (hdg : decode cL_law pc = .ok (.invokevirtual index, 3)) (hf : cells ≤ room_1.cells ∧ slots ≤ room_1.slots)
    (kk : ∀ (r : Int32) (X' : TgX) (H1 : Heap) (locs1 : List Loc), Po X r X' → va_S A s.heap H1 locs1 → LwJ E A qt qm X' vm H1 → W p l e room_1 s m #[Value.ref b] below meth c H1 locs1 cells slots Q (F0 m (pc + 3) ls (.int r :: rest))) : W p l e room_1 s m #[Value.ref b] below meth c H locs cells slots Q (F0 m pc ls st0) := by
  obtain ⟨wt, wm, ht, hm, hP, hD⟩ := I
  obtain ⟨⟨fs, hfs⟩, S, post, w1, hMet, hpo⟩ := hM H.size X wt ht
  exact lw_Vi C.1 hMet cw C.2.1 hS C.2.2.1 hP hD rfl hfs rfl hn hsize hst hW hdg hf (fun r u H1 locs1 h hP hD hS => by
    obtain ⟨X', h1, h2⟩ := hpo r u h
    exact kk r X' H1 locs1 h2 hS ⟨w1 u, wm, h1, hm, hP, hD⟩)
theorem lw_mM {X : TgX} {vm : Vf} {Po : Vf → Int32 → Vf → Prop} (C : LwC p s m c b L xs E A) (hS : va_S A s.heap H locs) (I : LwJ E A qt qm X vm H) (hM : CalM l y ws rm E qm 10 As (MdW E qm) Po) (cw : CallW room_1 s #[Value.ref b] RL RX10 index y bytes maxL ret ws rm 0 0 n)
    (hn : As.length = n) (hsize : ls.size = 4) (hst : st0 = As.reverse ++ .ref qm :: rest) (hW : (rest.map fun v => v.category).sum ≤ 8) (hdg : decode cL_law pc = .ok (.invokevirtual index, 3)) (hf : cells ≤ room_1.cells ∧ slots ≤ room_1.slots)
    (kk : ∀ (r : Int32) (vm' : Vf) (H1 : Heap) (locs1 : List Loc), Po vm r vm' → va_S A s.heap H1 locs1 → LwJ E A qt qm X vm' H1 → W p l e room_1 s m #[Value.ref b] below meth c H1 locs1 cells slots Q (F0 m (pc + 3) ls (.int r :: rest))) : W p l e room_1 s m #[Value.ref b] below meth c H locs cells slots Q (F0 m pc ls st0) := by
  obtain ⟨wt, wm, ht, hm, hP, hD⟩ := I
  obtain ⟨⟨fs, hfs⟩, S, post, w1, hMet, hpo⟩ := hM H.size vm wm hm
  exact lw_Vi C.1 hMet cw C.2.1 hS C.2.2.1 hP.sw hD.sw rfl hfs rfl hn hsize hst hW hdg hf (fun r u H1 locs1 h hP hD hS => by
    obtain ⟨vm', h1, h2⟩ := hpo r u h
    exact kk r vm' H1 locs1 h2 hS ⟨wt, w1 u, ht, h1, hP.sw, hD.sw⟩)
theorem lw_tR {X : TgX} {vm : Vf} {Po : TgX → Int32 → Prop} (C : LwC p s m c b L xs E A) (hS : va_S A s.heap H locs) (I : LwJ E A qt qm X vm H) (hM : CalR l y ws rm E A qt 9 As (TgW E qt) Po) (cw : CallW room_1 s #[Value.ref b] RL RX9 index y bytes maxL ret ws rm 0 0 n)
    (hn : As.length = n) (hsize : ls.size = 4) (hst : st0 = As.reverse ++ .ref qt :: rest) (hW : (rest.map fun v => v.category).sum ≤ 8) (hdg : decode cL_law pc = .ok (.invokevirtual index, 3)) (hf : cells ≤ room_1.cells ∧ slots ≤ room_1.slots)
    (kk : ∀ r : Int32, Po X r → W p l e room_1 s m #[Value.ref b] below meth c H locs cells slots Q (F0 m (pc + 3) ls (.int r :: rest))) : W p l e room_1 s m #[Value.ref b] below meth c H locs cells slots Q (F0 m pc ls st0) := by
  obtain ⟨wt, wm, ht, hm, hP, hD⟩ := I
  obtain ⟨wc, is, fs, post, his, hfs, hMet, hpo⟩ := hM X wt ht
  exact rd_V C.1 hMet cw (C.2.1.kept hS.2.1) (hP.l.sub is his) rfl hfs rfl hn hsize hst hW hdg hf (fun r h => kk r (hpo r h))
theorem lw_mR {X : TgX} {vm : Vf} {Po : Vf → Int32 → Prop} (C : LwC p s m c b L xs E A) (hS : va_S A s.heap H locs) (I : LwJ E A qt qm X vm H) (hM : CalR l y ws rm E A qm 10 As (MdW E qm) Po) (cw : CallW room_1 s #[Value.ref b] RL RX10 index y bytes maxL ret ws rm 0 0 n)
    (hn : As.length = n) (hsize : ls.size = 4) (hst : st0 = As.reverse ++ .ref qm :: rest) (hW : (rest.map fun v => v.category).sum ≤ 8) (hdg : decode cL_law pc = .ok (.invokevirtual index, 3)) (hf : cells ≤ room_1.cells ∧ slots ≤ room_1.slots)
    (kk : ∀ r : Int32, Po vm r → W p l e room_1 s m #[Value.ref b] below meth c H locs cells slots Q (F0 m (pc + 3) ls (.int r :: rest))) : W p l e room_1 s m #[Value.ref b] below meth c H locs cells slots Q (F0 m pc ls st0) := by
  obtain ⟨wt, wm, ht, hm, hP, hD⟩ := I
  obtain ⟨wc, is, fs, post, his, hfs, hMet, hpo⟩ := hM vm wm hm
  exact rd_V C.1 hMet cw (C.2.1.kept hS.2.1) (hP.r.sub is his) rfl hfs rfl hn hsize hst hW hdg hf (fun r h => kk r (hpo r h))
end LC
theorem r3_fr {v v' vm vm' : Vf} (h1 : v' 0 = v 0 ∧ v' 1 = v 1 ∧ v' 2 = v 2) (h2 : vm' 31 = vm 31 ∧ vm' 32 = vm 32 ∧ vm' 33 = vm 33) (h : R3 v vm) : R3 v' vm' := by
  unfold R3 at h ⊢
  rw [h1.1, h1.2.1, h1.2.2, h2.1, h2.2.1, h2.2.2]
  exact h
theorem rb_fr {v v' vm vm' : Vf} (h1 : v' 12 = v 12) (h2 : v' 401 = v 401) (h3 : vm' 75 = vm 75) (h4 : vm' 67 = vm 67) (h : RBk v vm) : RBk v' vm' := by
  unfold RBk at h ⊢
  rw [h1, h2, h3, h4]
  exact h
theorem rp_fr {w w' vm vm' : Vf} (h1 : w' = w) (h2 : vm' 0 = vm 0) (h3 : vm' 1 = vm 1) (h4 : vm' 9 = vm 9) (h : RPl w vm) : RPl w' vm' := by
  unfold RPl at h ⊢
  rw [h1, h2, h3, h4]
  exact h
theorem rs_fr {w w' vm vm' : Vf} (h1 : w' 6 = w 6) (h2 : w' 3 = w 3) (h3 : vm' 29 = vm 29) (h4 : vm' 26 = vm 26) (h : RSt w vm) : RSt w' vm' := by
  unfold RSt at h ⊢
  rw [h1, h2, h3, h4]
  exact h
theorem ri_fr {B k : Nat} {w w' vm vm' : Vf} (h1 : w' = w) (h2 : vm' 77 = vm 77) (h3 : vm' 78 = vm 78) (h : RIm B k w vm) : RIm B k w' vm' := by
  unfold RIm at h ⊢
  rw [h1, h2, h3]
  exact h
theorem rl_k {X X' : TgX} {vm vm' : Vf} (h1 : (X'.1 0 = X.1 0 ∧ X'.1 1 = X.1 1 ∧ X'.1 2 = X.1 2) ∧ (X'.1 12 = X.1 12 ∧ X'.1 401 = X.1 401) ∧ X'.2.1 = X.2.1 ∧ (X'.2.2.1 6 = X.2.2.1 6 ∧ X'.2.2.1 3 = X.2.2.1 3) ∧ X'.2.2.2 = X.2.2.2) (h2 : (vm' 31 = vm 31 ∧ vm' 32 = vm 32 ∧ vm' 33 = vm 33 ∧ vm' 75 = vm 75 ∧ vm' 67 = vm 67 ∧ vm' 0 = vm 0 ∧ vm' 1 = vm 1 ∧ vm' 9 = vm 9 ∧ vm' 29 = vm 29 ∧ vm' 26 = vm 26 ∧ vm' 77 = vm 77 ∧ vm' 78 = vm 78)) (h : Rl X vm) : Rl X' vm' := by
  obtain ⟨a3, ⟨a12, a401⟩, ap, ⟨a6, as3⟩, ai⟩ := h1
  obtain ⟨b31, b32, b33, b75, b67, b0, b1, b9, b29, b26, b77, b78⟩ := h2
  obtain ⟨q1, q2, q3, q4, q5, q6⟩ := h
  exact ⟨r3_fr a3 ⟨b31, b32, b33⟩ q1, rb_fr a12 a401 b75 b67 q2, rp_fr ap b0 b1 b9 q3, rs_fr a6 as3 b29 b26 q4, ri_fr (by rw [ai]) b77 b78 q5, ri_fr (by rw [ai]) b77 b78 q6⟩
theorem r3_feed {v v' vm vm' : Vf} {x : Int32} (h1 : FeedR x (v 0) (v 1 0) (v' 0) (v' 1 0) ∧ v' 2 = v 2) (h2 : FeedR x (vm 31) (vm 32 0) (vm' 31) (vm' 32 0) ∧ vm' 33 = vm 33) (h : R3 v vm) : R3 v' vm' := by
  obtain ⟨⟨⟨a1, a2⟩, a3⟩, a4⟩ := h
  obtain ⟨h1, e1⟩ := h1
  obtain ⟨h2, e2⟩ := h2
  rw [a1, a2] at h1
  have a4' : (v' 2 0).toInt = (vm' 33 0).toInt := by rw [e1, e2]; exact a4
  rcases h1 with ⟨b1, b2, b3⟩ | ⟨b1, b2, b3, b4⟩
  · rcases h2 with ⟨c1, c2, c3⟩ | ⟨c1, c2, c3, c4⟩
    · refine ⟨⟨⟨by rw [b2, c2], by rw [b1, c1]⟩, ?_⟩, a4'⟩
      rw [c1, c2]
      exact a3
    · omega
  · rcases h2 with ⟨c1, c2, c3⟩ | ⟨c1, c2, c3, c4⟩
    · omega
    · refine ⟨⟨⟨by rw [b3, c3], Int32.toInt_inj.mp (by omega)⟩, fun j hj => ?_⟩, a4'⟩
      rw [c3]
      by_cases q : j = (vm 32 0).toNatClampNeg
      · subst q
        rw [updA]
        exact c1.1
      · rw [updN q]
        refine a3 j ?_
        have q2 : j ≠ (vm 32 0).toInt.toNat := q
        omega
theorem rl_feed {X X' : TgX} {vm vm' : Vf} {z0 : Int32} (h1 : (FeedR z0 (X.1 0) (X.1 1 0) (X'.1 0) (X'.1 1 0) ∧ X'.1 2 = X.1 2) ∧ (X'.1 12 = X.1 12 ∧ X'.1 401 = X.1 401) ∧ X'.2 = X.2) (h2 : (FeedR z0 (vm 31) (vm 32 0) (vm' 31) (vm' 32 0) ∧ vm' 33 = vm 33) ∧ (vm' 75 = vm 75 ∧ vm' 67 = vm 67 ∧ vm' 0 = vm 0 ∧ vm' 1 = vm 1 ∧ vm' 9 = vm 9 ∧ vm' 29 = vm 29 ∧ vm' 26 = vm 26 ∧ vm' 77 = vm 77 ∧ vm' 78 = vm 78)) (h : Rl X vm) : Rl X' vm' := by
  obtain ⟨a3, ⟨a12, a401⟩, ap⟩ := h1
  obtain ⟨c3, b75, b67, b0, b1, b9, b29, b26, b77, b78⟩ := h2
  obtain ⟨q1, q2, q3, q4, q5, q6⟩ := h
  exact ⟨r3_feed a3 c3 q1, rb_fr a12 a401 b75 b67 q2, rp_fr (by rw [ap]) b0 b1 b9 q3, rs_fr (by rw [ap]) (by rw [ap]) b29 b26 q4, ri_fr (by rw [ap]) b77 b78 q5, ri_fr (by rw [ap]) b77 b78 q6⟩
theorem set_eq {x : Int32} {lo hi : Int} {a r a' b q b' : Int32} (h1 : SetP x lo hi a r a') (h2 : SetP x lo hi b q b') (e : a = b) : r.toInt = q.toInt ∧ a' = b' := by
  rcases h1 with ⟨p1, p2, p3⟩ | ⟨p1, p2, p3⟩
  · rcases h2 with ⟨g1, g2, g3⟩ | ⟨g1, g2, g3⟩
    · exact ⟨by omega, by rw [p3, g3, e]⟩
    · omega
  · rcases h2 with ⟨g1, g2, g3⟩ | ⟨g1, g2, g3⟩
    · omega
    · exact ⟨by rw [p2, g2, e], by rw [p3, g3]⟩
theorem prop_eq {h z n m : Int32} {f f' g g' : Nat → Int32} {r q : Int32} (h1 : PropP h z n f r f') (h2 : PropP h z m g q g') (en : n.toInt = m.toInt) (ef : ∀ j, j < 6 → f j = g j) : r.toInt = q.toInt ∧ ∀ j, j < 6 → f' j = g' j := by
  rcases h1 with ⟨p1, p2, p3⟩ | ⟨p0, ⟨p1, p2, p3⟩ | ⟨p1, p2, p3⟩⟩
  · rcases h2 with ⟨g1, g2, g3⟩ | ⟨g0, g1⟩
    · exact ⟨by omega, by rw [p3, g3]; exact ef⟩
    · omega
  · rcases h2 with ⟨g1, g2, g3⟩ | ⟨g0, ⟨g1, g2, g3⟩ | ⟨g1, g2, g3⟩⟩
    · omega
    · exact ⟨by omega, by rw [p3, g3]; exact ef⟩
    · omega
  · rcases h2 with ⟨g1, g2, g3⟩ | ⟨g0, ⟨g1, g2, g3⟩ | ⟨g1, g2, g3⟩⟩
    · omega
    · omega
    · have hk : h.toNatClampNeg < 6 := by show h.toInt.toNat < 6; omega
      refine ⟨by rw [p2, g2, ef _ hk], fun j hj => ?_⟩
      rw [p3, g3]
      by_cases e : j = h.toNatClampNeg
      · subst e
        rw [updA, updA]
      · rw [updN e, updN e]
        exact ef j hj
theorem cnt_eq {ok : Prop} {m : Int} {a r a' b q b' : Int32} (h1 : CntP ok m a r a') (h2 : CntP ok m b q b') (e : a = b) : r.toInt = q.toInt ∧ a' = b' := by
  subst e
  rcases h1 with ⟨p1, p2, p3⟩ | ⟨p0, ⟨p1, p2, p3⟩ | ⟨p1, p2, p3⟩⟩
  · rcases h2 with ⟨g1, g2, g3⟩ | ⟨g0, g1⟩
    · exact ⟨by omega, by rw [p3, g3]⟩
    · exact absurd g0 p2
  · rcases h2 with ⟨g1, g2, g3⟩ | ⟨g0, ⟨g1, g2, g3⟩ | ⟨g1, g2, g3⟩⟩
    · exact absurd p0 g2
    · exact ⟨by omega, by rw [p3, g3]⟩
    · omega
  · rcases h2 with ⟨g1, g2, g3⟩ | ⟨g0, ⟨g1, g2, g3⟩ | ⟨g1, g2, g3⟩⟩
    · exact absurd p0 g2
    · omega
    · exact ⟨by omega, Int32.toInt_inj.mp (by omega)⟩
theorem see_eq {x y t h W D W2 D2 a r a' b q b' : Int32} (h1 : SeeP x y t h W D a r a') (h2 : SeeP x y t h W2 D2 b q b') (eW : W.toInt = W2.toInt) (eD : D.toInt = D2.toInt) (e : a = b) : r.toInt = q.toInt ∧ a' = b' := by
  unfold SeeP at h1 h2
  rw [← eW, ← eD] at h2
  rcases h1 with ⟨p1, p2, p3⟩ | ⟨p0, p1⟩
  · rcases h2 with ⟨g1, g2, g3⟩ | ⟨g0, g1⟩
    · exact ⟨by omega, by rw [p3, g3, e]⟩
    · exact absurd g0 p2
  · rcases h2 with ⟨g1, g2, g3⟩ | ⟨g0, g1⟩
    · exact absurd p0 g2
    · exact cnt_eq p1 g1 e
theorem rl_steep {X X' : TgX} {vm vm' : Vf} {z0 r q : Int32} (h1 : SetP z0 0 99 (X.2.2.1 6 0) r (X'.2.2.1 6 0) ∧ X'.1 = X.1 ∧ X'.2.1 = X.2.1 ∧ X'.2.2.1 3 = X.2.2.1 3 ∧ X'.2.2.2 = X.2.2.2) (h2 : SetP z0 0 99 (vm 29 0) q (vm' 29 0) ∧ (vm' 31 = vm 31 ∧ vm' 32 = vm 32 ∧ vm' 33 = vm 33 ∧ vm' 75 = vm 75 ∧ vm' 67 = vm 67 ∧ vm' 0 = vm 0 ∧ vm' 1 = vm 1 ∧ vm' 9 = vm 9 ∧ vm' 26 = vm 26 ∧ vm' 77 = vm 77 ∧ vm' 78 = vm 78)) (h : Rl X vm) : r.toInt = q.toInt ∧ Rl X' vm' := by
  obtain ⟨s1, av, ap, a3, ai⟩ := h1
  obtain ⟨s2, b31, b32, b33, b75, b67, b0, b1, b9, b26, b77, b78⟩ := h2
  obtain ⟨q1, q2, q3, q4, q5, q6⟩ := h
  have e := set_eq s1 s2 q4.1
  exact ⟨e.1, r3_fr ⟨by rw [av], by rw [av], by rw [av]⟩ ⟨b31, b32, b33⟩ q1, rb_fr (by rw [av]) (by rw [av]) b75 b67 q2, rp_fr ap b0 b1 b9 q3, ⟨e.2, by rw [a3, b26]; exact q4.2⟩, ri_fr (by rw [ai]) b77 b78 q5, ri_fr (by rw [ai]) b77 b78 q6⟩
theorem rl_prop {X X' : TgX} {vm vm' : Vf} {z0 z1 r q : Int32} (h1 : PropP z0 z1 (X.2.1 60 0) (X.2.2.1 3) r (X'.2.2.1 3) ∧ X'.1 = X.1 ∧ X'.2.1 = X.2.1 ∧ X'.2.2.1 6 = X.2.2.1 6 ∧ X'.2.2.2 = X.2.2.2) (h2 : PropP z0 z1 (vm 9 0) (vm 26) q (vm' 26) ∧ (vm' 31 = vm 31 ∧ vm' 32 = vm 32 ∧ vm' 33 = vm 33 ∧ vm' 75 = vm 75 ∧ vm' 67 = vm 67 ∧ vm' 0 = vm 0 ∧ vm' 1 = vm 1 ∧ vm' 9 = vm 9 ∧ vm' 29 = vm 29 ∧ vm' 77 = vm 77 ∧ vm' 78 = vm 78)) (h : Rl X vm) : r.toInt = q.toInt ∧ Rl X' vm' := by
  obtain ⟨s1, av, ap, a6, ai⟩ := h1
  obtain ⟨s2, b31, b32, b33, b75, b67, b0, b1, b9, b29, b77, b78⟩ := h2
  obtain ⟨q1, q2, q3, q4, q5, q6⟩ := h
  have e := prop_eq s1 s2 q3.2.2 q4.2
  exact ⟨e.1, r3_fr ⟨by rw [av], by rw [av], by rw [av]⟩ ⟨b31, b32, b33⟩ q1, rb_fr (by rw [av]) (by rw [av]) b75 b67 q2, rp_fr ap b0 b1 b9 q3, ⟨by rw [a6, b29]; exact q4.1, e.2⟩, ri_fr (by rw [ai]) b77 b78 q5, ri_fr (by rw [ai]) b77 b78 q6⟩
theorem rl_write {X X' : TgX} {vm vm' : Vf} {z0 r q : Int32} (h1 : CntP (0 ≤ z0.toInt ∧ z0.toInt ≤ 4) 30 (X.1 12 0) r (X'.1 12 0) ∧ (X'.1 0 = X.1 0 ∧ X'.1 1 = X.1 1 ∧ X'.1 2 = X.1 2) ∧ X'.1 401 = X.1 401 ∧ X'.2 = X.2) (h2 : CntP (0 ≤ z0.toInt ∧ z0.toInt ≤ 4) 30 (vm 75 0) q (vm' 75 0) ∧ (vm' 31 = vm 31 ∧ vm' 32 = vm 32 ∧ vm' 33 = vm 33 ∧ vm' 67 = vm 67 ∧ vm' 0 = vm 0 ∧ vm' 1 = vm 1 ∧ vm' 9 = vm 9 ∧ vm' 29 = vm 29 ∧ vm' 26 = vm 26 ∧ vm' 77 = vm 77 ∧ vm' 78 = vm 78)) (h : Rl X vm) : r.toInt = q.toInt ∧ Rl X' vm' := by
  obtain ⟨s1, a3, a401, ap⟩ := h1
  obtain ⟨s2, b31, b32, b33, b67, b0, b1, b9, b29, b26, b77, b78⟩ := h2
  obtain ⟨q1, q2, q3, q4, q5, q6⟩ := h
  have e := cnt_eq s1 s2 q2.1
  exact ⟨e.1, r3_fr a3 ⟨b31, b32, b33⟩ q1, ⟨e.2, by rw [a401, b67]; exact q2.2⟩, rp_fr (by rw [ap]) b0 b1 b9 q3, rs_fr (by rw [ap]) (by rw [ap]) b29 b26 q4, ri_fr (by rw [ap]) b77 b78 q5, ri_fr (by rw [ap]) b77 b78 q6⟩
theorem rl_see {X X' : TgX} {vm vm' : Vf} {z0 z1 z2 z3 r q : Int32} (h1 : SeeP z0 z1 z2 z3 (X.2.1 0 0) (X.2.1 1 0) (X.1 401 0) r (X'.1 401 0) ∧ (X'.1 0 = X.1 0 ∧ X'.1 1 = X.1 1 ∧ X'.1 2 = X.1 2) ∧ X'.1 12 = X.1 12 ∧ X'.2 = X.2) (h2 : SeeP z0 z1 z2 z3 (vm 0 0) (vm 1 0) (vm 67 0) q (vm' 67 0) ∧ (vm' 31 = vm 31 ∧ vm' 32 = vm 32 ∧ vm' 33 = vm 33 ∧ vm' 75 = vm 75 ∧ vm' 0 = vm 0 ∧ vm' 1 = vm 1 ∧ vm' 9 = vm 9 ∧ vm' 29 = vm 29 ∧ vm' 26 = vm 26 ∧ vm' 77 = vm 77 ∧ vm' 78 = vm 78)) (h : Rl X vm) : r.toInt = q.toInt ∧ Rl X' vm' := by
  obtain ⟨s1, a3, a12, ap⟩ := h1
  obtain ⟨s2, b31, b32, b33, b75, b0, b1, b9, b29, b26, b77, b78⟩ := h2
  obtain ⟨q1, q2, q3, q4, q5, q6⟩ := h
  have e := see_eq s1 s2 q3.1 q3.2.1 q2.2
  exact ⟨e.1, r3_fr a3 ⟨b31, b32, b33⟩ q1, ⟨by rw [a12, b75]; exact q2.1, e.2⟩, rp_fr (by rw [ap]) b0 b1 b9 q3, rs_fr (by rw [ap]) (by rw [ap]) b29 b26 q4, ri_fr (by rw [ap]) b77 b78 q5, ri_fr (by rw [ap]) b77 b78 q6⟩
theorem rl_tear {X X' : TgX} {vm vm' : Vf} {r q : Int32} (h1 : TearP (X.1 12 0) (X.1 401 0) r (X'.1 12 0) (X'.1 401 0) ∧ (X'.1 0 = X.1 0 ∧ X'.1 1 = X.1 1 ∧ X'.1 2 = X.1 2) ∧ X'.2 = X.2) (h2 : TearP (vm 75 0) (vm 67 0) q (vm' 75 0) (vm' 67 0) ∧ (vm' 31 = vm 31 ∧ vm' 32 = vm 32 ∧ vm' 33 = vm 33 ∧ vm' 0 = vm 0 ∧ vm' 1 = vm 1 ∧ vm' 9 = vm 9 ∧ vm' 29 = vm 29 ∧ vm' 26 = vm 26 ∧ vm' 77 = vm 77 ∧ vm' 78 = vm 78)) (h : Rl X vm) : r.toInt = q.toInt ∧ Rl X' vm' := by
  obtain ⟨s1, a3, ap⟩ := h1
  obtain ⟨s2, b31, b32, b33, b0, b1, b9, b29, b26, b77, b78⟩ := h2
  obtain ⟨q1, q2, q3, q4, q5, q6⟩ := h
  exact ⟨by rw [s1.1, s2.1, q2.1, q2.2], r3_fr a3 ⟨b31, b32, b33⟩ q1, ⟨by rw [s1.2.1, s2.2.1], by rw [s1.2.2, s2.2.2]⟩, rp_fr (by rw [ap]) b0 b1 b9 q3, rs_fr (by rw [ap]) (by rw [ap]) b29 b26 q4, ri_fr (by rw [ap]) b77 b78 q5, ri_fr (by rw [ap]) b77 b78 q6⟩
theorem ri_new {B k : Nat} {w vs vm vm' : Vf} (hw : stE w vs ∧ w 8 0 = 1) (hs : RSt vs vm) (hC : imC (vm' 77) B vm) (hk : vm' 78 k = 1) : RIm B k w vm' := by
  obtain ⟨⟨-, -, -, e3, -, -, e6, -⟩, e8⟩ := hw
  obtain ⟨-, c3, -, -, -, -, c6, -⟩ := hC
  refine ⟨by rw [e8, hk], fun _ => ⟨by rw [e6, hs.1, c6], fun j hj => by rw [e3 j hj, hs.2 j hj, c3 j hj]⟩⟩
theorem ri_old {B B2 k : Nat} {w w' vm vm' : Vf} (hw : w' = w) (hO : imO B2 (vm 77) (vm' 77)) (hk : vm' 78 k = vm 78 k) (hB : B + 38 ≤ B2 ∨ B2 + 38 ≤ B) (h : RIm B k w vm) : RIm B k w' vm' := by
  subst hw
  unfold RIm at h ⊢
  rw [hk]
  refine ⟨h.1, fun q => ⟨?_, fun j hj => ?_⟩⟩
  · rw [hO (B + 36) (by omega)]
    exact (h.2 q).1
  · rw [hO (B + 24 + j) (by omega)]
    exact (h.2 q).2 j hj
theorem rl_keep {X X' : TgX} {vm vm' : Vf} {z0 : Int32} (h1 : KeepC z0 X.2.2.1 X.2.2.2.1 X.2.2.2.2 X'.2.2.2.1 X'.2.2.2.2 ∧ X'.1 = X.1 ∧ X'.2.1 = X.2.1 ∧ X'.2.2.1 = X.2.2.1) (h2 : KeepM z0 vm vm' ∧ (vm' 31 = vm 31 ∧ vm' 32 = vm 32 ∧ vm' 33 = vm 33 ∧ vm' 75 = vm 75 ∧ vm' 67 = vm 67 ∧ vm' 0 = vm 0 ∧ vm' 1 = vm 1 ∧ vm' 9 = vm 9 ∧ vm' 29 = vm 29 ∧ vm' 26 = vm 26)) (h : Rl X vm) : Rl X' vm' := by
  obtain ⟨s1, av, ap, as_⟩ := h1
  obtain ⟨s2, b31, b32, b33, b75, b67, b0, b1, b9, b29, b26⟩ := h2
  obtain ⟨q1, q2, q3, q4, q5, q6⟩ := h
  refine ⟨r3_fr ⟨by rw [av], by rw [av], by rw [av]⟩ ⟨b31, b32, b33⟩ q1, rb_fr (by rw [av]) (by rw [av]) b75 b67 q2, rp_fr ap b0 b1 b9 q3, rs_fr (by rw [as_]) (by rw [as_]) b29 b26 q4, ?_⟩
  rcases s1 with ⟨p1, p2, p3⟩ | ⟨p1, p2, p3⟩ | ⟨p1, p2, p3⟩
  · rcases s2 with ⟨g1, g2⟩ | ⟨g1, -⟩ | ⟨g1, -⟩
    · exact ⟨ri_fr p2 (by rw [g2]) (by rw [g2]) q5, ri_fr p3 (by rw [g2]) (by rw [g2]) q6⟩
    · omega
    · omega
  · rcases s2 with ⟨g1, g2⟩ | ⟨g1, g2, g3, g4⟩ | ⟨g1, -⟩
    · omega
    · exact ⟨ri_new p2 q4 g2 (by rw [g4]; exact updA), ri_old p3 g3 (by rw [g4]; exact updN (by decide)) (by decide) q6⟩
    · omega
  · rcases s2 with ⟨g1, g2⟩ | ⟨g1, -⟩ | ⟨g1, g2, g3, g4⟩
    · omega
    · omega
    · exact ⟨ri_old p3 g3 (by rw [g4]; exact updN (by decide)) (by decide) q5, ri_new p2 q4 g2 (by rw [g4]; exact updA)⟩
theorem go_eq {B k : Nat} {w vs vs' vm vm' : Vf} {r q : Int32} (h1 : GoC1 w vs r vs') (h2 : GoM1 B (vm 78 k) vm q vm') (hi : RIm B k w vm) (hs : RSt vs vm) : r.toInt = q.toInt ∧ RSt vs' vm' := by
  rcases h1 with ⟨p1, p2, p3⟩ | ⟨p1, p2, p3⟩
  · rcases h2 with ⟨g1, g2, g3⟩ | ⟨g1, g2, g3⟩
    · exact ⟨by omega, by rw [p3, g3]; exact hs⟩
    · exact absurd (hi.1.mp p1) g1
  · rcases h2 with ⟨g1, g2, g3⟩ | ⟨g1, g2, g3⟩
    · exact absurd (hi.1.mpr g1) p1
    · obtain ⟨-, -, -, e3, -, -, e6, -⟩ := p3
      obtain ⟨-, c3, -, -, -, -, c6, -⟩ := g3
      have z := hi.2 g1
      exact ⟨by omega, by rw [e6, z.1, c6], fun j hj => by rw [e3 j hj, z.2 j hj, c3 j hj]⟩
theorem rl_goBack {X X' : TgX} {vm vm' : Vf} {z0 r q : Int32} (h1 : GoC z0 X.2.2.1 X.2.2.2.1 X.2.2.2.2 r X'.2.2.1 ∧ X'.1 = X.1 ∧ X'.2.1 = X.2.1 ∧ X'.2.2.2 = X.2.2.2) (h2 : GoM z0 vm q vm' ∧ (vm' 31 = vm 31 ∧ vm' 32 = vm 32 ∧ vm' 33 = vm 33 ∧ vm' 75 = vm 75 ∧ vm' 67 = vm 67 ∧ vm' 0 = vm 0 ∧ vm' 1 = vm 1 ∧ vm' 9 = vm 9 ∧ vm' 77 = vm 77 ∧ vm' 78 = vm 78)) (h : Rl X vm) : r.toInt = q.toInt ∧ Rl X' vm' := by
  obtain ⟨s1, av, ap, ai⟩ := h1
  obtain ⟨s2, b31, b32, b33, b75, b67, b0, b1, b9, b77, b78⟩ := h2
  obtain ⟨q1, q2, q3, q4, q5, q6⟩ := h
  have key : r.toInt = q.toInt ∧ RSt X'.2.2.1 vm' := by
    rcases s1 with ⟨p1, p2, p3⟩ | ⟨p1, p2⟩ | ⟨p1, p2⟩
    · rcases s2 with ⟨g1, g2, g3⟩ | ⟨g1, -⟩ | ⟨g1, -⟩
      · exact ⟨by omega, by rw [p3, g3]; exact q4⟩
      · omega
      · omega
    · rcases s2 with ⟨g1, g2⟩ | ⟨g1, g2⟩ | ⟨g1, -⟩
      · omega
      · exact go_eq p2 g2 q5 q4
      · omega
    · rcases s2 with ⟨g1, g2⟩ | ⟨g1, -⟩ | ⟨g1, g2⟩
      · omega
      · omega
      · exact go_eq p2 g2 q6 q4
  exact ⟨key.1, r3_fr ⟨by rw [av], by rw [av], by rw [av]⟩ ⟨b31, b32, b33⟩ q1, rb_fr (by rw [av]) (by rw [av]) b75 b67 q2, rp_fr ap b0 b1 b9 q3, key.2, ri_fr (by rw [ai]) b77 b78 q5, ri_fr (by rw [ai]) b77 b78 q6⟩
theorem GrM.both {a : Rd St0} {r w r' w' : Int} {ok ok' : St0 → Prop} (h : GrM a r w ok) (h' : GrM a r' w' ok') (hk : okF a) (hr : 0 ≤ r) : ∃ S, ok S ∧ ok' S := by
  rcases h with ⟨k, q, h1, h2, h3⟩ | ⟨S, h1, h2, h3, h4⟩
  · have := hk k q h1
    omega
  · rcases h' with ⟨k', q', g1, g2, g3⟩ | ⟨S', g1, g2, g3, g4⟩
    · rw [h1] at g1
      cases g1
    · rw [h1] at g1
      cases g1
      exact ⟨S, h4, g4⟩
theorem ri_z {B k : Nat} {w vm : Vf} (h1 : w 8 0 = 0) (h2 : vm 78 k = 0) : RIm B k w vm := ⟨by rw [h1, h2], fun q => absurd (by rw [h2]; decide) q⟩
theorem rl_ground {X X' : TgX} {vm vm' : Vf} {r q : Int32} (h1 : (GrM (textF (X.1 0) (X.1 1 0).toInt 251 0 (SI (gr0 vm))) r.toInt (X'.1 2 0).toInt (fun S => ∃ cx ck, Rp S X'.2.1 cx ck) ∧ X'.1 0 = X.1 0 ∧ (X'.1 1 0).toInt = 0) ∧ GrC r X.1 X.2.1 X.2.2.1 X.2.2.2.1 X.2.2.2.2 X'.1 X'.2.1 X'.2.2.1 X'.2.2.2.1 X'.2.2.2.2) (h2 : (((∀ j : Nat, (j : Int) < (vm 32 0).toInt → 0 ≤ (vm 31 j).toInt) → GrM (textF (vm 31) (vm 32 0).toInt 251 0 (SI (gr0 vm))) q.toInt (vm' 33 0).toInt (fun S => RpM0 S vm')) ∧ vm' 31 = vm 31 ∧ (vm' 32 0).toInt = 0) ∧ GrD q vm vm' ∧ vm' 77 = vm 77) (h : Rl X vm) : r.toInt = q.toInt ∧ Rl X' vm' := by
  obtain ⟨⟨⟨⟨a1, a2⟩, a3⟩, a4⟩, q2, q3, q4, q5, q6⟩ := h
  obtain ⟨⟨t1, u1, u2⟩, g1⟩ := h1
  obtain ⟨⟨t2, w1, w2⟩, g2, g77⟩ := h2
  rw [a1, a2] at t1
  have f := t1.fn (t2 a3)
  have r3 : R3 X'.1 vm' := ⟨⟨⟨by rw [u1, w1, a1], Int32.toInt_inj.mp (by omega)⟩, fun j hj => by omega⟩, f.2⟩
  refine ⟨f.1, r3, ?_⟩
  rcases g1 with ⟨c1, cp, cs, ci, cj, cf⟩ | ⟨c1, cs, cb, ci, cj, cf⟩
  · rcases g2 with ⟨d1, df⟩ | ⟨d1, -⟩
    · exact ⟨rb_fr (cf 12 (by decide)) (cf 401 (by decide)) (df 75 (by decide)) (df 67 (by decide)) q2, rp_fr cp (df 0 (by decide)) (df 1 (by decide)) (df 9 (by decide)) q3, rs_fr (by rw [cs]) (by rw [cs]) (df 29 (by decide)) (df 26 (by decide)) q4, ri_fr ci (df 77 (by decide)) (df 78 (by decide)) q5, ri_fr cj (df 77 (by decide)) (df 78 (by decide)) q6⟩
    · omega
  · rcases g2 with ⟨d1, df⟩ | ⟨d1, dz, db, dk⟩
    · omega
    · obtain ⟨S, ⟨cx, ck, e1⟩, e2⟩ := t1.both (t2 a3) (okF.text _ _ _) c1
      obtain ⟨-, -, -, z3, -, -, z6, -⟩ := cs
      obtain ⟨-, -, -, y3, -, -, y6⟩ := dz
      exact ⟨⟨by rw [cb.1, db.2], by rw [cb.2, db.1]⟩, ⟨e1.1.1.trans e2.1, e1.1.2.1.trans e2.2.1, e1.2.2.2.1.1.trans e2.2.2⟩, ⟨by rw [z6, y6], fun j hj => by rw [z3 j hj, y3 j hj]⟩, ri_z ci.1 dk.1, ri_z cj.1 dk.2⟩
