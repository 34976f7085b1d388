/-! ===== two worlds side by side ===== -/
theorem ap_l {α : Type} {a b : List α} {i : Nat} {x : α} (h : a[i]? = some x) : (a ++ b)[i]? = some x := by
  rw [List.getElem?_append_left (List.getElem?_eq_some_iff.mp h).1]
  exact h
theorem ap_r {α : Type} {a b : List α} {i : Nat} {x : α} (h : b[i]? = some x) : (a ++ b)[a.length + i]? = some x := by
  rw [List.getElem?_append_right (Nat.le_add_right _ _), Nat.add_sub_cancel_left]
  exact h
theorem va_P.l {D : va_G} {cl : List vw_C} {a b : va_W} {H : Heap} (h : va_P D cl (a ++ b) H) : va_P D cl a H := fun k q hk => h k q (ap_l hk)
theorem va_P.r {D : va_G} {cl : List vw_C} {a b : va_W} {H : Heap} (h : va_P D cl (a ++ b) H) : va_P D cl b H := fun k q hk => h _ q (ap_r hk)
theorem va_P.sw {D : va_G} {cl : List vw_C} {a b : va_W} {H : Heap} (h : va_P D cl (a ++ b) H) : va_P D cl (b ++ a) H := va_P.app h.r h.l
theorem va_D.l {A : Nat → Prop} {a b : va_W} (h : va_D A (a ++ b)) : va_D A a := ⟨fun i j x y hi hj e => h.1 i j x y (ap_l hi) (ap_l hj) e, fun k q hk => h.2 k q (ap_l hk)⟩
theorem va_D.r {A : Nat → Prop} {a b : va_W} (h : va_D A (a ++ b)) : va_D A b := ⟨fun i j x y hi hj e => Nat.add_left_cancel (h.1 _ _ x y (ap_r hi) (ap_r hj) e), fun k q hk => h.2 _ q (ap_r hk)⟩
theorem va_D.ap {A : Nat → Prop} {a b : va_W} (h : va_D A (a ++ b)) {i j : Nat} {x y : Nat × va_E} (hi : a[i]? = some x) (hj : b[j]? = some y) : x.1 ≠ y.1 := by
  intro e
  have h1 := h.1 _ _ x y (ap_l hi) (ap_r hj) e
  have h2 := (List.getElem?_eq_some_iff.mp hi).1
  omega
theorem va_D.sw {A : Nat → Prop} {a b : va_W} (h : va_D A (a ++ b)) : va_D A (b ++ a) := va_D.app h.r h.l (fun i j x y hi hj e => h.ap hj hi e.symm)
section LW
variable {p : Program} {l : Launch} {e : Env} {R : Room} {s : State} {m : MethodId} {args : Array Value} {below : List Frame} {meth : Method} {c : Code} {H : Heap} {locs : List Loc} {cells slots : Nat} {Q : State → Prop}
variable {y : MethodName} {bytes cc : ByteArray} {maxL nL n index : Nat} {ret : Option FieldType} {ws : List Cond} {rm : Room} {Ts : List Cond} {own C : String} {b : Addr} {As rest st0 : List Value} {pc : Nat} {ls : Array Slot} {E : Ev} {A : Nat → Prop}
/-- a call that writes in the first of two worlds -/
theorem lw_Vi {S : Type} {post : Int32 → S → Prop} {w1 : S → va_W} {wc wr : va_W} (S0 : CallFix p m c cc nL s args Ts own)
    (hM : Met l y ws rm (MtP E H.size (.ref b :: As) wc) (va_Qi post (MtB E (va_A wc H.size) w1) (va_A wc H.size)) 0 0 (va_A wc H.size)) (cw : CallW R s args own C index y bytes maxL ret ws rm 0 0 n)
    (hE : EN E A s s.heap) (hS : va_S A s.heap H locs) (hA : ∀ q, s.heap.size ≤ q → A q) (hP : va_P (eD E) vwCl (wc ++ wr) H) (hD : va_D A (wc ++ wr)) {ci : Nat} {fs : List Value} {r : vw_C} (hc : vwCl[ci]? = some r) (he : wc[0]? = some (b, .inr (ci, fs))) (hrC : r.1 = C)
    (hn : As.length = n) (hsize : ls.size = nL) (hst : st0 = As.reverse ++ .ref b :: rest) (hW : (rest.map fun v => v.category).sum ≤ 8) (hdg : decode cc pc = .ok (.invokevirtual index, 3)) (hf : cells ≤ R.cells ∧ slots ≤ R.slots)
    (kk : ∀ (r : Int32) (u : S) (H1 : Heap) (locs1 : List Loc), post r u → va_P (eD E) vwCl (w1 u ++ wr) H1 → va_D A (w1 u ++ wr) → va_S A s.heap H1 locs1 → W p l e R s m args below meth c H1 locs1 cells slots Q (F0 m (pc + 3) ls (.int r :: rest))) : W p l e R s m args below meth c H locs cells slots Q (F0 m pc ls st0) := by
  subst hrC
  have hPc : va_P (eD E) vwCl wc H := hP.l
  have hDc := hD.l
  have hFc : ∀ q, va_A wc H.size q → A q := by
    intro q h
    rcases h with ⟨k, z, h⟩ | h
    · exact hDc.2 k (q, z) h
    · exact hA q (Nat.le_trans hS.1 h)
  refine va_calli (va_runV S0 hM cw ⟨MtP.blind, va_recv hE.1 hPc hc he, fun U hU hW => ⟨rfl, by rw [hU], by rw [hU]; exact EN.warm hW ((hE.kept hS.2.1).narrow hFc), by rw [hU]; exact hPc, hDc.weaken (fun _ _ _ _ => trivial)⟩⟩ rfl hn hsize hst (lv_room hW) hdg hf) hS (fun q _ h => hFc q h) hFc (fun r u t H1 locs1 ht hvm hw hB hz1 hk1 hS1 => ?_)
  obtain ⟨hP1, hD1⟩ := hB
  rw [ht] at hP1
  have hap : ∀ (k : Nat) (q : Nat × va_E), wr[k]? = some q → ¬ va_A wc H.size q.1 := by
    intro k q hq h
    rcases h with ⟨k2, z, h⟩ | h
    · exact hD.ap h hq rfl
    · exact absurd (hP.r k q hq).lt (Nat.not_lt.mpr h)
  exact kk r u H1 locs1 hw (va_P.app hP1 (hP.r.kept (fun k q hq => hk1 q.1 (hP.r k q hq).lt (hap k q hq)))) (va_D.app (hD1.weaken (fun k q _ h => hFc q.1 h)) hD.r (fun i j x z hx hz hxz => hap j z hz (hxz ▸ hD1.2 i x hx))) hS1
end LW
/-- a world that a method may be called on, and is one of the kind again -/
def CalM {τ : Type} (l : Launch) (y : MethodName) (ws : List Cond) (rm : Room) (E : Ev) (q ci : Nat) (As : List Value) (TW : τ → va_W → Prop) (Po : τ → Int32 → τ → Prop) : Prop :=
  ∀ (sz : Nat) (X : τ) (w : va_W), TW X w → (∃ fs : List Value, w[0]? = some (q, .inr (ci, fs))) ∧ ∃ (S : Type) (post : Int32 → S → Prop) (w1 : S → va_W), Met l y ws rm (MtP E sz (.ref q :: As) w) (va_Qi post (MtB E (va_A w sz) w1) (va_A w sz)) 0 0 (va_A w sz) ∧ ∀ (r : Int32) (u : S), post r u → ∃ X' : τ, TW X' (w1 u) ∧ Po X r X'
def CalR {τ : Type} (l : Launch) (y : MethodName) (ws : List Cond) (rm : Room) (E : Ev) (A : Nat → Prop) (q ci : Nat) (As : List Value) (TW : τ → va_W → Prop) (Po : τ → Int32 → Prop) : Prop :=
  ∀ (X : τ) (w : va_W), TW X w → ∃ (wc : va_W) (is : List Nat) (fs : List Value) (post : Int32 → Prop), is.filterMap (fun i => w[i]?) = wc ∧ wc[0]? = some (q, .inr (ci, fs)) ∧ Met l y ws rm (RdP E A (.ref q :: As) wc) (vp_Si post) 0 0 (fun _ => False) ∧ ∀ r, post r → Po X r
abbrev TgX : Type := Vf × Vf × Vf × Vf × Vf
def TgW (E : Ev) (q : Nat) (X : TgX) (w : va_W) : Prop := ∃ (a : Nat → Nat) (cz0 : Nat) (cz1 : Nat) (rt : Value) (rp : Value) (aq : Nat → Nat) (vq : Vf) (ap : Nat → Nat) (as_ : Nat → Nat) (ai : Nat → Nat) (bi : Nat → Nat), w = tgL E a X.1 cz0 cz1 rt rp aq vq ap X.2.1 as_ X.2.2.1 ai X.2.2.2.1 bi X.2.2.2.2 ∧ a 99 = q ∧ TgA X.1 X.2.1 vq X.2.2.1 X.2.2.2.1 X.2.2.2.2
def MdW (E : Ev) (q : Nat) (vm : Vf) (w : va_W) : Prop := ∃ am : Nat → Nat, w = mdL E am vm ∧ am 0 = q ∧ MdI vm
def Rl (X : TgX) (vm : Vf) : Prop := ((X.1 0 = vm 31 ∧ X.1 1 0 = vm 32 0) ∧ (∀ j : Nat, (j : Int) < (vm 32 0).toInt → 0 ≤ (vm 31 j).toInt)) ∧ (X.1 2 0).toInt = (vm 33 0).toInt
def LwJ (E : Ev) (A : Nat → Prop) (qt qm : Nat) (X : TgX) (vm : Vf) (H : Heap) : Prop := ∃ wt wm : va_W, TgW E qt X wt ∧ MdW E qm vm wm ∧ va_P (eD E) vwCl (wt ++ wm) H ∧ va_D A (wt ++ wm)
def LwI (E : Ev) (A : Nat → Prop) (qt qm : Nat) (H : Heap) : Prop := ∃ (X : TgX) (vm : Vf), Rl X vm ∧ LwJ E A qt qm X vm H
def LwC (p : Program) (s : State) (m : MethodId) (c : Code) (b L : Nat) (xs : Nat → Int32) (E : Ev) (A : Nat → Prop) : Prop :=
  CallFix p m c cL_law 4 s #[Value.ref b] [] RL ∧ EN E A s s.heap ∧ (∀ q, s.heap.size ≤ q → A q) ∧ va_X b L xs s s.heap ∧ b < s.heap.size ∧ ¬ A b ∧ L ≤ 448 ∧ ∀ w ∈ lw_tbl, w.before #[Value.ref b] s = true
abbrev lwl (b qt qm : Nat) (i : Int32) : List (Nat × Value) := [(0, .ref b), (1, .ref qt), (2, .ref qm), (3, .int i)]
section LC
variable {p : Program} {l : Launch} {e : Env} {s : State} {m : MethodId} {below : List Frame} {meth : Method} {c : Code} {H : Heap} {locs : List Loc} {cells slots : Nat} {Q : State → Prop}
variable {y : MethodName} {bytes : ByteArray} {maxL n index : Nat} {ret : Option FieldType} {ws : List Cond} {rm : Room} {b L qt qm : Nat} {xs : Nat → Int32} {As rest st0 : List Value} {pc : Nat} {ls : Array Slot} {E : Ev} {A : Nat → Prop}
theorem lw_arg (C : LwC p s m c b L xs E A) (hS : va_S A s.heap H locs) {i v : Int32} (hl : lv_has ls 4 (lwl b qt qm i)) (hi : 0 ≤ i.toInt ∧ i.toInt + 7 ≤ L) {k : Int} (hk : Int32.ofInt k = v) (hv : 0 ≤ v.toInt ∧ v.toInt ≤ 6) (d0 : decode cL_law pc = .ok (.aload_n 0, 1)) (d1 : decode cL_law (pc + 1) = .ok (.iload_n 3, 1)) (d2 : decode cL_law (pc + 1 + 1) = .ok (.iconst k, 1)) (d3 : decode cL_law (pc + 1 + 1 + 1) = .ok (.iadd, 1)) (d4 : decode cL_law (pc + 1 + 1 + 1 + 1) = .ok (.iaload, 1))
    (kk : W p l e room_1 s m #[Value.ref b] below meth c H locs cells slots Q (F0 m (pc + 1 + 1 + 1 + 1 + 1) ls (.int (xs (i + v).toNatClampNeg) :: rest))) : W p l e room_1 s m #[Value.ref b] below meth c H locs cells slots Q (F0 m pc ls rest) := by
  obtain ⟨⟨hx, hb, hml, hown, hts⟩, hE, hA, hX, hbl, hbA, hL, hw⟩ := C
  refine lv_aload_n hx hb d0 rfl (lv_at hl 0 rfl) ?_
  refine lv_iload_n hx hb d1 rfl (lv_at hl 3 rfl) ?_
  refine lv_iconst (v := v) hx hb d2 hk ?_
  refine lv_iadd hx hb d3 ?_
  have e9 : (i + v).toInt = i.toInt + v.toInt := i_add rfl (by omega)
  exact va_sld hx hb hX hbl hbA hS (i_in (by omega) (by omega)) d4 kk
theorem lw_arg6 (C : LwC p s m c b L xs E A) (hS : va_S A s.heap H locs) {i v : Int32} (hl : lv_has ls 4 (lwl b qt qm i)) (hi : 0 ≤ i.toInt ∧ i.toInt + 7 ≤ L) {k : Int} (hk : (Int8.ofInt k).toInt32 = v) (hv : 0 ≤ v.toInt ∧ v.toInt ≤ 6) (d0 : decode cL_law pc = .ok (.aload_n 0, 1)) (d1 : decode cL_law (pc + 1) = .ok (.iload_n 3, 1)) (d2 : decode cL_law (pc + 1 + 1) = .ok (.bipush k, 2)) (d3 : decode cL_law (pc + 1 + 1 + 2) = .ok (.iadd, 1)) (d4 : decode cL_law (pc + 1 + 1 + 2 + 1) = .ok (.iaload, 1))
    (kk : W p l e room_1 s m #[Value.ref b] below meth c H locs cells slots Q (F0 m (pc + 1 + 1 + 2 + 1 + 1) ls (.int (xs (i + v).toNatClampNeg) :: rest))) : W p l e room_1 s m #[Value.ref b] below meth c H locs cells slots Q (F0 m pc ls rest) := by
  obtain ⟨⟨hx, hb, hml, hown, hts⟩, hE, hA, hX, hbl, hbA, hL, hw⟩ := C
  refine lv_aload_n hx hb d0 rfl (lv_at hl 0 rfl) ?_
  refine lv_iload_n hx hb d1 rfl (lv_at hl 3 rfl) ?_
  refine lv_bipush (v := v) hx hb d2 hk ?_
  refine lv_iadd hx hb d3 ?_
  have e9 : (i + v).toInt = i.toInt + v.toInt := i_add rfl (by omega)
  exact va_sld hx hb hX hbl hbA hS (i_in (by omega) (by omega)) d4 kk
theorem lw_tM {X : TgX} {vm : Vf} {Po : TgX → Int32 → TgX → Prop} (C : LwC p s m c b L xs E A) (hS : va_S A s.heap H locs) (I : LwJ E A qt qm X vm H) (hM : CalM l y ws rm E qt 9 As (TgW E qt) Po) (cw : CallW room_1 s #[Value.ref b] RL RX9 index y bytes maxL ret ws rm 0 0 n)
    (hn : As.length = n) (hsize : ls.size = 4) (hst : st0 = As.reverse ++ .ref qt :: rest) (hW : (rest.map fun v => v.category).sum ≤ 8) (hdg : decode cL_law pc = .ok (.invokevirtual index, 3)) (hf : cells ≤ room_1.cells ∧ slots ≤ room_1.slots)
    (kk : ∀ (r : Int32) (X' : TgX) (H1 : Heap) (locs1 : List Loc), Po X r X' → va_S A s.heap H1 locs1 → LwJ E A qt qm X' vm H1 → W p l e room_1 s m #[Value.ref b] below meth c H1 locs1 cells slots Q (F0 m (pc + 3) ls (.int r :: rest))) : W p l e room_1 s m #[Value.ref b] below meth c H locs cells slots Q (F0 m pc ls st0) := by
  obtain ⟨wt, wm, ht, hm, hP, hD⟩ := I
  obtain ⟨⟨fs, hfs⟩, S, post, w1, hMet, hpo⟩ := hM H.size X wt ht
  exact lw_Vi C.1 hMet cw C.2.1 hS C.2.2.1 hP hD rfl hfs rfl hn hsize hst hW hdg hf (fun r u H1 locs1 h hP hD hS => by
    obtain ⟨X', h1, h2⟩ := hpo r u h
    exact kk r X' H1 locs1 h2 hS ⟨w1 u, wm, h1, hm, hP, hD⟩)
theorem lw_mM {X : TgX} {vm : Vf} {Po : Vf → Int32 → Vf → Prop} (C : LwC p s m c b L xs E A) (hS : va_S A s.heap H locs) (I : LwJ E A qt qm X vm H) (hM : CalM l y ws rm E qm 10 As (MdW E qm) Po) (cw : CallW room_1 s #[Value.ref b] RL RX10 index y bytes maxL ret ws rm 0 0 n)
    (hn : As.length = n) (hsize : ls.size = 4) (hst : st0 = As.reverse ++ .ref qm :: rest) (hW : (rest.map fun v => v.category).sum ≤ 8) (hdg : decode cL_law pc = .ok (.invokevirtual index, 3)) (hf : cells ≤ room_1.cells ∧ slots ≤ room_1.slots)
    (kk : ∀ (r : Int32) (vm' : Vf) (H1 : Heap) (locs1 : List Loc), Po vm r vm' → va_S A s.heap H1 locs1 → LwJ E A qt qm X vm' H1 → W p l e room_1 s m #[Value.ref b] below meth c H1 locs1 cells slots Q (F0 m (pc + 3) ls (.int r :: rest))) : W p l e room_1 s m #[Value.ref b] below meth c H locs cells slots Q (F0 m pc ls st0) := by
  obtain ⟨wt, wm, ht, hm, hP, hD⟩ := I
  obtain ⟨⟨fs, hfs⟩, S, post, w1, hMet, hpo⟩ := hM H.size vm wm hm
  exact lw_Vi C.1 hMet cw C.2.1 hS C.2.2.1 hP.sw hD.sw rfl hfs rfl hn hsize hst hW hdg hf (fun r u H1 locs1 h hP hD hS => by
    obtain ⟨vm', h1, h2⟩ := hpo r u h
    exact kk r vm' H1 locs1 h2 hS ⟨wt, w1 u, ht, h1, hP.sw, hD.sw⟩)
theorem lw_tR {X : TgX} {vm : Vf} {Po : TgX → Int32 → Prop} (C : LwC p s m c b L xs E A) (hS : va_S A s.heap H locs) (I : LwJ E A qt qm X vm H) (hM : CalR l y ws rm E A qt 9 As (TgW E qt) Po) (cw : CallW room_1 s #[Value.ref b] RL RX9 index y bytes maxL ret ws rm 0 0 n)
    (hn : As.length = n) (hsize : ls.size = 4) (hst : st0 = As.reverse ++ .ref qt :: rest) (hW : (rest.map fun v => v.category).sum ≤ 8) (hdg : decode cL_law pc = .ok (.invokevirtual index, 3)) (hf : cells ≤ room_1.cells ∧ slots ≤ room_1.slots)
    (kk : ∀ r : Int32, Po X r → W p l e room_1 s m #[Value.ref b] below meth c H locs cells slots Q (F0 m (pc + 3) ls (.int r :: rest))) : W p l e room_1 s m #[Value.ref b] below meth c H locs cells slots Q (F0 m pc ls st0) := by
  obtain ⟨wt, wm, ht, hm, hP, hD⟩ := I
  obtain ⟨wc, is, fs, post, his, hfs, hMet, hpo⟩ := hM X wt ht
  exact rd_V C.1 hMet cw (C.2.1.kept hS.2.1) (hP.l.sub is his) rfl hfs rfl hn hsize hst hW hdg hf (fun r h => kk r (hpo r h))
theorem lw_mR {X : TgX} {vm : Vf} {Po : Vf → Int32 → Prop} (C : LwC p s m c b L xs E A) (hS : va_S A s.heap H locs) (I : LwJ E A qt qm X vm H) (hM : CalR l y ws rm E A qm 10 As (MdW E qm) Po) (cw : CallW room_1 s #[Value.ref b] RL RX10 index y bytes maxL ret ws rm 0 0 n)
    (hn : As.length = n) (hsize : ls.size = 4) (hst : st0 = As.reverse ++ .ref qm :: rest) (hW : (rest.map fun v => v.category).sum ≤ 8) (hdg : decode cL_law pc = .ok (.invokevirtual index, 3)) (hf : cells ≤ room_1.cells ∧ slots ≤ room_1.slots)
    (kk : ∀ r : Int32, Po vm r → W p l e room_1 s m #[Value.ref b] below meth c H locs cells slots Q (F0 m (pc + 3) ls (.int r :: rest))) : W p l e room_1 s m #[Value.ref b] below meth c H locs cells slots Q (F0 m pc ls st0) := by
  obtain ⟨wt, wm, ht, hm, hP, hD⟩ := I
  obtain ⟨wc, is, fs, post, his, hfs, hMet, hpo⟩ := hM vm wm hm
  exact rd_V C.1 hMet cw (C.2.1.kept hS.2.1) (hP.r.sub is his) rfl hfs rfl hn hsize hst hW hdg hf (fun r h => kk r (hpo r h))
end LC
theorem rl_fr {X X2 : TgX} {vm vm2 : Vf} (h1 : X2.1 0 = X.1 0 ∧ X2.1 1 = X.1 1 ∧ X2.1 2 = X.1 2) (h2 : vm2 31 = vm 31 ∧ vm2 32 = vm 32 ∧ vm2 33 = vm 33) (h : Rl X vm) : Rl X2 vm2 := by
  unfold Rl at h ⊢
  rw [h1.1, h1.2.1, h1.2.2, h2.1, h2.2.1, h2.2.2]
  exact h
theorem rl_feed {X X2 : TgX} {vm vm2 : Vf} {x : Int32} (h1 : FeedR x (X.1 0) (X.1 1 0) (X2.1 0) (X2.1 1 0) ∧ X2.1 2 = X.1 2) (h2 : FeedR x (vm 31) (vm 32 0) (vm2 31) (vm2 32 0) ∧ vm2 33 = vm 33) (h : Rl X vm) : Rl X2 vm2 := by
  obtain ⟨⟨⟨a1, a2⟩, a3⟩, a4⟩ := h
  obtain ⟨h1, e1⟩ := h1
  obtain ⟨h2, e2⟩ := h2
  rw [a1, a2] at h1
  have a4' : (X2.1 2 0).toInt = (vm2 33 0).toInt := by rw [e1, e2]; exact a4
  rcases h1 with ⟨b1, b2, b3⟩ | ⟨b1, b2, b3, b4⟩
  · rcases h2 with ⟨c1, c2, c3⟩ | ⟨c1, c2, c3, c4⟩
    · refine ⟨⟨⟨by rw [b2, c2], by rw [b1, c1]⟩, ?_⟩, a4'⟩
      rw [c1, c2]
      exact a3
    · omega
  · rcases h2 with ⟨c1, c2, c3⟩ | ⟨c1, c2, c3, c4⟩
    · omega
    · refine ⟨⟨⟨by rw [b3, c3], Int32.toInt_inj.mp (by omega)⟩, fun j hj => ?_⟩, a4'⟩
      rw [c3]
      by_cases q : j = (vm 32 0).toNatClampNeg
      · subst q
        rw [updA]
        exact c1.1
      · rw [updN q]
        refine a3 j ?_
        have q2 : j ≠ (vm 32 0).toInt.toNat := q
        omega
theorem rl_ground {X X2 : TgX} {vm vm2 : Vf} {r q : Int} (h1 : GrM (textF (X.1 0) (X.1 1 0).toInt 251 0 (SI (gr0 vm))) r (X2.1 2 0).toInt (fun _ => True) ∧ X2.1 0 = X.1 0 ∧ (X2.1 1 0).toInt = 0) (h2 : ((∀ j : Nat, (j : Int) < (vm 32 0).toInt → 0 ≤ (vm 31 j).toInt) → GrM (textF (vm 31) (vm 32 0).toInt 251 0 (SI (gr0 vm))) q (vm2 33 0).toInt (fun _ => True)) ∧ vm2 31 = vm 31 ∧ (vm2 32 0).toInt = 0) (h : Rl X vm) : r = q ∧ Rl X2 vm2 := by
  obtain ⟨⟨⟨a1, a2⟩, a3⟩, a4⟩ := h
  obtain ⟨h1, b1, b2⟩ := h1
  obtain ⟨h2, c1, c2⟩ := h2
  rw [a1, a2] at h1
  have f := h1.fn (h2 a3)
  refine ⟨f.1, ⟨⟨by rw [b1, c1, a1], Int32.toInt_inj.mp (by omega)⟩, fun j hj => by omega⟩, f.2⟩
theorem rl_fault {X : TgX} {vm : Vf} {r q : Int32} (h1 : r = X.1 2 0) (h2 : q = vm 33 0) (h : Rl X vm) : r.toInt = q.toInt ∧ Rl X vm := ⟨by rw [h1, h2]; exact h.2, h⟩
