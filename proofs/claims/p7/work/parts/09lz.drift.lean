/-! ===== days by draws: a step of the reference's values, and both sides along it ===== -/
def lod (x : Int32) : Int32 := if x ≤ 90 then x else 90
theorem lod_min {y : Int32} : (if y < 90 then y else 90) = lod y := by
  unfold lod
  by_cases h : y < 90
  · rw [if_pos h, if_pos (Int32.le_of_lt h)]
  · rw [if_neg h]
    by_cases h2 : y ≤ 90
    · rw [if_pos h2]
      have q1 := i_nlt h
      have q2 := i_le h2
      exact i_eqr (by omega)
    · rw [if_neg h2]
theorem lod_b {a d : Int32} (ha : 0 ≤ a.toInt ∧ a.toInt ≤ 90) (hd : 0 ≤ d.toInt ∧ d.toInt ≤ 30) : 0 ≤ (lod (a + d)).toInt ∧ (lod (a + d)).toInt ≤ 90 := by
  have n90 : (90 : Int32).toInt = 90 := by decide
  have t := i_add (z := a + d) rfl (by omega)
  unfold lod
  by_cases h : a + d ≤ 90
  · rw [if_pos h]
    have q := i_le h
    omega
  · rw [if_neg h]
    omega
theorem nxt_nn (s : Int32) : 0 ≤ (nxt s).toInt := by
  unfold nxt
  rw [and31]
  exact Int.emod_nonneg _ (by decide)
theorem dval_b {z n : Int32} (hz : 0 ≤ z.toInt) (hn : 1 ≤ n.toInt) : 0 ≤ (dval z n).toInt ∧ (dval z n).toInt < n.toInt := by
  have td := i_div (z := z / 65536) rfl hz (by decide)
  have tr := i_rem (z := z / 65536 - z / 65536 / n * n) rfl td.2.1 (by omega)
  unfold dval
  exact ⟨tr.2.1, tr.2.2.1⟩
theorem cel_eq {r w d : Int32} (h : r.toInt = w.toInt * d.toInt) (hw : 0 ≤ w.toInt ∧ w.toInt ≤ 6) (hd : 0 ≤ d.toInt ∧ d.toInt ≤ 6) : r = w * d := i_eqr (by rw [h, (i_mul66 (z := w * d) rfl hw hd).1])
theorem pair_cls {vm : Vf} {r x w : Int32} (h : r = (x - x / w * w) * 10 + x / w) (e : w = vm 0 0) : r = mPair vm x := by
  unfold mPair
  rw [h, e, Int32.mul_comm 10]
def dr1 (v : Vf) : Vf := up2 v 30 0 (nxt (v 30 0))
def rlV (v : Vf) (tt : Int32) : Vf := up2 (up2 (up2 v 23 0 (v 23 0 + 1)) 28 0 (mHeld (v 28 0 + mCost v (v 27 0) tt (v 23 0 + 1)))) 27 0 tt
noncomputable def drG (v : Vf) : Int32 := mGo v (v 27 0) (dval (v 30 0) 5) (v 23 0 + 1)
noncomputable def drT (v : Vf) : Int32 := if (drG v).toInt < 0 then v 27 0 else drG v
def drL (v : Vf) (c : Int32) : Vf := up2 (dr1 v) 25 c.toNatClampNeg (lod (v 25 c.toNatClampNeg + dval (nxt (v 30 0)) 30))
def drW (v : Vf) : Vf := if dval (v 30 0) 12 = 0 then drL (dr1 v) (dval (nxt (v 30 0)) (v 0 0 * v 1 0)) else v
noncomputable def drS (v : Vf) : Vf := dr1 (rlV (dr1 v) (drT (dr1 v)))
noncomputable def drf (v : Vf) : Vf := drW (drS v)
noncomputable def drN (v : Vf) : Nat → Vf
  | 0 => v
  | n + 1 => drf (drN v n)
abbrev lDr : List Nat := [23, 25, 27, 28, 30]
theorem dr1_fr {v w : Vf} (h : fr lDr v w) : fr lDr v (dr1 w) := h.up (by decide)
theorem rlV_fr {v w : Vf} {tt : Int32} (h : fr lDr v w) : fr lDr v (rlV w tt) := ((h.up (by decide)).up (by decide)).up (by decide)
theorem drL_fr {v w : Vf} {c : Int32} (h : fr lDr v w) : fr lDr v (drL w c) := (dr1_fr h).up (by decide)
theorem drS_fr {v w : Vf} (h : fr lDr v w) : fr lDr v (drS w) := dr1_fr (rlV_fr (dr1_fr h))
theorem drf_fr {v w : Vf} (h : fr lDr v w) : fr lDr v (drf w) := by
  unfold drf drW
  split
  · exact drL_fr (dr1_fr (drS_fr h))
  · exact drS_fr h
theorem drN_fr {v : Vf} : ∀ n : Nat, fr lDr v (drN v n)
  | 0 => fr.rf
  | n + 1 => drf_fr (drN_fr n)
/-! the reference: all that it has, but for places of rows of one -/
def Ag (v w : Vf) : Prop := sameP v w ∧ w 23 0 = v 23 0 ∧ w 27 0 = v 27 0 ∧ w 28 0 = v 28 0 ∧ w 30 0 = v 30 0
theorem Ag.rf {v : Vf} : Ag v v := ⟨fun _ _ _ _ _ => rfl, rfl, rfl, rfl, rfl⟩
theorem Ag.draw {v w w' : Vf} (h : Ag v w) (hf : fr [30] w w') (e : w' 30 0 = nxt (w 30 0)) : Ag (dr1 v) w' := by
  refine ⟨fun t h1 h2 h3 h4 => ?_, ?_, ?_, ?_, ?_⟩
  · rw [hf t (fun q => h4 (List.mem_singleton.mp q)), h.1 t h1 h2 h3 h4]
    exact (up2_ne h4).symm
  · rw [hf 23 (by decide)]
    exact h.2.1
  · rw [hf 27 (by decide)]
    exact h.2.2.1
  · rw [hf 28 (by decide)]
    exact h.2.2.2.1
  · rw [e, h.2.2.2.2]
    rfl
theorem Ag.roll {v w w' : Vf} {tt r : Int32} (h : Ag v w) (hf : fr [23, 27, 28] w w') (e1 : w' 23 0 = w 23 0 + 1) (e2 : w' 27 0 = tt) (e3 : w' 28 0 = mHeld (w 28 0 + r)) (er : r = mCost w (w 27 0) tt (w 23 0 + 1)) : Ag (rlV v tt) w' := by
  refine ⟨fun t h1 h2 h3 h4 => ?_, ?_, ?_, ?_, ?_⟩
  · have hn : t ∉ [23, 27, 28] := fun q => by
      rcases List.mem_cons.mp q with q | q
      · exact h1 q
      · rcases List.mem_cons.mp q with q | q
        · exact h2 q
        · exact h3 (List.mem_singleton.mp q)
    rw [hf t hn, h.1 t h1 h2 h3 h4]
    exact ((up2_ne h2).trans ((up2_ne h3).trans (up2_ne h1))).symm
  · rw [e1, h.2.1]
    rfl
  · rw [e2]
    rfl
  · rw [e3, er, h.2.2.2.1, h.2.2.1, h.2.1, mCost_fr h.1]
    rfl
  · rw [hf 30 (by decide)]
    exact h.2.2.2.2
theorem Ag.load {v w w' : Vf} {k : Nat} {x : Int32} (h : Ag v w) (e : up2 w 25 k x = w') : Ag (up2 v 25 k x) w' := by
  subst e
  refine ⟨fun t h1 h2 h3 h4 => ?_, h.2.1, h.2.2.1, h.2.2.2.1, h.2.2.2.2⟩
  show cond (Nat.beq t 25) (upd (w t) k x) (w t) = cond (Nat.beq t 25) (upd (v t) k x) (v t)
  rw [h.1 t h1 h2 h3 h4]
theorem Ag.goes {v w : Vf} {r c way t : Int32} (h : Ag v w) (hr : r = mGo w c way t) (ec : c = v 27 0) (ew : way = dval (v 30 0) 5) (et : t = w 23 0 + 1) : r = drG v := by
  rw [hr, mGo_fr h.1, ec, ew, et, h.2.1]
  rfl
theorem Ag.takes {v w w' : Vf} {c x l : Int32} {n : Int32} (h : Ag v w) (hz : dval (v 30 0) 12 = 0) (hc : c = dval (nxt (w 30 0)) n) (hn : n = w 0 0 * w 1 0) {u : Vf} (h1 : Ag (dr1 v) u) {y : Vf} (h2 : Ag (dr1 (dr1 v)) y) (hx : x = lod l) (hl : l = u 25 c.toNatClampNeg + dval (nxt (u 30 0)) 30) (e : up2 y 25 c.toNatClampNeg x = w') : Ag (drW v) w' := by
  have q := h2.load e
  have e0 : w 0 = v 0 := h.1 0 (by decide) (by decide) (by decide) (by decide)
  have e1 : w 1 = v 1 := h.1 1 (by decide) (by decide) (by decide) (by decide)
  have hc2 : c = dval (nxt (v 30 0)) (v 0 0 * v 1 0) := by rw [hc, hn, h.2.2.2.2, e0, e1]
  have hl2 : l = dr1 v 25 c.toNatClampNeg + dval (nxt (dr1 v 30 0)) 30 := by rw [hl, h1.1 25 (by decide) (by decide) (by decide) (by decide), h1.2.2.2.2]
  unfold drW
  rw [if_pos hz, ← hc2]
  unfold drL
  rw [← hl2, ← hx]
  exact q
theorem Ag.not {v w : Vf} (h : Ag v w) (hz : ¬ dval (v 30 0) 12 = 0) : Ag (drW v) w := by
  unfold drW
  rw [if_neg hz]
  exact h
/-! the class -/
def keepP (v w : Vf) : Prop := ∀ t, t ≤ 22 → w t = v t
theorem rqp_fr {v w vp : Vf} (h : keepP v w) (q : RqP v vp) : RqP w vp := by
  unfold RqP RqG RqMs RqM RqH RqK RqW RqD at q ⊢
  rw [h 0 (by decide), h 1 (by decide), h 2 (by decide), h 3 (by decide), h 4 (by decide), h 5 (by decide), h 6 (by decide), h 7 (by decide), h 8 (by decide), h 9 (by decide), h 10 (by decide), h 11 (by decide), h 12 (by decide), h 13 (by decide), h 14 (by decide), h 15 (by decide), h 16 (by decide), h 17 (by decide), h 18 (by decide), h 19 (by decide), h 20 (by decide), h 21 (by decide)]
  exact q
theorem okm_fr {v w : Vf} (h : keepP v w) (q : okM v) : okM w := by
  unfold okM at q ⊢
  rw [h 0 (by decide), h 1 (by decide), h 4 (by decide), h 5 (by decide), h 9 (by decide), h 10 (by decide), h 11 (by decide), h 12 (by decide), h 13 (by decide), h 14 (by decide), h 16 (by decide), h 17 (by decide), h 22 (by decide)]
  exact q
theorem mh_seed {v : Vf} {x : Int32} (h : MdH v) (hx : 0 ≤ x.toInt) : MdH (up2 v 30 0 x) := ⟨h.1, h.2.1, h.2.2.1, h.2.2.2.1, h.2.2.2.2.1, ⟨h.2.2.2.2.2.1.1, h.2.2.2.2.2.1.2.1, h.2.2.2.2.2.1.2.2.1, h.2.2.2.2.2.1.2.2.2.1, h.2.2.2.2.2.1.2.2.2.2.1, hx⟩, h.2.2.2.2.2.2⟩
theorem mh_roll {v : Vf} {t p c : Int32} (h : MdH v) (ht : 0 ≤ t.toInt ∧ t.toInt ≤ 900000) (hc : 0 ≤ c.toInt ∧ c.toInt ≤ 23) : MdH (up2 (up2 (up2 v 23 0 t) 28 0 p) 27 0 c) := ⟨h.1, h.2.1, h.2.2.1, h.2.2.2.1, h.2.2.2.2.1, ⟨ht, h.2.2.2.2.2.1.2.1, h.2.2.2.2.2.1.2.2.1, hc, h.2.2.2.2.2.1.2.2.2.2⟩, h.2.2.2.2.2.2⟩
theorem mh_load {v : Vf} {x : Int32} {j : Nat} (h : MdH v) (hx : 0 ≤ x.toInt ∧ x.toInt ≤ 90) : MdH (up2 v 25 j x) := ⟨h.1, h.2.1, h.2.2.1, h.2.2.2.1, h.2.2.2.2.1, ⟨h.2.2.2.2.2.1.1, h.2.2.2.2.2.1.2.1, upd_b h.2.2.2.2.2.1.2.2.1 hx.1 hx.2, h.2.2.2.2.2.1.2.2.2⟩, h.2.2.2.2.2.2⟩
theorem RW.draw {vm vp vs vs' : Vf} {z : Int32} (h : RW vm vp vs) (e : vs' = up2 vs 7 0 z) (ez : z = nxt (vs 7 0)) : RW (dr1 vm) vp vs' := by
  obtain ⟨hP, hL, hS, hH, hO⟩ := h
  have e7 : vs 7 0 = vm 30 0 := hL.2.2.2.2.2.2.2
  subst e
  have kp : keepP vm (dr1 vm) := fun t ht => up2_ne (by omega)
  refine ⟨rqp_fr kp hP, ⟨hL.1, hL.2.1, hL.2.2.1, hL.2.2.2.1, hL.2.2.2.2.1, hL.2.2.2.2.2.1, hL.2.2.2.2.2.2.1, ?_⟩, hS, mh_seed hH (nxt_nn _), okm_fr kp hO⟩
  show z = nxt (vm 30 0)
  rw [ez, e7]
theorem RW.roll {vm vp vs vs' : Vf} {tt push : Int32} (h : RW vm vp vs) (hc : cW vm tt) (hs : (vm 23 0).toInt ≤ 899999) (hf : fr [0, 4, 5] vs vs') (e4 : vs' 4 0 = tt) (e0 : vs' 0 0 = vs 0 0 + 1) (e5 : vs' 5 0 = mHeld (vs 5 0 + push)) (ep : push = mCost vm (vm 27 0) tt (vm 23 0 + 1)) : RW (rlV vm tt) vp vs' := by
  obtain ⟨hP, hL, hS, hH, hO⟩ := h
  have l0 : vs 0 0 = vm 23 0 := hL.1
  have l5 : vs 5 0 = vm 28 0 := hL.2.2.2.2.2.1
  have kp : keepP vm (rlV vm tt) := fun t ht => (up2_ne (by omega)).trans ((up2_ne (by omega)).trans (up2_ne (by omega)))
  have b23 := hH.2.2.2.2.2.1.1
  have n1 : (1 : Int32).toInt = 1 := by decide
  have t1 := i_add (z := vm 23 0 + 1) rfl (by omega)
  have h24 := hH.1.2.2
  have hc2 := hc.2
  refine ⟨rqp_fr kp hP, ⟨?_, ?_, ?_, ?_, ?_, ?_, ?_, ?_⟩, ⟨hS.1, Or.inr hc.2⟩, mh_roll hH (by omega) ⟨hc.1, by omega⟩, okm_fr kp hO⟩
  · rw [e0, l0]
    rfl
  · rw [hf 1 (by decide)]
    exact hL.2.1
  · rw [hf 2 (by decide)]
    exact hL.2.2.1
  · rw [hf 3 (by decide)]
    exact hL.2.2.2.1
  · rw [e4]
    rfl
  · rw [e5, l5, ep]
    rfl
  · rw [hf 6 (by decide)]
    exact hL.2.2.2.2.2.2.1
  · rw [hf 7 (by decide)]
    exact hL.2.2.2.2.2.2.2
theorem RW.load {vm vp vs vs' : Vf} {k : Nat} {x : Int32} (h : RW vm vp vs) (e : up2 vs 2 k x = vs') (hx : 0 ≤ x.toInt ∧ x.toInt ≤ 90) : RW (up2 vm 25 k x) vp vs' := by
  subst e
  obtain ⟨hP, hL, hS, hH, hO⟩ := h
  have kp : keepP vm (up2 vm 25 k x) := fun t ht => up2_ne (by omega)
  refine ⟨rqp_fr kp hP, ⟨hL.1, hL.2.1, fun j hj => ?_, hL.2.2.2⟩, hS, mh_load hH hx, okm_fr kp hO⟩
  show upd (vs 2) k x j = upd (vm 25) k x j
  by_cases q : j = k
  · subst q
    rw [updA, updA]
  · rw [updN q, updN q]
    exact hL.2.2.1 j hj
theorem cost_self {v : Vf} {a t : Int32} : mCost v a a t = 0 := by
  unfold mCost mSl
  rw [if_pos rfl]
  rfl
/-- what the class makes of the draw of a way -/
def DrO (V : Vf) (cart there push : Int32) : Prop := cW V cart ∧ V 27 0 = cart ∧ (push.toInt = -1 → drT V = cart) ∧ (push.toInt ≠ -1 → drT V = there ∧ cW V there ∧ push = mCost V (V 27 0) there (V 23 0 + 1))
theorem dr_cls {V vp vs : Vf} {way there t push : Int32} (hR : RW V vp vs) (hg : (-1 : Int32) = V 62 0) (hce : 1 ≤ (vp 0 0).toInt * (vp 1 0).toInt) (hw : way = dval (V 30 0) 5) (hwr : 0 ≤ way.toInt ∧ way.toInt ≤ 4) (hb : ∀ vm : Vf, vp 0 0 = vm 0 0 → vp 1 0 = vm 1 0 → mdG vm → 1 ≤ (vp 0 0).toInt → (0 ≤ way.toInt ∧ way.toInt ≤ 4) → there = mBes vm (vs 4 0) way) (hp : ∀ vm : Vf, RW vm vp vs → (-1 : Int32) = vm 62 0 → ∀ way : Int32, (0 ≤ way.toInt ∧ way.toInt ≤ 4) → there = mBes vm (vs 4 0) way → cW vm (vs 4 0) → PuP vm (vs 4 0) way there t push) (et : t = vs 0 0 + 1) : DrO V (vs 4 0) there push := by
  have hG := hR.2.2.2.1.1
  have hW := rol_w hR hce
  have hcc := rol_c hR hW
  have hb2 := hb V hR.1.1.1 hR.1.1.2.1 hG (by rw [hR.1.1.1]; exact hW) hwr
  have hq := rol_pu hR hcc (hp V hR hg way hwr hb2 hcc) et
  have e4 : vs 4 0 = V 27 0 := hR.2.1.2.2.2.2.1
  refine ⟨hcc, e4.symm, fun h => ?_, fun h => ?_⟩
  · have z := hq.1 h
    rw [hw] at z
    unfold drT drG
    rw [if_pos z, e4]
  · obtain ⟨z1, z2, z3⟩ := hq.2 h
    rw [hw] at z1
    refine ⟨?_, ?_, z3⟩
    · unfold drT drG
      rw [z1, if_neg (by omega)]
    · rw [hb2] at z2 ⊢
      exact bes_cW hG z2
theorem dr_stay {V vp vs vs' : Vf} {there push : Int32} (hR : RW V vp vs) (h : DrO V (vs 4 0) there push) (hs : (V 23 0).toInt ≤ 899999) (hp : push.toInt = -1) (hf : fr [0, 4, 5] vs vs') (e : vs' 4 0 = vs 4 0 ∧ vs' 0 0 = vs 0 0 + 1 ∧ vs' 5 0 = mHeld (vs 5 0 + 0)) : RW (rlV V (drT V)) vp vs' := by
  rw [h.2.2.1 hp]
  exact hR.roll h.1 hs hf e.1 e.2.1 e.2.2 (by rw [h.2.1, cost_self])
theorem dr_go {V vp vs vs' : Vf} {there push : Int32} (hR : RW V vp vs) (h : DrO V (vs 4 0) there push) (hs : (V 23 0).toInt ≤ 899999) (hp : push.toInt ≠ -1) (hf : fr [0, 4, 5] vs vs') (e : vs' 4 0 = there ∧ vs' 0 0 = vs 0 0 + 1 ∧ vs' 5 0 = mHeld (vs 5 0 + push)) : RW (rlV V (drT V)) vp vs' := by
  obtain ⟨q1, q2, q3⟩ := h.2.2.2 hp
  rw [q1]
  exact hR.roll q2 hs hf e.1 e.2.1 e.2.2 q3
theorem dr_no {V vp vs : Vf} (hR : RW V vp vs) (e : ¬ dval (vs 7 0) 12 = 0) : RW (drW V) vp vs := by
  have e7 : vs 7 0 = V 30 0 := hR.2.1.2.2.2.2.2.2.2
  rw [e7] at e
  unfold drW
  rw [if_neg e]
  exact hR
theorem dr_yes {V vp vs vs1 vs2 vs3 : Vf} {c x : Int32} (hR : RW V vp vs) (e : dval (vs 7 0) 12 = 0) (hR1 : RW (dr1 V) vp vs1) (hR2 : RW (dr1 (dr1 V)) vp vs2) (hc : c = dval (nxt (vs 7 0)) (vp 2 0)) (h2 : (vp 2 0).toInt = (vp 0 0).toInt * (vp 1 0).toInt) (hcb : 0 ≤ c.toInt ∧ c.toInt ≤ 23) (hx : x = lod (vs1 2 c.toNatClampNeg + dval (nxt (vs1 7 0)) 30)) (e3 : up2 vs2 2 c.toNatClampNeg x = vs3) : RW (drW V) vp vs3 := by
  have e7 : vs 7 0 = V 30 0 := hR.2.1.2.2.2.2.2.2.2
  have hG := hR.2.2.2.1.1
  have ep : vp 2 0 = V 0 0 * V 1 0 := cel_eq (by rw [h2, hR.1.1.1, hR.1.1.2.1]) hG.1 hG.2.1
  have hk : c.toNatClampNeg < 24 := i_natlt (by omega) (by decide)
  have l25 : vs1 2 c.toNatClampNeg = dr1 V 25 c.toNatClampNeg := hR1.2.1.2.2.1 _ hk
  have l30 : vs1 7 0 = dr1 V 30 0 := hR1.2.1.2.2.2.2.2.2.2
  have b25 := hR1.2.2.2.1.2.2.2.2.2.1.2.2.1 _ hk
  have bd := dval_b (nxt_nn (dr1 V 30 0)) (show 1 ≤ (30 : Int32).toInt by decide)
  have n30 : (30 : Int32).toInt = 30 := by decide
  rw [l25, l30] at hx
  have hxb : 0 ≤ x.toInt ∧ x.toInt ≤ 90 := by
    rw [hx]
    exact lod_b b25 (by omega)
  have q := hR2.load e3 hxb
  have hc2 : c = dval (nxt (V 30 0)) (V 0 0 * V 1 0) := by rw [hc, e7, ep]
  rw [e7] at e
  unfold drW
  rw [if_pos e, ← hc2]
  unfold drL
  rw [← hx]
  exact q
theorem dr_loop {vm vp vs vs' : Vf} {a b : Nat} (h : RW (drN vm a) vp vs ∧ (-1 : Int32) = drN vm a 62 0) (hf : ∀ vm : Vf, RW vm vp vs → (-1 : Int32) = vm 62 0 → (vm 23 0).toInt ≤ 899999 → RW (drf vm) vp vs') (hs : (vs 0 0).toInt ≤ 899999) (e : b = a + 1) : RW (drN vm b) vp vs' ∧ (-1 : Int32) = drN vm b 62 0 := by
  subst e
  have l0 : vs 0 0 = drN vm a 23 0 := h.1.2.1.1
  refine ⟨hf _ h.1 h.2 (by rw [← l0]; exact hs), ?_⟩
  show (-1 : Int32) = drf (drN vm a) 62 0
  rw [drf_fr (fr.rf (v := drN vm a)) 62 (by decide)]
  exact h.2
def DriP (vm : Vf) (n r : Int32) (same new : Prop) : Prop := (r.toInt = -1000000002 ∧ (n.toInt < 1 ∨ 99 < n.toInt) ∧ same) ∨ ((1 ≤ n.toInt ∧ n.toInt ≤ 99) ∧ ((r.toInt = -1000000003 ∧ (vm 0 0).toInt = 0 ∧ same) ∨ ((vm 0 0).toInt ≠ 0 ∧ ((r.toInt = -1000000004 ∧ 899000 < (vm 23 0).toInt ∧ same) ∨ ((vm 23 0).toInt ≤ 899000 ∧ new ∧ r = mPair vm (drN vm n.toNatClampNeg 27 0))))))
theorem dri_end {vm vp vs vsk : Vf} {n i r : Int32} (hR : RW vm vp vs) (hk : RW (drN vm i.toNatClampNeg) vp vsk) (ei : i = n) (hp : 1 ≤ (vp 0 0).toInt → r = (vsk 4 0 - vsk 4 0 / vp 0 0 * vp 0 0) * 10 + vsk 4 0 / vp 0 0) (hW : 1 ≤ (vm 0 0).toInt) : RW (drN vm n.toNatClampNeg) vp vsk ∧ r = mPair vm (drN vm n.toNatClampNeg 27 0) := by
  subst ei
  have e4 : vsk 4 0 = drN vm i.toNatClampNeg 27 0 := hk.2.1.2.2.2.2.1
  have q := pair_cls (hp (by rw [hR.1.1.1]; exact hW)) hR.1.1.1
  rw [e4] at q
  exact ⟨hk, q⟩
theorem drm_end {vm vmk : Vf} {n i r : Int32} (hA : Ag (drN vm i.toNatClampNeg) vmk) (ei : i = n) (hp : r = mPair vmk (vmk 27 0)) : Ag (drN vm n.toNatClampNeg) vmk ∧ r = mPair vm (drN vm n.toNatClampNeg 27 0) := by
  subst ei
  refine ⟨hA, ?_⟩
  have e0 : vmk 0 = vm 0 := (hA.1 0 (by decide) (by decide) (by decide) (by decide)).trans (drN_fr _ 0 (by decide))
  rw [hp, hA.2.2.1]
  unfold mPair
  rw [e0]
theorem dri_eq {vm : Vf} {n r q : Int32} {s1 n1 s2 n2 : Prop} (h1 : DriP vm n r s1 n1) (h2 : DriP vm n q s2 n2) : r.toInt = q.toInt ∧ ((s1 ∧ s2) ∨ (n1 ∧ n2)) := by
  rcases h1 with ⟨a1, a2, a3⟩ | ⟨a0, ⟨a1, a2, a3⟩ | ⟨az, ⟨a1, a2, a3⟩ | ⟨a1, a2, a3⟩⟩⟩
  · rcases h2 with ⟨b1, b2, b3⟩ | ⟨b0, -⟩
    · exact ⟨by omega, Or.inl ⟨a3, b3⟩⟩
    · omega
  · rcases h2 with ⟨b1, b2, b3⟩ | ⟨b0, ⟨b1, b2, b3⟩ | ⟨bz, -⟩⟩
    · omega
    · exact ⟨by omega, Or.inl ⟨a3, b3⟩⟩
    · exact absurd a2 bz
  · rcases h2 with ⟨b1, b2, b3⟩ | ⟨b0, ⟨b1, b2, b3⟩ | ⟨bz, ⟨b1, b2, b3⟩ | ⟨b1, b2, b3⟩⟩⟩
    · omega
    · exact absurd b2 az
    · exact ⟨by omega, Or.inl ⟨a3, b3⟩⟩
    · omega
  · rcases h2 with ⟨b1, b2, b3⟩ | ⟨b0, ⟨b1, b2, b3⟩ | ⟨bz, ⟨b1, b2, b3⟩ | ⟨b1, b2, b3⟩⟩⟩
    · omega
    · exact absurd b2 az
    · omega
    · exact ⟨by rw [a3, b3], Or.inr ⟨a2, b2⟩⟩
theorem fn3 {f g : Nat → Int32} (h0 : f 0 = g 0) (h1 : f 1 = g 1) (h2 : f 2 = g 2) : ∀ j, j < 3 → f j = g j := by
  intro j hj
  rcases (show j = 0 ∨ j = 1 ∨ j = 2 by omega) with rfl | rfl | rfl
  · exact h0
  · exact h1
  · exact h2
/-! rows that grow by one -/
def RowP (r n : Int32) (f f' : Nat → Int32) (x : Int32) : Prop := (r.toInt < 0 ∧ f' = f) ∨ (0 ≤ r.toInt ∧ f' = upd f n.toNatClampNeg x)
def SeeR (r n W x y t h : Int32) (f1 f2 f3 g1 g2 g3 : Nat → Int32) : Prop := (r.toInt < 0 ∧ g1 = f1 ∧ g2 = f2 ∧ g3 = f3) ∨ (0 ≤ r.toInt ∧ ∃ c : Int32, c.toInt = W.toInt * y.toInt + x.toInt ∧ g1 = upd f1 n.toNatClampNeg c ∧ g2 = upd f2 n.toNatClampNeg t ∧ g3 = upd f3 n.toNatClampNeg h)
