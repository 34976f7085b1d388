section
/-! ===== a plan's shape, kept by what a clause writes ===== -/
theorem rn_ok {a b lo hi r : Int} {P : Prop} (h : ((a = 0 ∧ b = 0 ∧ lo ≤ r ∧ r ≤ hi) ∨ (a ≠ 0 ∧ r = 0)) ∧ P) (ha : a = 0) : b = 0 ∧ lo ≤ r ∧ r ≤ hi := h.1.elim (fun q => q.2) (fun q => absurd ha q.1)
theorem rf_ok {w a b : Int} {P : Prop} (h : ((w = 0 ∧ a = b) ∨ (w ≠ 0 ∧ a ≠ 0)) ∧ P) (ha : a = 0) : w = 0 ∧ b = 0 := h.1.elim (fun q => ⟨q.1, q.2 ▸ ha⟩) (fun q => absurd ha q.2)
theorem pl_ground {v : Vf} {w d c : Int32} (hI : PlanI v) (hg : groundI w d c) : PlanI (up2 (up2 (up2 v 0 0 w) 1 0 d) 2 0 c) := ⟨hg, hI.2⟩
theorem pl_row0 {v : Vf} {f : Nat → Int32} (hI : PlanI v) (hf : rowB f) : PlanI (up3 v 23 f) := ⟨hI.1, hI.2.1, ⟨hI.2.2.1.1, hf, hI.2.2.1.2.2⟩, hI.2.2.2⟩
theorem pl_row1 {v : Vf} {f : Nat → Int32} (hI : PlanI v) (hf : rowB f) : PlanI (up3 v 33 f) := ⟨hI.1, hI.2.1, hI.2.2.1, ⟨hI.2.2.2.1.1, hf, hI.2.2.2.1.2.2⟩, hI.2.2.2.2⟩
theorem pl_row2 {v : Vf} {f : Nat → Int32} (hI : PlanI v) (hf : rowB f) : PlanI (up3 v 43 f) := ⟨hI.1, hI.2.1, hI.2.2.1, hI.2.2.2.1, ⟨hI.2.2.2.2.1.1, hf, hI.2.2.2.2.1.2.2⟩, hI.2.2.2.2.2⟩
theorem pl_moon0 {v : Vf} {m : Int32} {f k : Nat → Int32} (hI : PlanI v) (hm : moonI m f k) : PlanI (up3 (up3 (up2 v 20 0 m) 23 f) 24 k) := ⟨hI.1, hI.2.1, hm, hI.2.2.2⟩
theorem pl_moon1 {v : Vf} {m : Int32} {f k : Nat → Int32} (hI : PlanI v) (hm : moonI m f k) : PlanI (up3 (up3 (up2 v 30 0 m) 33 f) 34 k) := ⟨hI.1, hI.2.1, hI.2.2.1, hm, hI.2.2.2.2⟩
theorem pl_moon2 {v : Vf} {m : Int32} {f k : Nat → Int32} (hI : PlanI v) (hm : moonI m f k) : PlanI (up3 (up3 (up2 v 40 0 m) 43 f) 44 k) := ⟨hI.1, hI.2.1, hI.2.2.1, hI.2.2.2.1, hm, hI.2.2.2.2.2⟩
theorem pl_mc {v : Vf} {x : Int32} (hI : PlanI v) (hx : 0 ≤ x.toInt ∧ x.toInt ≤ 3) : PlanI (up2 v 5 0 x) := ⟨hI.1, hx, hI.2.2⟩
theorem pl_s0 {v : Vf} {n : Int32} {f1 f2 f3 : Nat → Int32} (hI : PlanI v) (hs : sitesI 6 n f1) : PlanI (up3 (up3 (up3 (up2 v 60 0 n) 61 f1) 62 f2) 63 f3) := ⟨hI.1, hI.2.1, hI.2.2.1, hI.2.2.2.1, hI.2.2.2.2.1, hs, hI.2.2.2.2.2.2⟩
theorem pl_s1 {v : Vf} {n : Int32} {f1 f2 f3 : Nat → Int32} (hI : PlanI v) (hs : sitesI 6 n f1) : PlanI (up3 (up3 (up3 (up2 v 70 0 n) 71 f1) 72 f2) 73 f3) := ⟨hI.1, hI.2.1, hI.2.2.1, hI.2.2.2.1, hI.2.2.2.2.1, hI.2.2.2.2.2.1, hs, hI.2.2.2.2.2.2.2⟩
theorem pl_s2 {v : Vf} {n : Int32} {f1 f2 f3 : Nat → Int32} (hI : PlanI v) (hs : sitesI 6 n f1) (hn : n.toInt ≤ 5) : PlanI (up3 (up3 (up3 (up2 v 80 0 n) 81 f1) 82 f2) 83 f3) := ⟨hI.1, hI.2.1, hI.2.2.1, hI.2.2.2.1, hI.2.2.2.2.1, hI.2.2.2.2.2.1, hI.2.2.2.2.2.2.1, ⟨⟨hs.1.1, hn⟩, hs.2⟩, hI.2.2.2.2.2.2.2.2⟩
theorem pl_s3 {v : Vf} {n : Int32} {f1 f2 f3 : Nat → Int32} (hI : PlanI v) (hs : sitesI 6 n f1) (hn : n.toInt ≤ 4) : PlanI (up3 (up3 (up3 (up2 v 90 0 n) 91 f1) 92 f2) 93 f3) := ⟨hI.1, hI.2.1, hI.2.2.1, hI.2.2.2.1, hI.2.2.2.2.1, hI.2.2.2.2.2.1, hI.2.2.2.2.2.2.1, hI.2.2.2.2.2.2.2.1, ⟨⟨hs.1.1, hn⟩, hs.2⟩⟩
end
section
def rm_X2_readGround : Room := { frames := 2, cells := 0, slots := 0, locals := 46 }
set_option maxHeartbeats 4000000 in
set_option maxRecDepth 100000 in
theorem c_X2_readGround (l : Launch) (E : Ev) (sz : Nat) (qr : Nat) (qx : Nat) (fx : Nat → Int32) (ln : Int32) (ps : Int32) (fn : Int32) (fa : Int32) (na : Int32) (cx : Int32) (ck : Int32) (ap : Nat → Nat) (vp : Vf) (wd : Int32) (S : St0) (hln : 0 ≤ ln.toInt ∧ ln.toInt ≤ 250) (hps : 0 ≤ ps.toInt ∧ ps.toInt ≤ ln.toInt) (hI : PlanI vp) (hRp : Rp S vp cx ck) : Met l yX2_readGround wsX2_readGround rm_X2_readGround (MtP E sz [.ref qr, .int wd] (rdL E qr qx fx ln ps fn fa na cx ck ap vp)) (va_Qv (fun (u : Int32 × Int32 × Int32 × Int32 × Vf) => (PlanI u.2.2.2.2 ∧ (ps.toInt ≤ u.1.toInt ∧ u.1.toInt ≤ ln.toInt + 1) ∧ (u.2.1.toInt ≠ 0 ∨ u.1.toInt ≤ ln.toInt)) ∧ (CF (groundF fx ln.toInt S wd.toInt ps.toInt) fn.toInt fa.toInt u.2.1.toInt u.2.2.1.toInt (fun z => u.1.toInt = z.2 ∧ Rp (groundS S z.1.1.1.1.1.2.1 z.1.1.1.1.2.1 z.1.1.2.1 z.1.2.1) u.2.2.2.2 cx ck))) (MtB E (va_A (rdL E qr qx fx ln ps fn fa na cx ck ap vp) sz) (fun u => rdL E qr qx fx ln u.1 u.2.1 u.2.2.1 u.2.2.2.1 cx ck ap u.2.2.2.2)) (va_A (rdL E qr qx fx ln ps fn fa na cx ck ap vp) sz)) 0 0 (va_A (rdL E qr qx fx ln ps fn fa na cx ck ap vp) sz) := by
  refine Met.ofW (cc := cX2_readGround) (maxL := 7) (ret := none) (by decide) rfl ?_
  intro p e s m args below meth c s₁ B hml hv
  obtain ⟨rfl, hsz, hE, hP, hD0⟩ := hv
  subst hsz
  have hD := hD0.self (sz := s.heap.size)
  generalize hAe : va_A (rdL E qr qx fx ln ps fn fa na cx ck ap vp) s.heap.size = A at hD hE ⊢
  have hA : ∀ q : Nat, s.heap.size ≤ q → A q := fun q h => by rw [← hAe]; exact Or.inr h
  have hS : va_S A s.heap s.heap [] := va_S.rf
  have hx := B.exec
  have hb := B.bytes
  have hr := B.returns
  have hts := atoms_spec (ws := wsX2_readGround) B.pre
  have hown : s.vm.findClass RX2 = some m.cls := findClass_of_methodNamed B.named
  have hlocks := B.notSynchronized
  have hK := hE.1
  have in_X2 : ∀ w ∈ u_ws RX2 TX2 9, w ∈ wsX2_readGround := fun w h => List.mem_cons_of_mem _ (List.mem_append_left _ (List.mem_append_right _ h))
  have in_X1 : ∀ w ∈ u_ws RX1 TX1 11, w ∈ wsX2_readGround := fun w h => List.mem_cons_of_mem _ (List.mem_append_right _ h)
  have lk0 := hts (.fieldLink RX2 28 "TidedGround$Reader" "plan" "LTidedGround$Plan;") (List.mem_of_getElem? (i := 1) rfl)
  have lk1 := hts (.fieldLink RX2 55 "TidedGround$Plan" "cells" "I") (List.mem_of_getElem? (i := 2) rfl)
  have lk2 := hts (.fieldLink RX2 87 "TidedGround$Reader" "numberAt" "I") (List.mem_of_getElem? (i := 3) rfl)
  have lk3 := hts (.fieldLink RX2 37 "TidedGround$Reader" "faultNumber" "I") (List.mem_of_getElem? (i := 4) rfl)
  have lk4 := hts (.fieldLink RX2 93 "TidedGround$Plan" "width" "I") (List.mem_of_getElem? (i := 5) rfl)
  have lk5 := hts (.fieldLink RX2 96 "TidedGround$Plan" "depth" "I") (List.mem_of_getElem? (i := 6) rfl)
  have lk6 := hts (.fieldLink RX2 99 "TidedGround$Plan" "base" "[I") (List.mem_of_getElem? (i := 7) rfl)
  have lk7 := hts (.fieldLink RX2 102 "TidedGround$Plan" "softness" "[I") (List.mem_of_getElem? (i := 8) rfl)
  have n_0 : (0 : Int32).toInt = 0 := by decide
  have n_1 : (1 : Int32).toInt = 1 := by decide
  have n_2 : (2 : Int32).toInt = 2 := by decide
  have n_3 : (3 : Int32).toInt = 3 := by decide
  have n_6 : (6 : Int32).toInt = 6 := by decide
  have n_9 : (9 : Int32).toInt = 9 := by decide
  have n_24 : (24 : Int32).toInt = 24 := by decide
  have n_59 : (59 : Int32).toInt = 59 := by decide
  have n_99 : (99 : Int32).toInt = 99 := by decide
  have hl := lv_entry ([.ref qr, .int wd]) (n := 7) (Nat.le_of_ble_eq_true rfl)
  rw [lg_entry_eq]
  generalize (lg_sl ([.ref qr, .int wd]) ++ List.replicate (7 - (lg_sl ([.ref qr, .int wd])).length) Slot.unset).toArray = ls at hl ⊢
  have hl : lv_has ls 7 [(0, .ref qr), (1, .int wd)] := hl
  refine W_abs (fun Q hQ => ?_)
  obtain ⟨hg, hmc, hm0, hm1, hm2, hs0, hs1, hs2, hs3⟩ := id hI
  obtain ⟨hg1, hg2, hg3, hg4⟩ := id hg
  have hz0 := hm0.1
  have hz1 := hm1.1
  have hz2 := hm2.1
  have hc0 := hs0.1
  have hc1 := hs1.1
  have hc2 := hs2.1
  have hc3 := hs3.1
  have hg5 : 0 ≤ (vp 2 0).toInt := by rw [hg3]; exact Int.mul_nonneg hg1.1 hg2.1
  have hgp := g_pos hg3 (by have q := hRp.1.2.2.2; rw [← hRp.1.1, ← hRp.1.2.1] at q; exact q)
  have hcn := hRp.1.1
  refine lv_aload_n hx hb dX2_readGround_0 rfl (lv_at hl 0 rfl) ?_
  refine lv_aload_n hx hb dX2_readGround_1 rfl (lv_at hl 0 rfl) ?_
  refine va_get (D := eD E) (ci := 2) (v := .ref (ap 0)) (C := RX2) (T := TX2) (N := 9) hx hb hts in_X2 hown hK hP 0 rfl rfl 3 (by decide) lk0 (fun _ h9 => h9) rfl dX2_readGround_2 ?_
  refine va_get (D := eD E) (ci := 1) (v := .int (vp 2 0)) (C := RX1) (T := TX1) (N := 11) hx hb hts in_X1 hown hK hP 2 rfl rfl 2 (by decide) lk1 (fun _ h9 => h9) rfl dX2_readGround_5 ?_
  have K16 : ∀  (w : Int32) (H : Heap) (locs : List Loc) (ls : Array Slot), va_P (eD E) vwCl (rdL E qr qx fx ln ps fn fa na cx ck ap vp) H → va_D A (rdL E qr qx fx ln ps fn fa na cx ck ap vp) → va_S A s.heap H locs → ((w.toInt = 0 ∧ (vp 2 0).toInt ≤ 0) ∨ (w.toInt = 1 ∧ 0 < (vp 2 0).toInt)) → lv_has ls 7 [(0, .ref qr), (1, .int wd)] → W p l e (headSpec wsX2_readGround rm_X2_readGround).room s m ([.ref qr, .int wd] : List Value).toArray below meth c H locs 0 0 Q (F0 m 16 ls [.int w, .ref qr]) := by
    intro w H locs ls hP hD hS h16_0 hl
    have hx16_0 := h16_0
    clear h16_0
    refine lv_iconst (v := 3) hx hb dX2_readGround_16 (by decide) ?_
    refine lv_iload_n hx hb dX2_readGround_17 rfl (lv_at hl 1 rfl) ?_
    refine mt_Vv (w1 := fun (u : Int32 × Int32) => rbL E qr qx fx ln ps u.1 u.2 na cx ck ap) (wf := fun (u : Int32 × Int32) => rdL E qr qx fx ln ps u.1 u.2 na cx ck ap vp) (wr := [((ap 0), .inr (1, [.int (vp 0 0), .int (vp 1 0), .int (vp 2 0), .ref (ap 3), .ref (ap 4), .int (vp 5 0), .ref (ap 6), .ref (ap 7), .ref (ap 8), .ref (ap 9), .ref (ap 10)])), ((ap 3), .inl (eI E, 24, .inl (vp 3))), ((ap 4), .inl (eI E, 24, .inl (vp 4))), ((ap 6), .inl (eM E, 3, .inr (.inr (.inr (.inr (fun i => some (ap (20 + 10 * i)))))))), ((ap 20), .inr (0, [.int (vp 20 0), .int (vp 21 0), .int (vp 22 0), .ref (ap 23), .ref (ap 24)])), ((ap 23), .inl (eI E, 18, .inl (vp 23))), ((ap 24), .inl (eI E, 24, .inl (vp 24))), ((ap 30), .inr (0, [.int (vp 30 0), .int (vp 31 0), .int (vp 32 0), .ref (ap 33), .ref (ap 34)])), ((ap 33), .inl (eI E, 18, .inl (vp 33))), ((ap 34), .inl (eI E, 24, .inl (vp 34))), ((ap 40), .inr (0, [.int (vp 40 0), .int (vp 41 0), .int (vp 42 0), .ref (ap 43), .ref (ap 44)])), ((ap 43), .inl (eI E, 18, .inl (vp 43))), ((ap 44), .inl (eI E, 24, .inl (vp 44))), ((ap 7), .inr (5, [.int (vp 60 0), .ref (ap 61), .ref (ap 62), .ref (ap 63)])), ((ap 61), .inl (eI E, 6, .inl (vp 61))), ((ap 62), .inl (eI E, 6, .inl (vp 62))), ((ap 63), .inl (eI E, 6, .inl (vp 63))), ((ap 8), .inr (5, [.int (vp 70 0), .ref (ap 71), .ref (ap 72), .ref (ap 73)])), ((ap 71), .inl (eI E, 6, .inl (vp 71))), ((ap 72), .inl (eI E, 6, .inl (vp 72))), ((ap 73), .inl (eI E, 6, .inl (vp 73))), ((ap 9), .inr (5, [.int (vp 80 0), .ref (ap 81), .ref (ap 82), .ref (ap 83)])), ((ap 81), .inl (eI E, 6, .inl (vp 81))), ((ap 82), .inl (eI E, 6, .inl (vp 82))), ((ap 83), .inl (eI E, 6, .inl (vp 83))), ((ap 10), .inr (5, [.int (vp 90 0), .ref (ap 91), .ref (ap 92), .ref (ap 93)])), ((ap 91), .inl (eI E, 6, .inl (vp 91))), ((ap 92), .inl (eI E, 6, .inl (vp 92))), ((ap 93), .inl (eI E, 6, .inl (vp 93)))]) (As := [.int w, .int 3, .int wd]) (rest := []) (C := RX2) (ci := 2) ⟨hx, hb, hml, hown, hts⟩ (c_X2_refuseIf l E H.size qr qx fx ln ps fn fa na cx ck ap w 3 wd (by omega)) (cwV 3 hts gX2_readGround_X2_refuseIf rfl rfl rfl (by decide +kernel) ⟨Nat.le_of_ble_eq_true rfl, Nat.le_of_ble_eq_true rfl⟩) hE hS hA hP hD [0, 1] [2, 3, 4, 5, 6, 7, 8, 9, 10, 11, 12, 13, 14, 15, 16, 17, 18, 19, 20, 21, 22, 23, 24, 25, 26, 27, 28, 29, 30] rfl rfl (by decide) (by decide) (by decide) [29, 30, 0, 1, 2, 3, 4, 5, 6, 7, 8, 9, 10, 11, 12, 13, 14, 15, 16, 17, 18, 19, 20, 21, 22, 23, 24, 25, 26, 27, 28] (by decide) (fun u => rfl) rfl rfl rfl rfl hl.1 rfl (Nat.le_of_ble_eq_true rfl) dX2_readGround_18 ⟨Nat.zero_le _, Nat.zero_le _⟩ (fun u18 H locs h18 hP hD hS => ?_)
    obtain ⟨o18_fn, o18_fa⟩ := u18
    try dsimp only at h18
    have hf18 := h18.2
    replace h18 := h18.1
    replace hP : va_P (eD E) vwCl (rdL E qr qx fx ln ps o18_fn o18_fa na cx ck ap vp) H := hP
    replace hD : va_D A (rdL E qr qx fx ln ps o18_fn o18_fa na cx ck ap vp) := hD
    rw [n_3] at hf18
    have hk18 : CF (chk (decide (1 ≤ S 37 0)) 3 wd.toInt) fn.toInt fa.toInt o18_fn.toInt o18_fa.toInt (fun _ => True) := CF.chk (fun _ => ckB (by omega)) hf18
    clear hf18 hx16_0
    refine lv_aload_n hx hb dX2_readGround_21 rfl (lv_at hl 0 rfl) ?_
    refine lv_iconst (v := 1) hx hb dX2_readGround_22 (by decide) ?_
    refine lv_bipush (v := 6) hx hb dX2_readGround_23 (by decide) ?_
    refine mt_Vi (w1 := fun (u : Int32 × Int32 × Int32 × Int32) => rbL E qr qx fx ln u.1 u.2.1 u.2.2.1 u.2.2.2 cx ck ap) (wf := fun (u : Int32 × Int32 × Int32 × Int32) => rdL E qr qx fx ln u.1 u.2.1 u.2.2.1 u.2.2.2 cx ck ap vp) (wr := [((ap 0), .inr (1, [.int (vp 0 0), .int (vp 1 0), .int (vp 2 0), .ref (ap 3), .ref (ap 4), .int (vp 5 0), .ref (ap 6), .ref (ap 7), .ref (ap 8), .ref (ap 9), .ref (ap 10)])), ((ap 3), .inl (eI E, 24, .inl (vp 3))), ((ap 4), .inl (eI E, 24, .inl (vp 4))), ((ap 6), .inl (eM E, 3, .inr (.inr (.inr (.inr (fun i => some (ap (20 + 10 * i)))))))), ((ap 20), .inr (0, [.int (vp 20 0), .int (vp 21 0), .int (vp 22 0), .ref (ap 23), .ref (ap 24)])), ((ap 23), .inl (eI E, 18, .inl (vp 23))), ((ap 24), .inl (eI E, 24, .inl (vp 24))), ((ap 30), .inr (0, [.int (vp 30 0), .int (vp 31 0), .int (vp 32 0), .ref (ap 33), .ref (ap 34)])), ((ap 33), .inl (eI E, 18, .inl (vp 33))), ((ap 34), .inl (eI E, 24, .inl (vp 34))), ((ap 40), .inr (0, [.int (vp 40 0), .int (vp 41 0), .int (vp 42 0), .ref (ap 43), .ref (ap 44)])), ((ap 43), .inl (eI E, 18, .inl (vp 43))), ((ap 44), .inl (eI E, 24, .inl (vp 44))), ((ap 7), .inr (5, [.int (vp 60 0), .ref (ap 61), .ref (ap 62), .ref (ap 63)])), ((ap 61), .inl (eI E, 6, .inl (vp 61))), ((ap 62), .inl (eI E, 6, .inl (vp 62))), ((ap 63), .inl (eI E, 6, .inl (vp 63))), ((ap 8), .inr (5, [.int (vp 70 0), .ref (ap 71), .ref (ap 72), .ref (ap 73)])), ((ap 71), .inl (eI E, 6, .inl (vp 71))), ((ap 72), .inl (eI E, 6, .inl (vp 72))), ((ap 73), .inl (eI E, 6, .inl (vp 73))), ((ap 9), .inr (5, [.int (vp 80 0), .ref (ap 81), .ref (ap 82), .ref (ap 83)])), ((ap 81), .inl (eI E, 6, .inl (vp 81))), ((ap 82), .inl (eI E, 6, .inl (vp 82))), ((ap 83), .inl (eI E, 6, .inl (vp 83))), ((ap 10), .inr (5, [.int (vp 90 0), .ref (ap 91), .ref (ap 92), .ref (ap 93)])), ((ap 91), .inl (eI E, 6, .inl (vp 91))), ((ap 92), .inl (eI E, 6, .inl (vp 92))), ((ap 93), .inl (eI E, 6, .inl (vp 93)))]) (As := [.int 1, .int 6]) (rest := []) (C := RX2) (ci := 2) ⟨hx, hb, hml, hown, hts⟩ (c_X2_readNumber l E H.size qr qx fx ln ps o18_fn o18_fa na cx ck ap 1 6 (by omega) (by omega)) (cwV 2 hts gX2_readGround_X2_readNumber rfl rfl rfl (by decide +kernel) ⟨Nat.le_of_ble_eq_true rfl, Nat.le_of_ble_eq_true rfl⟩) hE hS hA hP hD [0, 1] [2, 3, 4, 5, 6, 7, 8, 9, 10, 11, 12, 13, 14, 15, 16, 17, 18, 19, 20, 21, 22, 23, 24, 25, 26, 27, 28, 29, 30] rfl rfl (by decide) (by decide) (by decide) [29, 30, 0, 1, 2, 3, 4, 5, 6, 7, 8, 9, 10, 11, 12, 13, 14, 15, 16, 17, 18, 19, 20, 21, 22, 23, 24, 25, 26, 27, 28] (by decide) (fun u => rfl) rfl rfl rfl rfl hl.1 rfl (Nat.le_of_ble_eq_true rfl) dX2_readGround_25 ⟨Nat.zero_le _, Nat.zero_le _⟩ (fun r25 u25 H locs h25 hP hD hS => ?_)
    obtain ⟨o25_ps, o25_fn, o25_fa, o25_na⟩ := u25
    try dsimp only at h25
    have hf25 := h25.2
    replace h25 := h25.1
    replace hP : va_P (eD E) vwCl (rdL E qr qx fx ln o25_ps o25_fn o25_fa o25_na cx ck ap vp) H := hP
    replace hD : va_D A (rdL E qr qx fx ln o25_ps o25_fn o25_fa o25_na cx ck ap vp) := hD
    have pb25 : 0 ≤ r25.toInt ∧ r25.toInt ≤ 6 := pb_rn h25.1 (by decide) (by decide)
    rw [n_1, n_6] at hf25
    have hs25 := CF.then (s := fun z : Unit => numF fx ln.toInt 1 6 ps.toInt) hk18 hf25 (okF.chk (by decide)) (fun z hz => by rfl)
    refine lv_istore_n (lv' := [(2, .int r25), (0, .ref qr), (1, .int wd)]) hx hb dX2_readGround_28 rfl hl (by decide) rfl (fun ls hl => ?_)
    refine lv_aload_n hx hb dX2_readGround_29 rfl (lv_at hl 1 rfl) ?_
    refine lv_iconst (v := 1) hx hb dX2_readGround_30 (by decide) ?_
    refine lv_bipush (v := 6) hx hb dX2_readGround_31 (by decide) ?_
    refine mt_Vi (w1 := fun (u : Int32 × Int32 × Int32 × Int32) => rbL E qr qx fx ln u.1 u.2.1 u.2.2.1 u.2.2.2 cx ck ap) (wf := fun (u : Int32 × Int32 × Int32 × Int32) => rdL E qr qx fx ln u.1 u.2.1 u.2.2.1 u.2.2.2 cx ck ap vp) (wr := [((ap 0), .inr (1, [.int (vp 0 0), .int (vp 1 0), .int (vp 2 0), .ref (ap 3), .ref (ap 4), .int (vp 5 0), .ref (ap 6), .ref (ap 7), .ref (ap 8), .ref (ap 9), .ref (ap 10)])), ((ap 3), .inl (eI E, 24, .inl (vp 3))), ((ap 4), .inl (eI E, 24, .inl (vp 4))), ((ap 6), .inl (eM E, 3, .inr (.inr (.inr (.inr (fun i => some (ap (20 + 10 * i)))))))), ((ap 20), .inr (0, [.int (vp 20 0), .int (vp 21 0), .int (vp 22 0), .ref (ap 23), .ref (ap 24)])), ((ap 23), .inl (eI E, 18, .inl (vp 23))), ((ap 24), .inl (eI E, 24, .inl (vp 24))), ((ap 30), .inr (0, [.int (vp 30 0), .int (vp 31 0), .int (vp 32 0), .ref (ap 33), .ref (ap 34)])), ((ap 33), .inl (eI E, 18, .inl (vp 33))), ((ap 34), .inl (eI E, 24, .inl (vp 34))), ((ap 40), .inr (0, [.int (vp 40 0), .int (vp 41 0), .int (vp 42 0), .ref (ap 43), .ref (ap 44)])), ((ap 43), .inl (eI E, 18, .inl (vp 43))), ((ap 44), .inl (eI E, 24, .inl (vp 44))), ((ap 7), .inr (5, [.int (vp 60 0), .ref (ap 61), .ref (ap 62), .ref (ap 63)])), ((ap 61), .inl (eI E, 6, .inl (vp 61))), ((ap 62), .inl (eI E, 6, .inl (vp 62))), ((ap 63), .inl (eI E, 6, .inl (vp 63))), ((ap 8), .inr (5, [.int (vp 70 0), .ref (ap 71), .ref (ap 72), .ref (ap 73)])), ((ap 71), .inl (eI E, 6, .inl (vp 71))), ((ap 72), .inl (eI E, 6, .inl (vp 72))), ((ap 73), .inl (eI E, 6, .inl (vp 73))), ((ap 9), .inr (5, [.int (vp 80 0), .ref (ap 81), .ref (ap 82), .ref (ap 83)])), ((ap 81), .inl (eI E, 6, .inl (vp 81))), ((ap 82), .inl (eI E, 6, .inl (vp 82))), ((ap 83), .inl (eI E, 6, .inl (vp 83))), ((ap 10), .inr (5, [.int (vp 90 0), .ref (ap 91), .ref (ap 92), .ref (ap 93)])), ((ap 91), .inl (eI E, 6, .inl (vp 91))), ((ap 92), .inl (eI E, 6, .inl (vp 92))), ((ap 93), .inl (eI E, 6, .inl (vp 93)))]) (As := [.int 1, .int 6]) (rest := []) (C := RX2) (ci := 2) ⟨hx, hb, hml, hown, hts⟩ (c_X2_readNumber l E H.size qr qx fx ln o25_ps o25_fn o25_fa o25_na cx ck ap 1 6 (by omega) (by omega)) (cwV 2 hts gX2_readGround_X2_readNumber rfl rfl rfl (by decide +kernel) ⟨Nat.le_of_ble_eq_true rfl, Nat.le_of_ble_eq_true rfl⟩) hE hS hA hP hD [0, 1] [2, 3, 4, 5, 6, 7, 8, 9, 10, 11, 12, 13, 14, 15, 16, 17, 18, 19, 20, 21, 22, 23, 24, 25, 26, 27, 28, 29, 30] rfl rfl (by decide) (by decide) (by decide) [29, 30, 0, 1, 2, 3, 4, 5, 6, 7, 8, 9, 10, 11, 12, 13, 14, 15, 16, 17, 18, 19, 20, 21, 22, 23, 24, 25, 26, 27, 28] (by decide) (fun u => rfl) rfl rfl rfl rfl hl.1 rfl (Nat.le_of_ble_eq_true rfl) dX2_readGround_33 ⟨Nat.zero_le _, Nat.zero_le _⟩ (fun r33 u33 H locs h33 hP hD hS => ?_)
    obtain ⟨o33_ps, o33_fn, o33_fa, o33_na⟩ := u33
    try dsimp only at h33
    have hf33 := h33.2
    replace h33 := h33.1
    replace hP : va_P (eD E) vwCl (rdL E qr qx fx ln o33_ps o33_fn o33_fa o33_na cx ck ap vp) H := hP
    replace hD : va_D A (rdL E qr qx fx ln o33_ps o33_fn o33_fa o33_na cx ck ap vp) := hD
    have pb33 : 0 ≤ r33.toInt ∧ r33.toInt ≤ 6 := pb_rn h33.1 (by decide) (by decide)
    rw [n_1, n_6] at hf33
    have hs33 := CF.then (s := fun z : Unit × (Int × Int × Int) => numF fx ln.toInt 1 6 z.2.2.1) hs25 hf33 ((okF.chk (by decide)).th (fun _ => okF.num)) (fun z hz => by rw [hz.2.2.1])
    refine lv_istore_n (lv' := [(3, .int r33), (2, .int r25), (0, .ref qr), (1, .int wd)]) hx hb dX2_readGround_36 rfl hl (by decide) rfl (fun ls hl => ?_)
    have sv37_r25 : 0 ≤ r25.toInt ∧ r25.toInt ≤ 6 := by omega
    have sv37_r33 : 0 ≤ r33.toInt ∧ r33.toInt ≤ 6 := by omega
    refine lv_aload_n hx hb dX2_readGround_37 rfl (lv_at hl 2 rfl) ?_
    refine lv_iload_n hx hb dX2_readGround_38 rfl (lv_at hl 1 rfl) ?_
    refine lv_iload_n hx hb dX2_readGround_39 rfl (lv_at hl 0 rfl) ?_
    refine lv_imul hx hb dX2_readGround_40 ?_
    refine lv_topi (fun x40 e40 => ?_)
    have t40 := i_mul66 e40 (by omega) (by omega)
    refine lv_bipush (v := 24) hx hb dX2_readGround_41 (by decide) ?_
    have K51 : ∀  (w : Int32) (H : Heap) (locs : List Loc) (ls : Array Slot), va_P (eD E) vwCl (rdL E qr qx fx ln o33_ps o33_fn o33_fa o33_na cx ck ap vp) H → va_D A (rdL E qr qx fx ln o33_ps o33_fn o33_fa o33_na cx ck ap vp) → va_S A s.heap H locs → ((w.toInt = 0 ∧ x40.toInt ≤ 24) ∨ w.toInt = 1) → ((w.toInt = 0 ∧ r25.toInt * r33.toInt ≤ 24) ∨ (w.toInt = 1 ∧ 24 < r25.toInt * r33.toInt)) → lv_has ls 7 [(0, .ref qr), (1, .int wd), (2, .int r25), (3, .int r33)] → W p l e (headSpec wsX2_readGround rm_X2_readGround).room s m ([.ref qr, .int wd] : List Value).toArray below meth c H locs 0 0 Q (F0 m 51 ls [.int w, .ref qr]) := by
      intro w H locs ls hP hD hS h51_0 h51_1 hl
      have hx51_0 := h51_1
      clear h51_1
      refine lv_iconst (v := 2) hx hb dX2_readGround_51 (by decide) ?_
      refine lv_aload_n hx hb dX2_readGround_52 rfl (lv_at hl 0 rfl) ?_
      refine va_get (D := eD E) (ci := 2) (v := .int o33_na) (C := RX2) (T := TX2) (N := 9) hx hb hts in_X2 hown hK hP 0 rfl rfl 6 (by decide) lk2 (fun _ h9 => h9) rfl dX2_readGround_53 ?_
      refine mt_Vv (w1 := fun (u : Int32 × Int32) => rbL E qr qx fx ln o33_ps u.1 u.2 o33_na cx ck ap) (wf := fun (u : Int32 × Int32) => rdL E qr qx fx ln o33_ps u.1 u.2 o33_na cx ck ap vp) (wr := [((ap 0), .inr (1, [.int (vp 0 0), .int (vp 1 0), .int (vp 2 0), .ref (ap 3), .ref (ap 4), .int (vp 5 0), .ref (ap 6), .ref (ap 7), .ref (ap 8), .ref (ap 9), .ref (ap 10)])), ((ap 3), .inl (eI E, 24, .inl (vp 3))), ((ap 4), .inl (eI E, 24, .inl (vp 4))), ((ap 6), .inl (eM E, 3, .inr (.inr (.inr (.inr (fun i => some (ap (20 + 10 * i)))))))), ((ap 20), .inr (0, [.int (vp 20 0), .int (vp 21 0), .int (vp 22 0), .ref (ap 23), .ref (ap 24)])), ((ap 23), .inl (eI E, 18, .inl (vp 23))), ((ap 24), .inl (eI E, 24, .inl (vp 24))), ((ap 30), .inr (0, [.int (vp 30 0), .int (vp 31 0), .int (vp 32 0), .ref (ap 33), .ref (ap 34)])), ((ap 33), .inl (eI E, 18, .inl (vp 33))), ((ap 34), .inl (eI E, 24, .inl (vp 34))), ((ap 40), .inr (0, [.int (vp 40 0), .int (vp 41 0), .int (vp 42 0), .ref (ap 43), .ref (ap 44)])), ((ap 43), .inl (eI E, 18, .inl (vp 43))), ((ap 44), .inl (eI E, 24, .inl (vp 44))), ((ap 7), .inr (5, [.int (vp 60 0), .ref (ap 61), .ref (ap 62), .ref (ap 63)])), ((ap 61), .inl (eI E, 6, .inl (vp 61))), ((ap 62), .inl (eI E, 6, .inl (vp 62))), ((ap 63), .inl (eI E, 6, .inl (vp 63))), ((ap 8), .inr (5, [.int (vp 70 0), .ref (ap 71), .ref (ap 72), .ref (ap 73)])), ((ap 71), .inl (eI E, 6, .inl (vp 71))), ((ap 72), .inl (eI E, 6, .inl (vp 72))), ((ap 73), .inl (eI E, 6, .inl (vp 73))), ((ap 9), .inr (5, [.int (vp 80 0), .ref (ap 81), .ref (ap 82), .ref (ap 83)])), ((ap 81), .inl (eI E, 6, .inl (vp 81))), ((ap 82), .inl (eI E, 6, .inl (vp 82))), ((ap 83), .inl (eI E, 6, .inl (vp 83))), ((ap 10), .inr (5, [.int (vp 90 0), .ref (ap 91), .ref (ap 92), .ref (ap 93)])), ((ap 91), .inl (eI E, 6, .inl (vp 91))), ((ap 92), .inl (eI E, 6, .inl (vp 92))), ((ap 93), .inl (eI E, 6, .inl (vp 93)))]) (As := [.int w, .int 2, .int o33_na]) (rest := []) (C := RX2) (ci := 2) ⟨hx, hb, hml, hown, hts⟩ (c_X2_refuseIf l E H.size qr qx fx ln o33_ps o33_fn o33_fa o33_na cx ck ap w 2 o33_na (by omega)) (cwV 3 hts gX2_readGround_X2_refuseIf rfl rfl rfl (by decide +kernel) ⟨Nat.le_of_ble_eq_true rfl, Nat.le_of_ble_eq_true rfl⟩) hE hS hA hP hD [0, 1] [2, 3, 4, 5, 6, 7, 8, 9, 10, 11, 12, 13, 14, 15, 16, 17, 18, 19, 20, 21, 22, 23, 24, 25, 26, 27, 28, 29, 30] rfl rfl (by decide) (by decide) (by decide) [29, 30, 0, 1, 2, 3, 4, 5, 6, 7, 8, 9, 10, 11, 12, 13, 14, 15, 16, 17, 18, 19, 20, 21, 22, 23, 24, 25, 26, 27, 28] (by decide) (fun u => rfl) rfl rfl rfl rfl hl.1 rfl (Nat.le_of_ble_eq_true rfl) dX2_readGround_56 ⟨Nat.zero_le _, Nat.zero_le _⟩ (fun u56 H locs h56 hP hD hS => ?_)
      obtain ⟨o56_fn, o56_fa⟩ := u56
      try dsimp only at h56
      have hf56 := h56.2
      replace h56 := h56.1
      replace hP : va_P (eD E) vwCl (rdL E qr qx fx ln o33_ps o56_fn o56_fa o33_na cx ck ap vp) H := hP
      replace hD : va_D A (rdL E qr qx fx ln o33_ps o56_fn o56_fa o33_na cx ck ap vp) := hD
      rw [n_2] at hf56
      have hk56 : CF (chk (decide (24 < r25.toInt * r33.toInt)) 2 o33_na.toInt) o33_fn.toInt o33_fa.toInt o56_fn.toInt o56_fa.toInt (fun _ => True) := CF.chk (fun _ => ckB (by omega)) hf56
      clear hf56 hx51_0
      have hs56 := CF.then (s := fun z : (Unit × (Int × Int × Int)) × (Int × Int × Int) => chk (decide (24 < z.1.2.1 * z.2.1)) 2 z.2.2.2) hs33 hk56 (((okF.chk (by decide)).th (fun _ => okF.num)).th (fun _ => okF.num)) (fun z hz => by rw [hz.1.2.1, hz.2.1, hz.2.2.2])
      refine lv_aload_n hx hb dX2_readGround_59 rfl (lv_at hl 0 rfl) ?_
      refine lv_iconst (v := 0) hx hb dX2_readGround_60 (by decide) ?_
      refine lv_bipush (v := 99) hx hb dX2_readGround_61 (by decide) ?_
      refine mt_Vi (w1 := fun (u : Int32 × Int32 × Int32 × Int32) => rbL E qr qx fx ln u.1 u.2.1 u.2.2.1 u.2.2.2 cx ck ap) (wf := fun (u : Int32 × Int32 × Int32 × Int32) => rdL E qr qx fx ln u.1 u.2.1 u.2.2.1 u.2.2.2 cx ck ap vp) (wr := [((ap 0), .inr (1, [.int (vp 0 0), .int (vp 1 0), .int (vp 2 0), .ref (ap 3), .ref (ap 4), .int (vp 5 0), .ref (ap 6), .ref (ap 7), .ref (ap 8), .ref (ap 9), .ref (ap 10)])), ((ap 3), .inl (eI E, 24, .inl (vp 3))), ((ap 4), .inl (eI E, 24, .inl (vp 4))), ((ap 6), .inl (eM E, 3, .inr (.inr (.inr (.inr (fun i => some (ap (20 + 10 * i)))))))), ((ap 20), .inr (0, [.int (vp 20 0), .int (vp 21 0), .int (vp 22 0), .ref (ap 23), .ref (ap 24)])), ((ap 23), .inl (eI E, 18, .inl (vp 23))), ((ap 24), .inl (eI E, 24, .inl (vp 24))), ((ap 30), .inr (0, [.int (vp 30 0), .int (vp 31 0), .int (vp 32 0), .ref (ap 33), .ref (ap 34)])), ((ap 33), .inl (eI E, 18, .inl (vp 33))), ((ap 34), .inl (eI E, 24, .inl (vp 34))), ((ap 40), .inr (0, [.int (vp 40 0), .int (vp 41 0), .int (vp 42 0), .ref (ap 43), .ref (ap 44)])), ((ap 43), .inl (eI E, 18, .inl (vp 43))), ((ap 44), .inl (eI E, 24, .inl (vp 44))), ((ap 7), .inr (5, [.int (vp 60 0), .ref (ap 61), .ref (ap 62), .ref (ap 63)])), ((ap 61), .inl (eI E, 6, .inl (vp 61))), ((ap 62), .inl (eI E, 6, .inl (vp 62))), ((ap 63), .inl (eI E, 6, .inl (vp 63))), ((ap 8), .inr (5, [.int (vp 70 0), .ref (ap 71), .ref (ap 72), .ref (ap 73)])), ((ap 71), .inl (eI E, 6, .inl (vp 71))), ((ap 72), .inl (eI E, 6, .inl (vp 72))), ((ap 73), .inl (eI E, 6, .inl (vp 73))), ((ap 9), .inr (5, [.int (vp 80 0), .ref (ap 81), .ref (ap 82), .ref (ap 83)])), ((ap 81), .inl (eI E, 6, .inl (vp 81))), ((ap 82), .inl (eI E, 6, .inl (vp 82))), ((ap 83), .inl (eI E, 6, .inl (vp 83))), ((ap 10), .inr (5, [.int (vp 90 0), .ref (ap 91), .ref (ap 92), .ref (ap 93)])), ((ap 91), .inl (eI E, 6, .inl (vp 91))), ((ap 92), .inl (eI E, 6, .inl (vp 92))), ((ap 93), .inl (eI E, 6, .inl (vp 93)))]) (As := [.int 0, .int 99]) (rest := []) (C := RX2) (ci := 2) ⟨hx, hb, hml, hown, hts⟩ (c_X2_readNumber l E H.size qr qx fx ln o33_ps o56_fn o56_fa o33_na cx ck ap 0 99 (by omega) (by omega)) (cwV 2 hts gX2_readGround_X2_readNumber rfl rfl rfl (by decide +kernel) ⟨Nat.le_of_ble_eq_true rfl, Nat.le_of_ble_eq_true rfl⟩) hE hS hA hP hD [0, 1] [2, 3, 4, 5, 6, 7, 8, 9, 10, 11, 12, 13, 14, 15, 16, 17, 18, 19, 20, 21, 22, 23, 24, 25, 26, 27, 28, 29, 30] rfl rfl (by decide) (by decide) (by decide) [29, 30, 0, 1, 2, 3, 4, 5, 6, 7, 8, 9, 10, 11, 12, 13, 14, 15, 16, 17, 18, 19, 20, 21, 22, 23, 24, 25, 26, 27, 28] (by decide) (fun u => rfl) rfl rfl rfl rfl hl.1 rfl (Nat.le_of_ble_eq_true rfl) dX2_readGround_63 ⟨Nat.zero_le _, Nat.zero_le _⟩ (fun r63 u63 H locs h63 hP hD hS => ?_)
      obtain ⟨o63_ps, o63_fn, o63_fa, o63_na⟩ := u63
      try dsimp only at h63
      have hf63 := h63.2
      replace h63 := h63.1
      replace hP : va_P (eD E) vwCl (rdL E qr qx fx ln o63_ps o63_fn o63_fa o63_na cx ck ap vp) H := hP
      replace hD : va_D A (rdL E qr qx fx ln o63_ps o63_fn o63_fa o63_na cx ck ap vp) := hD
      have pb63 : 0 ≤ r63.toInt ∧ r63.toInt ≤ 99 := pb_rn h63.1 (by decide) (by decide)
      rw [n_0, n_99] at hf63
      have hs63 := CF.then (s := fun z : ((Unit × (Int × Int × Int)) × (Int × Int × Int)) × Unit => numF fx ln.toInt 0 99 z.1.2.2.1) hs56 hf63 ((((okF.chk (by decide)).th (fun _ => okF.num)).th (fun _ => okF.num)).th (fun _ => (okF.chk (by decide)))) (fun z hz => by rw [hz.1.2.2.1])
      refine lv_istore (lv' := [(4, .int r63), (0, .ref qr), (1, .int wd), (2, .int r25), (3, .int r33)]) hx hb dX2_readGround_66 hl (by decide) rfl (fun ls hl => ?_)
      refine lv_aload_n hx hb dX2_readGround_68 rfl (lv_at hl 1 rfl) ?_
      refine lv_iconst (v := 0) hx hb dX2_readGround_69 (by decide) ?_
      refine lv_bipush (v := 9) hx hb dX2_readGround_70 (by decide) ?_
      refine mt_Vi (w1 := fun (u : Int32 × Int32 × Int32 × Int32) => rbL E qr qx fx ln u.1 u.2.1 u.2.2.1 u.2.2.2 cx ck ap) (wf := fun (u : Int32 × Int32 × Int32 × Int32) => rdL E qr qx fx ln u.1 u.2.1 u.2.2.1 u.2.2.2 cx ck ap vp) (wr := [((ap 0), .inr (1, [.int (vp 0 0), .int (vp 1 0), .int (vp 2 0), .ref (ap 3), .ref (ap 4), .int (vp 5 0), .ref (ap 6), .ref (ap 7), .ref (ap 8), .ref (ap 9), .ref (ap 10)])), ((ap 3), .inl (eI E, 24, .inl (vp 3))), ((ap 4), .inl (eI E, 24, .inl (vp 4))), ((ap 6), .inl (eM E, 3, .inr (.inr (.inr (.inr (fun i => some (ap (20 + 10 * i)))))))), ((ap 20), .inr (0, [.int (vp 20 0), .int (vp 21 0), .int (vp 22 0), .ref (ap 23), .ref (ap 24)])), ((ap 23), .inl (eI E, 18, .inl (vp 23))), ((ap 24), .inl (eI E, 24, .inl (vp 24))), ((ap 30), .inr (0, [.int (vp 30 0), .int (vp 31 0), .int (vp 32 0), .ref (ap 33), .ref (ap 34)])), ((ap 33), .inl (eI E, 18, .inl (vp 33))), ((ap 34), .inl (eI E, 24, .inl (vp 34))), ((ap 40), .inr (0, [.int (vp 40 0), .int (vp 41 0), .int (vp 42 0), .ref (ap 43), .ref (ap 44)])), ((ap 43), .inl (eI E, 18, .inl (vp 43))), ((ap 44), .inl (eI E, 24, .inl (vp 44))), ((ap 7), .inr (5, [.int (vp 60 0), .ref (ap 61), .ref (ap 62), .ref (ap 63)])), ((ap 61), .inl (eI E, 6, .inl (vp 61))), ((ap 62), .inl (eI E, 6, .inl (vp 62))), ((ap 63), .inl (eI E, 6, .inl (vp 63))), ((ap 8), .inr (5, [.int (vp 70 0), .ref (ap 71), .ref (ap 72), .ref (ap 73)])), ((ap 71), .inl (eI E, 6, .inl (vp 71))), ((ap 72), .inl (eI E, 6, .inl (vp 72))), ((ap 73), .inl (eI E, 6, .inl (vp 73))), ((ap 9), .inr (5, [.int (vp 80 0), .ref (ap 81), .ref (ap 82), .ref (ap 83)])), ((ap 81), .inl (eI E, 6, .inl (vp 81))), ((ap 82), .inl (eI E, 6, .inl (vp 82))), ((ap 83), .inl (eI E, 6, .inl (vp 83))), ((ap 10), .inr (5, [.int (vp 90 0), .ref (ap 91), .ref (ap 92), .ref (ap 93)])), ((ap 91), .inl (eI E, 6, .inl (vp 91))), ((ap 92), .inl (eI E, 6, .inl (vp 92))), ((ap 93), .inl (eI E, 6, .inl (vp 93)))]) (As := [.int 0, .int 9]) (rest := []) (C := RX2) (ci := 2) ⟨hx, hb, hml, hown, hts⟩ (c_X2_readNumber l E H.size qr qx fx ln o63_ps o63_fn o63_fa o63_na cx ck ap 0 9 (by omega) (by omega)) (cwV 2 hts gX2_readGround_X2_readNumber rfl rfl rfl (by decide +kernel) ⟨Nat.le_of_ble_eq_true rfl, Nat.le_of_ble_eq_true rfl⟩) hE hS hA hP hD [0, 1] [2, 3, 4, 5, 6, 7, 8, 9, 10, 11, 12, 13, 14, 15, 16, 17, 18, 19, 20, 21, 22, 23, 24, 25, 26, 27, 28, 29, 30] rfl rfl (by decide) (by decide) (by decide) [29, 30, 0, 1, 2, 3, 4, 5, 6, 7, 8, 9, 10, 11, 12, 13, 14, 15, 16, 17, 18, 19, 20, 21, 22, 23, 24, 25, 26, 27, 28] (by decide) (fun u => rfl) rfl rfl rfl rfl hl.1 rfl (Nat.le_of_ble_eq_true rfl) dX2_readGround_72 ⟨Nat.zero_le _, Nat.zero_le _⟩ (fun r72 u72 H locs h72 hP hD hS => ?_)
      obtain ⟨o72_ps, o72_fn, o72_fa, o72_na⟩ := u72
      try dsimp only at h72
      have hf72 := h72.2
      replace h72 := h72.1
      replace hP : va_P (eD E) vwCl (rdL E qr qx fx ln o72_ps o72_fn o72_fa o72_na cx ck ap vp) H := hP
      replace hD : va_D A (rdL E qr qx fx ln o72_ps o72_fn o72_fa o72_na cx ck ap vp) := hD
      have pb72 : 0 ≤ r72.toInt ∧ r72.toInt ≤ 9 := pb_rn h72.1 (by decide) (by decide)
      rw [n_0, n_9] at hf72
      have hs72 := CF.then (s := fun z : (((Unit × (Int × Int × Int)) × (Int × Int × Int)) × Unit) × (Int × Int × Int) => numF fx ln.toInt 0 9 z.2.2.1) hs63 hf72 (((((okF.chk (by decide)).th (fun _ => okF.num)).th (fun _ => okF.num)).th (fun _ => (okF.chk (by decide)))).th (fun _ => okF.num)) (fun z hz => by rw [hz.2.2.1])
      refine lv_istore (lv' := [(5, .int r72), (4, .int r63), (0, .ref qr), (1, .int wd), (2, .int r25), (3, .int r33)]) hx hb dX2_readGround_75 hl (by decide) rfl (fun ls hl => ?_)
      refine lv_aload_n hx hb dX2_readGround_77 rfl (lv_at hl 2 rfl) ?_
      refine lv_bipush (v := 59) hx hb dX2_readGround_78 (by decide) ?_
      refine mt_Vv (w1 := fun (u : Int32 × Int32 × Int32) => rbL E qr qx fx ln u.1 u.2.1 u.2.2 o72_na cx ck ap) (wf := fun (u : Int32 × Int32 × Int32) => rdL E qr qx fx ln u.1 u.2.1 u.2.2 o72_na cx ck ap vp) (wr := [((ap 0), .inr (1, [.int (vp 0 0), .int (vp 1 0), .int (vp 2 0), .ref (ap 3), .ref (ap 4), .int (vp 5 0), .ref (ap 6), .ref (ap 7), .ref (ap 8), .ref (ap 9), .ref (ap 10)])), ((ap 3), .inl (eI E, 24, .inl (vp 3))), ((ap 4), .inl (eI E, 24, .inl (vp 4))), ((ap 6), .inl (eM E, 3, .inr (.inr (.inr (.inr (fun i => some (ap (20 + 10 * i)))))))), ((ap 20), .inr (0, [.int (vp 20 0), .int (vp 21 0), .int (vp 22 0), .ref (ap 23), .ref (ap 24)])), ((ap 23), .inl (eI E, 18, .inl (vp 23))), ((ap 24), .inl (eI E, 24, .inl (vp 24))), ((ap 30), .inr (0, [.int (vp 30 0), .int (vp 31 0), .int (vp 32 0), .ref (ap 33), .ref (ap 34)])), ((ap 33), .inl (eI E, 18, .inl (vp 33))), ((ap 34), .inl (eI E, 24, .inl (vp 34))), ((ap 40), .inr (0, [.int (vp 40 0), .int (vp 41 0), .int (vp 42 0), .ref (ap 43), .ref (ap 44)])), ((ap 43), .inl (eI E, 18, .inl (vp 43))), ((ap 44), .inl (eI E, 24, .inl (vp 44))), ((ap 7), .inr (5, [.int (vp 60 0), .ref (ap 61), .ref (ap 62), .ref (ap 63)])), ((ap 61), .inl (eI E, 6, .inl (vp 61))), ((ap 62), .inl (eI E, 6, .inl (vp 62))), ((ap 63), .inl (eI E, 6, .inl (vp 63))), ((ap 8), .inr (5, [.int (vp 70 0), .ref (ap 71), .ref (ap 72), .ref (ap 73)])), ((ap 71), .inl (eI E, 6, .inl (vp 71))), ((ap 72), .inl (eI E, 6, .inl (vp 72))), ((ap 73), .inl (eI E, 6, .inl (vp 73))), ((ap 9), .inr (5, [.int (vp 80 0), .ref (ap 81), .ref (ap 82), .ref (ap 83)])), ((ap 81), .inl (eI E, 6, .inl (vp 81))), ((ap 82), .inl (eI E, 6, .inl (vp 82))), ((ap 83), .inl (eI E, 6, .inl (vp 83))), ((ap 10), .inr (5, [.int (vp 90 0), .ref (ap 91), .ref (ap 92), .ref (ap 93)])), ((ap 91), .inl (eI E, 6, .inl (vp 91))), ((ap 92), .inl (eI E, 6, .inl (vp 92))), ((ap 93), .inl (eI E, 6, .inl (vp 93)))]) (As := [.int 59]) (rest := []) (C := RX2) (ci := 2) ⟨hx, hb, hml, hown, hts⟩ (c_X2_readSign l E H.size qr qx fx ln o72_ps o72_fn o72_fa o72_na cx ck ap 59 (by omega) (by omega)) (cwV 1 hts gX2_readGround_X2_readSign rfl rfl rfl (by decide +kernel) ⟨Nat.le_of_ble_eq_true rfl, Nat.le_of_ble_eq_true rfl⟩) hE hS hA hP hD [0, 1] [2, 3, 4, 5, 6, 7, 8, 9, 10, 11, 12, 13, 14, 15, 16, 17, 18, 19, 20, 21, 22, 23, 24, 25, 26, 27, 28, 29, 30] rfl rfl (by decide) (by decide) (by decide) [29, 30, 0, 1, 2, 3, 4, 5, 6, 7, 8, 9, 10, 11, 12, 13, 14, 15, 16, 17, 18, 19, 20, 21, 22, 23, 24, 25, 26, 27, 28] (by decide) (fun u => rfl) rfl rfl rfl rfl hl.1 rfl (Nat.le_of_ble_eq_true rfl) dX2_readGround_80 ⟨Nat.zero_le _, Nat.zero_le _⟩ (fun u80 H locs h80 hP hD hS => ?_)
      obtain ⟨o80_ps, o80_fn, o80_fa⟩ := u80
      try dsimp only at h80
      have hf80 := h80.2
      replace h80 := h80.1
      replace hP : va_P (eD E) vwCl (rdL E qr qx fx ln o80_ps o80_fn o80_fa o72_na cx ck ap vp) H := hP
      replace hD : va_D A (rdL E qr qx fx ln o80_ps o80_fn o80_fa o72_na cx ck ap vp) := hD
      rw [n_59] at hf80
      have hs80 := CF.then (s := fun z : ((((Unit × (Int × Int × Int)) × (Int × Int × Int)) × Unit) × (Int × Int × Int)) × (Int × Int × Int) => sgnF fx ln.toInt 59 z.2.2.1) hs72 hf80 ((((((okF.chk (by decide)).th (fun _ => okF.num)).th (fun _ => okF.num)).th (fun _ => (okF.chk (by decide)))).th (fun _ => okF.num)).th (fun _ => okF.num)) (fun z hz => by rw [hz.2.2.1])
      refine lv_aload_n hx hb dX2_readGround_83 rfl (lv_at hl 2 rfl) ?_
      refine va_get (D := eD E) (ci := 2) (v := .int o80_fn) (C := RX2) (T := TX2) (N := 9) hx hb hts in_X2 hown hK hP 0 rfl rfl 4 (by decide) lk3 (fun _ h9 => h9) rfl dX2_readGround_84 ?_
      refine lv_if_eq (tgt := 91) hx hb dX2_readGround_87 (by decide) (fun c87 => ?_) (fun c87 => ?_)
      · have c87_ := i_eq c87
        have f72 := z_back h80.2.2.2 (c87_.trans n_0)
        have f63 := rn_ok h72 f72
        have f56 := rn_ok h63 f63.1
        have f33 := rf_ok h56 f56.1
        have f25 := rn_ok h33 f33.2
        have f18 := rn_ok h25 f25.1
        have hpx : ps.toInt ≤ o80_ps.toInt ∧ o80_ps.toInt ≤ ln.toInt := by omega
        have hx40 : x40.toInt ≤ 24 := h51_0.elim (fun q => q.2) (fun q => by have := f33.1; omega)
        clear h80 h72 h63 h56 h33 h25 h18 h51_0
        have hrg := (f25.2 : _)
        have hg1a : 1 ≤ r25.toInt ∧ 1 ≤ r33.toInt := by omega
        refine lv_aload_n hx hb dX2_readGround_91 rfl (lv_at hl 2 rfl) ?_
        refine va_get (D := eD E) (ci := 2) (v := .ref (ap 0)) (C := RX2) (T := TX2) (N := 9) hx hb hts in_X2 hown hK hP 0 rfl rfl 3 (by decide) lk0 (fun _ h9 => h9) rfl dX2_readGround_92 ?_
        refine lv_iload_n hx hb dX2_readGround_95 rfl (lv_at hl 4 rfl) ?_
        refine va_put (D := eD E) (ci := 1) (v := .int r25) (ty := .int) (C := RX1) (T := TX1) (N := 11) hx hb hts in_X1 tyX1 tyX1_ok nmX1 hown hK hP hD hS 2 rfl rfl 0 (by decide) lk4 (fun _ h9 => h9) rfl (by decide +kernel) rfl rfl (Nat.le_of_ble_eq_true rfl) dX2_readGround_96 (fun H locs hP hD hS => ?_)
        replace hP : va_P (eD E) vwCl (rdL E qr qx fx ln o80_ps o80_fn o80_fa o72_na cx ck ap (up2 vp 0 0 r25)) H := hP
        replace hD : va_D A (rdL E qr qx fx ln o80_ps o80_fn o80_fa o72_na cx ck ap (up2 vp 0 0 r25)) := hD
        generalize hv96 : up2 vp 0 0 r25 = vp_96 at hP hD
        refine lv_aload_n hx hb dX2_readGround_99 rfl (lv_at hl 2 rfl) ?_
        refine va_get (D := eD E) (ci := 2) (v := .ref (ap 0)) (C := RX2) (T := TX2) (N := 9) hx hb hts in_X2 hown hK hP 0 rfl rfl 3 (by decide) lk0 (fun _ h9 => h9) rfl dX2_readGround_100 ?_
        refine lv_iload_n hx hb dX2_readGround_103 rfl (lv_at hl 5 rfl) ?_
        refine va_put (D := eD E) (ci := 1) (v := .int r33) (ty := .int) (C := RX1) (T := TX1) (N := 11) hx hb hts in_X1 tyX1 tyX1_ok nmX1 hown hK hP hD hS 2 rfl rfl 1 (by decide) lk5 (fun _ h9 => h9) rfl (by decide +kernel) rfl rfl (Nat.le_of_ble_eq_true rfl) dX2_readGround_104 (fun H locs hP hD hS => ?_)
        replace hP : va_P (eD E) vwCl (rdL E qr qx fx ln o80_ps o80_fn o80_fa o72_na cx ck ap (up2 vp_96 1 0 r33)) H := hP
        replace hD : va_D A (rdL E qr qx fx ln o80_ps o80_fn o80_fa o72_na cx ck ap (up2 vp_96 1 0 r33)) := hD
        generalize hv104 : up2 vp_96 1 0 r33 = vp_104 at hP hD
        refine lv_aload_n hx hb dX2_readGround_107 rfl (lv_at hl 2 rfl) ?_
        refine va_get (D := eD E) (ci := 2) (v := .ref (ap 0)) (C := RX2) (T := TX2) (N := 9) hx hb hts in_X2 hown hK hP 0 rfl rfl 3 (by decide) lk0 (fun _ h9 => h9) rfl dX2_readGround_108 ?_
        refine lv_iload_n hx hb dX2_readGround_111 rfl (lv_at hl 4 rfl) ?_
        refine lv_iload_n hx hb dX2_readGround_112 rfl (lv_at hl 5 rfl) ?_
        refine lv_imul hx hb dX2_readGround_113 ?_
        refine lv_topi (fun x113 e113 => ?_)
        have t113 := i_mul66 e113 (by omega) (by omega)
        refine va_put (D := eD E) (ci := 1) (v := .int x113) (ty := .int) (C := RX1) (T := TX1) (N := 11) hx hb hts in_X1 tyX1 tyX1_ok nmX1 hown hK hP hD hS 2 rfl rfl 2 (by decide) lk1 (fun _ h9 => h9) rfl (by decide +kernel) rfl rfl (Nat.le_of_ble_eq_true rfl) dX2_readGround_114 (fun H locs hP hD hS => ?_)
        replace hP : va_P (eD E) vwCl (rdL E qr qx fx ln o80_ps o80_fn o80_fa o72_na cx ck ap (up2 vp_104 2 0 x113)) H := hP
        replace hD : va_D A (rdL E qr qx fx ln o80_ps o80_fn o80_fa o72_na cx ck ap (up2 vp_104 2 0 x113)) := hD
        generalize hv114 : up2 vp_104 2 0 x113 = vp_114 at hP hD
        have hI2 : PlanI vp_114 := by rw [← hv114, ← hv104, ← hv96]; exact pl_ground hI ⟨⟨by omega, by omega⟩, ⟨by omega, by omega⟩, t113.1, by omega⟩
        refine lv_iconst (v := 0) hx hb dX2_readGround_117 (by decide) ?_
        refine lv_istore (lv' := [(6, .int 0), (5, .int r72), (4, .int r63), (0, .ref qr), (1, .int wd), (2, .int r25), (3, .int r33)]) hx hb dX2_readGround_118 hl (by decide) rfl (fun ls hl => ?_)
        have K120 : ∀ (μ : Nat) (k : Int32) (vpk : Vf) (H : Heap) (locs : List Loc) (ls : Array Slot), (24 - k.toInt).toNat < μ → va_P (eD E) vwCl (rdL E qr qx fx ln o80_ps o80_fn o80_fa o72_na cx ck ap vpk) H → va_D A (rdL E qr qx fx ln o80_ps o80_fn o80_fa o72_na cx ck ap vpk) → va_S A s.heap H locs → (0 ≤ k.toInt ∧ k.toInt ≤ 24) → (PlanI vpk) → (∀ j : Nat, (j : Int) < k.toInt → vpk 3 j = r63 ∧ vpk 4 j = r72) → (∀ t, t ≠ 3 → t ≠ 4 → vpk t = vp_114 t) → lv_has ls 7 [(0, .ref qr), (1, .int wd), (2, .int r25), (3, .int r33), (4, .int r63), (5, .int r72), (6, .int k)] → W p l e (headSpec wsX2_readGround rm_X2_readGround).room s m ([.ref qr, .int wd] : List Value).toArray below meth c H locs 0 0 Q (F0 m 120 ls []) := by
          intro μ
          induction μ with
          | zero =>
            intro k vpk H locs ls hμ120
            exact absurd hμ120 (Nat.not_lt_zero _)
          | succ μ ih120 =>
            intro k vpk H locs ls hμ120 hP hD hS h120_0 h120_1 h120_2 h120_3 hl
            have hx120_0 := h120_2
            clear h120_2
            have hx120_1 := h120_3
            clear h120_3
            have hgk := h120_1.1.2.2.2
            refine lv_iload hx hb dX2_readGround_120 (lv_at hl 6 rfl) ?_
            refine lv_aload_n hx hb dX2_readGround_122 rfl (lv_at hl 0 rfl) ?_
            refine va_get (D := eD E) (ci := 2) (v := .ref (ap 0)) (C := RX2) (T := TX2) (N := 9) hx hb hts in_X2 hown hK hP 0 rfl rfl 3 (by decide) lk0 (fun _ h9 => h9) rfl dX2_readGround_123 ?_
            refine va_get (D := eD E) (ci := 1) (v := .int (vpk 2 0)) (C := RX1) (T := TX1) (N := 11) hx hb hts in_X1 hown hK hP 2 rfl rfl 2 (by decide) lk1 (fun _ h9 => h9) rfl dX2_readGround_126 ?_
            refine lv_icmp_ge (tgt := 162) hx hb dX2_readGround_129 (by decide) (fun c129 => ?_) (fun c129 => ?_)
            · have c129_ := i_le c129
              subst hQ
              exact W.vret hx hb hr (fun t ht hW => ⟨⟨(o80_ps, o80_fn, o80_fa, o72_na, vpk), rfl, (show (PlanI vpk ∧ (ps.toInt ≤ o80_ps.toInt ∧ o80_ps.toInt ≤ ln.toInt + 1) ∧ (o80_fn.toInt ≠ 0 ∨ o80_ps.toInt ≤ ln.toInt)) ∧ (CF (groundF fx ln.toInt S wd.toInt ps.toInt) fn.toInt fa.toInt o80_fn.toInt o80_fa.toInt (fun z => o80_ps.toInt = z.2 ∧ Rp (groundS S z.1.1.1.1.1.2.1 z.1.1.1.1.2.1 z.1.1.2.1 z.1.2.1) vpk cx ck)) from ⟨⟨h120_1, by omega, by omega⟩, (hs80.mono2 (fun q1 q2 z hzz hz => ⟨hz.2, by rw [← hz.1.1.1.1.1.2.1, ← hz.1.1.1.1.2.1, ← hz.1.1.2.1, ← hz.1.2.1]; have hcx : (vpk 2 0).toInt = r25.toInt * r33.toInt := (by rw [hx120_1 2 (by decide) (by decide), ← hv114]; exact t113.1); have hg0 : S 37 0 = 0 := (by have q3 := chk_no (th_get (th_get (th_get (th_get (th_get (th_get hzz).1).1).1).1).1).1; have q4 := hRp.1.2.2.2; omega); exact rp_ground hRp (fun t a0 a1 a2 a3 a4 => by rw [hx120_1 t a3 a4, ← hv114, up2N a2, ← hv104, up2N a1, ← hv96, up2N a0]) (by rw [hx120_1 0 (by decide) (by decide), ← hv114, ← hv104, ← hv96]; rfl) (by rw [hx120_1 1 (by decide) (by decide), ← hv114, ← hv104]; rfl) hg0 hg1a (by omega) (fun j hj => hx120_0 j (by omega))⟩))⟩), by rw [ht]; exact hP, hD⟩, hS.F ht⟩) hS.2.2 dX2_readGround_162
            · have c129_ := i_nle c129
              refine lv_aload_n hx hb dX2_readGround_132 rfl (lv_at hl 0 rfl) ?_
              refine va_get (D := eD E) (ci := 2) (v := .ref (ap 0)) (C := RX2) (T := TX2) (N := 9) hx hb hts in_X2 hown hK hP 0 rfl rfl 3 (by decide) lk0 (fun _ h9 => h9) rfl dX2_readGround_133 ?_
              refine va_get (D := eD E) (ci := 1) (v := .ref (ap 3)) (C := RX1) (T := TX1) (N := 11) hx hb hts in_X1 hown hK hP 2 rfl rfl 3 (by decide) lk6 (fun _ h9 => h9) rfl dX2_readGround_136 ?_
              refine lv_iload hx hb dX2_readGround_139 (lv_at hl 6 rfl) ?_
              refine lv_iload hx hb dX2_readGround_141 (lv_at hl 4 rfl) ?_
              refine va_iast hx hb hK hP hD hS 3 0 rfl rfl (n := 24) (f := (vpk 3)) (i_in (by omega) (by omega)) dX2_readGround_143 (fun H locs hP hD hS => ?_)
              replace hP : va_P (eD E) vwCl (rdL E qr qx fx ln o80_ps o80_fn o80_fa o72_na cx ck ap (up2 vpk 3 k.toNatClampNeg r63)) H := hP
              replace hD : va_D A (rdL E qr qx fx ln o80_ps o80_fn o80_fa o72_na cx ck ap (up2 vpk 3 k.toNatClampNeg r63)) := hD
              generalize hv143 : up2 vpk 3 k.toNatClampNeg r63 = vp_143 at hP hD
              refine lv_aload_n hx hb dX2_readGround_144 rfl (lv_at hl 0 rfl) ?_
              refine va_get (D := eD E) (ci := 2) (v := .ref (ap 0)) (C := RX2) (T := TX2) (N := 9) hx hb hts in_X2 hown hK hP 0 rfl rfl 3 (by decide) lk0 (fun _ h9 => h9) rfl dX2_readGround_145 ?_
              refine va_get (D := eD E) (ci := 1) (v := .ref (ap 4)) (C := RX1) (T := TX1) (N := 11) hx hb hts in_X1 hown hK hP 2 rfl rfl 4 (by decide) lk7 (fun _ h9 => h9) rfl dX2_readGround_148 ?_
              refine lv_iload hx hb dX2_readGround_151 (lv_at hl 6 rfl) ?_
              refine lv_iload hx hb dX2_readGround_153 (lv_at hl 5 rfl) ?_
              refine va_iast hx hb hK hP hD hS 4 0 rfl rfl (n := 24) (f := (vp_143 4)) (i_in (by omega) (by omega)) dX2_readGround_155 (fun H locs hP hD hS => ?_)
              replace hP : va_P (eD E) vwCl (rdL E qr qx fx ln o80_ps o80_fn o80_fa o72_na cx ck ap (up2 vp_143 4 k.toNatClampNeg r72)) H := hP
              replace hD : va_D A (rdL E qr qx fx ln o80_ps o80_fn o80_fa o72_na cx ck ap (up2 vp_143 4 k.toNatClampNeg r72)) := hD
              generalize hv155 : up2 vp_143 4 k.toNatClampNeg r72 = vp_155 at hP hD
              obtain ⟨x156, e156⟩ : ∃ y : Int32, y = k + 1 := ⟨_, rfl⟩
              refine lv_iinc (v := x156) (lv' := [(6, .int x156), (0, .ref qr), (1, .int wd), (2, .int r25), (3, .int r33), (4, .int r63), (5, .int r72)]) hx hb dX2_readGround_156 hl (k := 6) rfl (by rw [e156]; rfl) (by decide) rfl (fun ls hl => ?_)
              have t156 := i_add e156 (by omega)
              refine lv_goto (tgt := 120) hx hb dX2_readGround_159 (by decide) ?_
              exact ih120 x156 vp_155 _ _ ls (by omega) hP hD hS (by omega) (by rw [← hv155, ← hv143]; exact h120_1) (by rw [← hv155, ← hv143]; exact gr_step hx120_0 (by omega) (by omega)) (fun t a1 a2 => by rw [← hv155, ← hv143, up2N a2, up2N a1]; exact hx120_1 t a1 a2) (lv_sub hl [1, 2, 3, 4, 5, 6, 0] rfl)
        exact K120 _ 0 vp_114 _ _ ls (Nat.lt_succ_self _) hP hD hS (by omega) hI2 (fun j hj => absurd hj (by omega)) (fun _ _ _ => rfl) (lv_sub hl [3, 4, 5, 6, 2, 1, 0] rfl)
      · have c87_ := i_ne c87
        subst hQ
        exact W.vret hx hb hr (fun t ht hW => ⟨⟨(o80_ps, o80_fn, o80_fa, o72_na, vp), rfl, (show (PlanI vp ∧ (ps.toInt ≤ o80_ps.toInt ∧ o80_ps.toInt ≤ ln.toInt + 1) ∧ (o80_fn.toInt ≠ 0 ∨ o80_ps.toInt ≤ ln.toInt)) ∧ (CF (groundF fx ln.toInt S wd.toInt ps.toInt) fn.toInt fa.toInt o80_fn.toInt o80_fa.toInt (fun z => o80_ps.toInt = z.2 ∧ Rp (groundS S z.1.1.1.1.1.2.1 z.1.1.1.1.2.1 z.1.1.2.1 z.1.2.1) vp cx ck)) from ⟨⟨hI, by omega, by omega⟩, (hs80.mono (fun q1 q2 z hz => absurd q2 (by omega)))⟩), by rw [ht]; exact hP, hD⟩, hS.F ht⟩) hS.2.2 dX2_readGround_90
    refine lv_icmp_le (tgt := 50) hx hb dX2_readGround_43 (by decide) (fun c43 => ?_) (fun c43 => ?_)
    · have c43_ := i_le c43
      refine lv_iconst (v := 0) hx hb dX2_readGround_50 (by decide) ?_
      exact K51 0 _ _ ls hP hD hS (by omega) (Or.inl ⟨by decide, by omega⟩) (lv_sub hl [2, 3, 1, 0] rfl)
    · have c43_ := i_nle c43
      refine lv_iconst (v := 1) hx hb dX2_readGround_46 (by decide) ?_
      refine lv_goto (tgt := 51) hx hb dX2_readGround_47 (by decide) ?_
      exact K51 1 _ _ ls hP hD hS (by omega) (Or.inr ⟨by decide, by omega⟩) (lv_sub hl [2, 3, 1, 0] rfl)
  refine lv_if_le (tgt := 15) hx hb dX2_readGround_8 (by decide) (fun c8 => ?_) (fun c8 => ?_)
  · have c8_ := i_le c8
    refine lv_iconst (v := 0) hx hb dX2_readGround_15 (by decide) ?_
    exact K16 0 _ _ ls hP hD hS (Or.inl ⟨by decide, by omega⟩) (lv_sub hl [0, 1] rfl)
  · have c8_ := i_nle c8
    refine lv_iconst (v := 1) hx hb dX2_readGround_11 (by decide) ?_
    refine lv_goto (tgt := 16) hx hb dX2_readGround_12 (by decide) ?_
    exact K16 1 _ _ ls hP hD hS (Or.inr ⟨by decide, by omega⟩) (lv_sub hl [0, 1] rfl)
end
section
def rm_X2_readCell : Room := { frames := 3, cells := 0, slots := 0, locals := 69 }
set_option maxHeartbeats 4000000 in
set_option maxRecDepth 100000 in
theorem c_X2_readCell (l : Launch) (E : Ev) (sz : Nat) (qr : Nat) (qx : Nat) (fx : Nat → Int32) (ln : Int32) (ps : Int32) (fn : Int32) (fa : Int32) (na : Int32) (cx : Int32) (ck : Int32) (ap : Nat → Nat) (vp : Vf) (wd : Int32) (S : St0) (hln : 0 ≤ ln.toInt ∧ ln.toInt ≤ 250) (hps : 0 ≤ ps.toInt ∧ ps.toInt ≤ ln.toInt) (hI : PlanI vp) (hRp : Rp S vp cx ck) : Met l yX2_readCell wsX2_readCell rm_X2_readCell (MtP E sz [.ref qr, .int wd] (rdL E qr qx fx ln ps fn fa na cx ck ap vp)) (va_Qv (fun (u : Int32 × Int32 × Int32 × Int32 × Int32 × Int32 × Vf) => (PlanI u.2.2.2.2.2.2 ∧ (ps.toInt ≤ u.1.toInt ∧ u.1.toInt ≤ ln.toInt + 1) ∧ (u.2.1.toInt ≠ 0 ∨ u.1.toInt ≤ ln.toInt)) ∧ (CF (cellF fx ln.toInt S wd.toInt ps.toInt) fn.toInt fa.toInt u.2.1.toInt u.2.2.1.toInt (fun z => u.1.toInt = z.2 ∧ Rp (cellS S (plc (S 37 0) z.1.1.1.1.2) z.1.1.2.1 z.1.2.1) u.2.2.2.2.2.2 u.2.2.2.2.1 u.2.2.2.2.2.1))) (MtB E (va_A (rdL E qr qx fx ln ps fn fa na cx ck ap vp) sz) (fun u => rdL E qr qx fx ln u.1 u.2.1 u.2.2.1 u.2.2.2.1 u.2.2.2.2.1 u.2.2.2.2.2.1 ap u.2.2.2.2.2.2)) (va_A (rdL E qr qx fx ln ps fn fa na cx ck ap vp) sz)) 0 0 (va_A (rdL E qr qx fx ln ps fn fa na cx ck ap vp) sz) := by
  refine Met.ofW (cc := cX2_readCell) (maxL := 5) (ret := none) (by decide) rfl ?_
  intro p e s m args below meth c s₁ B hml hv
  obtain ⟨rfl, hsz, hE, hP, hD0⟩ := hv
  subst hsz
  have hD := hD0.self (sz := s.heap.size)
  generalize hAe : va_A (rdL E qr qx fx ln ps fn fa na cx ck ap vp) s.heap.size = A at hD hE ⊢
  have hA : ∀ q : Nat, s.heap.size ≤ q → A q := fun q h => by rw [← hAe]; exact Or.inr h
  have hS : va_S A s.heap s.heap [] := va_S.rf
  have hx := B.exec
  have hb := B.bytes
  have hr := B.returns
  have hts := atoms_spec (ws := wsX2_readCell) B.pre
  have hown : s.vm.findClass RX2 = some m.cls := findClass_of_methodNamed B.named
  have hlocks := B.notSynchronized
  have hK := hE.1
  have in_X2 : ∀ w ∈ u_ws RX2 TX2 9, w ∈ wsX2_readCell := fun w h => List.mem_cons_of_mem _ (List.mem_append_left _ (List.mem_append_right _ h))
  have in_X1 : ∀ w ∈ u_ws RX1 TX1 11, w ∈ wsX2_readCell := fun w h => List.mem_cons_of_mem _ (List.mem_append_right _ h)
  have lk0 := hts (.fieldLink RX2 46 "TidedGround$Reader" "changedCount" "I") (List.mem_of_getElem? (i := 1) rfl)
  have lk1 := hts (.fieldLink RX2 43 "TidedGround$Reader" "changedCells" "I") (List.mem_of_getElem? (i := 2) rfl)
  have lk2 := hts (.fieldLink RX2 87 "TidedGround$Reader" "numberAt" "I") (List.mem_of_getElem? (i := 3) rfl)
  have lk3 := hts (.fieldLink RX2 37 "TidedGround$Reader" "faultNumber" "I") (List.mem_of_getElem? (i := 4) rfl)
  have lk4 := hts (.fieldLink RX2 28 "TidedGround$Reader" "plan" "LTidedGround$Plan;") (List.mem_of_getElem? (i := 5) rfl)
  have lk5 := hts (.fieldLink RX2 99 "TidedGround$Plan" "base" "[I") (List.mem_of_getElem? (i := 6) rfl)
  have lk6 := hts (.fieldLink RX2 102 "TidedGround$Plan" "softness" "[I") (List.mem_of_getElem? (i := 7) rfl)
  have n_0 : (0 : Int32).toInt = 0 := by decide
  have n_1 : (1 : Int32).toInt = 1 := by decide
  have n_3 : (3 : Int32).toInt = 3 := by decide
  have n_4 : (4 : Int32).toInt = 4 := by decide
  have n_9 : (9 : Int32).toInt = 9 := by decide
  have n_12 : (12 : Int32).toInt = 12 := by decide
  have n_59 : (59 : Int32).toInt = 59 := by decide
  have n_99 : (99 : Int32).toInt = 99 := by decide
  have hl := lv_entry ([.ref qr, .int wd]) (n := 5) (Nat.le_of_ble_eq_true rfl)
  rw [lg_entry_eq]
  generalize (lg_sl ([.ref qr, .int wd]) ++ List.replicate (5 - (lg_sl ([.ref qr, .int wd])).length) Slot.unset).toArray = ls at hl ⊢
  have hl : lv_has ls 5 [(0, .ref qr), (1, .int wd)] := hl
  refine W_abs (fun Q hQ => ?_)
  obtain ⟨hg, hmc, hm0, hm1, hm2, hs0, hs1, hs2, hs3⟩ := id hI
  obtain ⟨hg1, hg2, hg3, hg4⟩ := id hg
  have hz0 := hm0.1
  have hz1 := hm1.1
  have hz2 := hm2.1
  have hc0 := hs0.1
  have hc1 := hs1.1
  have hc2 := hs2.1
  have hc3 := hs3.1
  have hg5 : 0 ≤ (vp 2 0).toInt := by rw [hg3]; exact Int.mul_nonneg hg1.1 hg2.1
  have hRl := hRp.2.1
  have hcn := hRl.1
  have hc0 := hRl.2.1
  refine lv_aload_n hx hb dX2_readCell_0 rfl (lv_at hl 0 rfl) ?_
  refine lv_aload_n hx hb dX2_readCell_1 rfl (lv_at hl 0 rfl) ?_
  refine va_get (D := eD E) (ci := 2) (v := .int ck) (C := RX2) (T := TX2) (N := 9) hx hb hts in_X2 hown hK hP 0 rfl rfl 8 (by decide) lk0 (fun _ h9 => h9) rfl dX2_readCell_2 ?_
  refine lv_bipush (v := 12) hx hb dX2_readCell_5 (by decide) ?_
  have K15 : ∀  (w : Int32) (H : Heap) (locs : List Loc) (ls : Array Slot), va_P (eD E) vwCl (rdL E qr qx fx ln ps fn fa na cx ck ap vp) H → va_D A (rdL E qr qx fx ln ps fn fa na cx ck ap vp) → va_S A s.heap H locs → ((w.toInt = 0 ∧ ck.toInt < 12) ∨ (w.toInt = 1 ∧ 12 ≤ ck.toInt)) → lv_has ls 5 [(0, .ref qr), (1, .int wd)] → W p l e (headSpec wsX2_readCell rm_X2_readCell).room s m ([.ref qr, .int wd] : List Value).toArray below meth c H locs 0 0 Q (F0 m 15 ls [.int w, .ref qr]) := by
    intro w H locs ls hP hD hS h15_0 hl
    have hx15_0 := h15_0
    clear h15_0
    refine lv_iconst (v := 3) hx hb dX2_readCell_15 (by decide) ?_
    refine lv_iload_n hx hb dX2_readCell_16 rfl (lv_at hl 1 rfl) ?_
    refine mt_Vv (w1 := fun (u : Int32 × Int32) => rbL E qr qx fx ln ps u.1 u.2 na cx ck ap) (wf := fun (u : Int32 × Int32) => rdL E qr qx fx ln ps u.1 u.2 na cx ck ap vp) (wr := [((ap 0), .inr (1, [.int (vp 0 0), .int (vp 1 0), .int (vp 2 0), .ref (ap 3), .ref (ap 4), .int (vp 5 0), .ref (ap 6), .ref (ap 7), .ref (ap 8), .ref (ap 9), .ref (ap 10)])), ((ap 3), .inl (eI E, 24, .inl (vp 3))), ((ap 4), .inl (eI E, 24, .inl (vp 4))), ((ap 6), .inl (eM E, 3, .inr (.inr (.inr (.inr (fun i => some (ap (20 + 10 * i)))))))), ((ap 20), .inr (0, [.int (vp 20 0), .int (vp 21 0), .int (vp 22 0), .ref (ap 23), .ref (ap 24)])), ((ap 23), .inl (eI E, 18, .inl (vp 23))), ((ap 24), .inl (eI E, 24, .inl (vp 24))), ((ap 30), .inr (0, [.int (vp 30 0), .int (vp 31 0), .int (vp 32 0), .ref (ap 33), .ref (ap 34)])), ((ap 33), .inl (eI E, 18, .inl (vp 33))), ((ap 34), .inl (eI E, 24, .inl (vp 34))), ((ap 40), .inr (0, [.int (vp 40 0), .int (vp 41 0), .int (vp 42 0), .ref (ap 43), .ref (ap 44)])), ((ap 43), .inl (eI E, 18, .inl (vp 43))), ((ap 44), .inl (eI E, 24, .inl (vp 44))), ((ap 7), .inr (5, [.int (vp 60 0), .ref (ap 61), .ref (ap 62), .ref (ap 63)])), ((ap 61), .inl (eI E, 6, .inl (vp 61))), ((ap 62), .inl (eI E, 6, .inl (vp 62))), ((ap 63), .inl (eI E, 6, .inl (vp 63))), ((ap 8), .inr (5, [.int (vp 70 0), .ref (ap 71), .ref (ap 72), .ref (ap 73)])), ((ap 71), .inl (eI E, 6, .inl (vp 71))), ((ap 72), .inl (eI E, 6, .inl (vp 72))), ((ap 73), .inl (eI E, 6, .inl (vp 73))), ((ap 9), .inr (5, [.int (vp 80 0), .ref (ap 81), .ref (ap 82), .ref (ap 83)])), ((ap 81), .inl (eI E, 6, .inl (vp 81))), ((ap 82), .inl (eI E, 6, .inl (vp 82))), ((ap 83), .inl (eI E, 6, .inl (vp 83))), ((ap 10), .inr (5, [.int (vp 90 0), .ref (ap 91), .ref (ap 92), .ref (ap 93)])), ((ap 91), .inl (eI E, 6, .inl (vp 91))), ((ap 92), .inl (eI E, 6, .inl (vp 92))), ((ap 93), .inl (eI E, 6, .inl (vp 93)))]) (As := [.int w, .int 3, .int wd]) (rest := []) (C := RX2) (ci := 2) ⟨hx, hb, hml, hown, hts⟩ (c_X2_refuseIf l E H.size qr qx fx ln ps fn fa na cx ck ap w 3 wd (by omega)) (cwV 3 hts gX2_readCell_X2_refuseIf rfl rfl rfl (by decide +kernel) ⟨Nat.le_of_ble_eq_true rfl, Nat.le_of_ble_eq_true rfl⟩) hE hS hA hP hD [0, 1] [2, 3, 4, 5, 6, 7, 8, 9, 10, 11, 12, 13, 14, 15, 16, 17, 18, 19, 20, 21, 22, 23, 24, 25, 26, 27, 28, 29, 30] rfl rfl (by decide) (by decide) (by decide) [29, 30, 0, 1, 2, 3, 4, 5, 6, 7, 8, 9, 10, 11, 12, 13, 14, 15, 16, 17, 18, 19, 20, 21, 22, 23, 24, 25, 26, 27, 28] (by decide) (fun u => rfl) rfl rfl rfl rfl hl.1 rfl (Nat.le_of_ble_eq_true rfl) dX2_readCell_17 ⟨Nat.zero_le _, Nat.zero_le _⟩ (fun u17 H locs h17 hP hD hS => ?_)
    obtain ⟨o17_fn, o17_fa⟩ := u17
    try dsimp only at h17
    have hf17 := h17.2
    replace h17 := h17.1
    replace hP : va_P (eD E) vwCl (rdL E qr qx fx ln ps o17_fn o17_fa na cx ck ap vp) H := hP
    replace hD : va_D A (rdL E qr qx fx ln ps o17_fn o17_fa na cx ck ap vp) := hD
    rw [n_3] at hf17
    have hk17 : CF (chk (decide (12 ≤ S 41 0)) 3 wd.toInt) fn.toInt fa.toInt o17_fn.toInt o17_fa.toInt (fun _ => True) := CF.chk (fun _ => ckB (by omega)) hf17
    clear hf17 hx15_0
    refine lv_aload_n hx hb dX2_readCell_20 rfl (lv_at hl 0 rfl) ?_
    refine mt_Vi (w1 := fun (u : Int32 × Int32 × Int32 × Int32) => rdL E qr qx fx ln u.1 u.2.1 u.2.2.1 u.2.2.2 cx ck ap vp) (wf := fun (u : Int32 × Int32 × Int32 × Int32) => rdL E qr qx fx ln u.1 u.2.1 u.2.2.1 u.2.2.2 cx ck ap vp) (wr := []) (As := []) (rest := []) (C := RX2) (ci := 2) ⟨hx, hb, hml, hown, hts⟩ (c_X2_readPlace l E H.size qr qx fx ln ps o17_fn o17_fa na cx ck ap vp (by omega) (by omega) hI) (cwV 0 hts gX2_readCell_X2_readPlace rfl rfl rfl (by decide +kernel) ⟨Nat.le_of_ble_eq_true rfl, Nat.le_of_ble_eq_true rfl⟩) hE hS hA hP hD [0, 1, 2, 3, 4, 5, 6, 7, 8, 9, 10, 11, 12, 13, 14, 15, 16, 17, 18, 19, 20, 21, 22, 23, 24, 25, 26, 27, 28, 29, 30] [] rfl rfl (by decide) (by decide) (by decide) [0, 1, 2, 3, 4, 5, 6, 7, 8, 9, 10, 11, 12, 13, 14, 15, 16, 17, 18, 19, 20, 21, 22, 23, 24, 25, 26, 27, 28, 29, 30] (by decide) (fun u => rfl) rfl rfl rfl rfl hl.1 rfl (Nat.le_of_ble_eq_true rfl) dX2_readCell_21 ⟨Nat.zero_le _, Nat.zero_le _⟩ (fun r21 u21 H locs h21 hP hD hS => ?_)
    obtain ⟨o21_ps, o21_fn, o21_fa, o21_na⟩ := u21
    try dsimp only at h21
    have hf21 := h21.2
    replace h21 := h21.1
    replace hP : va_P (eD E) vwCl (rdL E qr qx fx ln o21_ps o21_fn o21_fa o21_na cx ck ap vp) H := hP
    replace hD : va_D A (rdL E qr qx fx ln o21_ps o21_fn o21_fa o21_na cx ck ap vp) := hD
    rw [hRp.1.1, hRp.1.2.1] at hf21
    have hs21 := CF.then (s := fun z : Unit => placeF fx ln.toInt (S 37 0) (S 38 0) ps.toInt) hk17 hf21 (okF.chk (by decide)) (fun z hz => by rfl)
    refine lv_istore_n (lv' := [(2, .int r21), (0, .ref qr), (1, .int wd)]) hx hb dX2_readCell_24 rfl hl (by decide) rfl (fun ls hl => ?_)
    refine lv_aload_n hx hb dX2_readCell_25 rfl (lv_at hl 1 rfl) ?_
    refine lv_aload_n hx hb dX2_readCell_26 rfl (lv_at hl 1 rfl) ?_
    refine va_get (D := eD E) (ci := 2) (v := .int cx) (C := RX2) (T := TX2) (N := 9) hx hb hts in_X2 hown hK hP 0 rfl rfl 7 (by decide) lk1 (fun _ h9 => h9) rfl dX2_readCell_27 ?_
    refine lv_iload_n hx hb dX2_readCell_30 rfl (lv_at hl 0 rfl) ?_
    refine lv_ishr hx hb dX2_readCell_31 ?_
    refine lv_topi (fun x31 e31 => ?_)
    refine lv_iconst (v := 1) hx hb dX2_readCell_32 (by decide) ?_
    refine lv_iand hx hb dX2_readCell_33 ?_
    refine lv_topi (fun x33 e33 => ?_)
    have tb33 : x33 = if bitB cx r21.toInt.toNat then 1 else 0 := by rw [e33, e31]; exact bit_test (by omega)
    have K42 : ∀  (w : Int32) (H : Heap) (locs : List Loc) (ls : Array Slot), va_P (eD E) vwCl (rdL E qr qx fx ln o21_ps o21_fn o21_fa o21_na cx ck ap vp) H → va_D A (rdL E qr qx fx ln o21_ps o21_fn o21_fa o21_na cx ck ap vp) → va_S A s.heap H locs → ((w.toInt = 0 ∧ x33.toInt = 0) ∨ (w.toInt = 1 ∧ x33.toInt ≠ 0)) → lv_has ls 5 [(0, .ref qr), (1, .int wd), (2, .int r21)] → W p l e (headSpec wsX2_readCell rm_X2_readCell).room s m ([.ref qr, .int wd] : List Value).toArray below meth c H locs 0 0 Q (F0 m 42 ls [.int w, .ref qr]) := by
      intro w H locs ls hP hD hS h42_0 hl
      have hx42_0 := h42_0
      clear h42_0
      refine lv_iconst (v := 4) hx hb dX2_readCell_42 (by decide) ?_
      refine lv_aload_n hx hb dX2_readCell_43 rfl (lv_at hl 0 rfl) ?_
      refine va_get (D := eD E) (ci := 2) (v := .int o21_na) (C := RX2) (T := TX2) (N := 9) hx hb hts in_X2 hown hK hP 0 rfl rfl 6 (by decide) lk2 (fun _ h9 => h9) rfl dX2_readCell_44 ?_
      refine mt_Vv (w1 := fun (u : Int32 × Int32) => rbL E qr qx fx ln o21_ps u.1 u.2 o21_na cx ck ap) (wf := fun (u : Int32 × Int32) => rdL E qr qx fx ln o21_ps u.1 u.2 o21_na cx ck ap vp) (wr := [((ap 0), .inr (1, [.int (vp 0 0), .int (vp 1 0), .int (vp 2 0), .ref (ap 3), .ref (ap 4), .int (vp 5 0), .ref (ap 6), .ref (ap 7), .ref (ap 8), .ref (ap 9), .ref (ap 10)])), ((ap 3), .inl (eI E, 24, .inl (vp 3))), ((ap 4), .inl (eI E, 24, .inl (vp 4))), ((ap 6), .inl (eM E, 3, .inr (.inr (.inr (.inr (fun i => some (ap (20 + 10 * i)))))))), ((ap 20), .inr (0, [.int (vp 20 0), .int (vp 21 0), .int (vp 22 0), .ref (ap 23), .ref (ap 24)])), ((ap 23), .inl (eI E, 18, .inl (vp 23))), ((ap 24), .inl (eI E, 24, .inl (vp 24))), ((ap 30), .inr (0, [.int (vp 30 0), .int (vp 31 0), .int (vp 32 0), .ref (ap 33), .ref (ap 34)])), ((ap 33), .inl (eI E, 18, .inl (vp 33))), ((ap 34), .inl (eI E, 24, .inl (vp 34))), ((ap 40), .inr (0, [.int (vp 40 0), .int (vp 41 0), .int (vp 42 0), .ref (ap 43), .ref (ap 44)])), ((ap 43), .inl (eI E, 18, .inl (vp 43))), ((ap 44), .inl (eI E, 24, .inl (vp 44))), ((ap 7), .inr (5, [.int (vp 60 0), .ref (ap 61), .ref (ap 62), .ref (ap 63)])), ((ap 61), .inl (eI E, 6, .inl (vp 61))), ((ap 62), .inl (eI E, 6, .inl (vp 62))), ((ap 63), .inl (eI E, 6, .inl (vp 63))), ((ap 8), .inr (5, [.int (vp 70 0), .ref (ap 71), .ref (ap 72), .ref (ap 73)])), ((ap 71), .inl (eI E, 6, .inl (vp 71))), ((ap 72), .inl (eI E, 6, .inl (vp 72))), ((ap 73), .inl (eI E, 6, .inl (vp 73))), ((ap 9), .inr (5, [.int (vp 80 0), .ref (ap 81), .ref (ap 82), .ref (ap 83)])), ((ap 81), .inl (eI E, 6, .inl (vp 81))), ((ap 82), .inl (eI E, 6, .inl (vp 82))), ((ap 83), .inl (eI E, 6, .inl (vp 83))), ((ap 10), .inr (5, [.int (vp 90 0), .ref (ap 91), .ref (ap 92), .ref (ap 93)])), ((ap 91), .inl (eI E, 6, .inl (vp 91))), ((ap 92), .inl (eI E, 6, .inl (vp 92))), ((ap 93), .inl (eI E, 6, .inl (vp 93)))]) (As := [.int w, .int 4, .int o21_na]) (rest := []) (C := RX2) (ci := 2) ⟨hx, hb, hml, hown, hts⟩ (c_X2_refuseIf l E H.size qr qx fx ln o21_ps o21_fn o21_fa o21_na cx ck ap w 4 o21_na (by omega)) (cwV 3 hts gX2_readCell_X2_refuseIf rfl rfl rfl (by decide +kernel) ⟨Nat.le_of_ble_eq_true rfl, Nat.le_of_ble_eq_true rfl⟩) hE hS hA hP hD [0, 1] [2, 3, 4, 5, 6, 7, 8, 9, 10, 11, 12, 13, 14, 15, 16, 17, 18, 19, 20, 21, 22, 23, 24, 25, 26, 27, 28, 29, 30] rfl rfl (by decide) (by decide) (by decide) [29, 30, 0, 1, 2, 3, 4, 5, 6, 7, 8, 9, 10, 11, 12, 13, 14, 15, 16, 17, 18, 19, 20, 21, 22, 23, 24, 25, 26, 27, 28] (by decide) (fun u => rfl) rfl rfl rfl rfl hl.1 rfl (Nat.le_of_ble_eq_true rfl) dX2_readCell_47 ⟨Nat.zero_le _, Nat.zero_le _⟩ (fun u47 H locs h47 hP hD hS => ?_)
      obtain ⟨o47_fn, o47_fa⟩ := u47
      try dsimp only at h47
      have hf47 := h47.2
      replace h47 := h47.1
      replace hP : va_P (eD E) vwCl (rdL E qr qx fx ln o21_ps o47_fn o47_fa o21_na cx ck ap vp) H := hP
      replace hD : va_D A (rdL E qr qx fx ln o21_ps o47_fn o47_fa o21_na cx ck ap vp) := hD
      rw [n_4] at hf47
      have hk47 : CF (chk (anyE (S 42) r21.toInt (S 41 0).toNat) 4 o21_na.toInt) o21_fn.toInt o21_fa.toInt o47_fn.toInt o47_fa.toInt (fun _ => True) := CF.chk (fun _ => ckT hx42_0 tb33 ((hRl.2.2 r21.toInt.toNat (by omega)).trans (by rw [show ((r21.toInt.toNat : Nat) : Int) = r21.toInt by omega]))) hf47
      clear hf47 hx42_0
      have hs47 := CF.then (s := fun z : Unit × ((Int × Int × Int) × (Int × Int × Int)) => chk (anyE (S 42) (plc (S 37 0) z.2) (S 41 0).toNat) 4 z.2.2.2.2) hs21 hk47 ((okF.chk (by decide)).th (fun _ => (okF.num.th (fun _ => okF.num)))) (fun z hz => by rw [hz.2.1, hz.2.2.2])
      refine lv_aload_n hx hb dX2_readCell_50 rfl (lv_at hl 0 rfl) ?_
      refine lv_iconst (v := 0) hx hb dX2_readCell_51 (by decide) ?_
      refine lv_bipush (v := 99) hx hb dX2_readCell_52 (by decide) ?_
      refine mt_Vi (w1 := fun (u : Int32 × Int32 × Int32 × Int32) => rbL E qr qx fx ln u.1 u.2.1 u.2.2.1 u.2.2.2 cx ck ap) (wf := fun (u : Int32 × Int32 × Int32 × Int32) => rdL E qr qx fx ln u.1 u.2.1 u.2.2.1 u.2.2.2 cx ck ap vp) (wr := [((ap 0), .inr (1, [.int (vp 0 0), .int (vp 1 0), .int (vp 2 0), .ref (ap 3), .ref (ap 4), .int (vp 5 0), .ref (ap 6), .ref (ap 7), .ref (ap 8), .ref (ap 9), .ref (ap 10)])), ((ap 3), .inl (eI E, 24, .inl (vp 3))), ((ap 4), .inl (eI E, 24, .inl (vp 4))), ((ap 6), .inl (eM E, 3, .inr (.inr (.inr (.inr (fun i => some (ap (20 + 10 * i)))))))), ((ap 20), .inr (0, [.int (vp 20 0), .int (vp 21 0), .int (vp 22 0), .ref (ap 23), .ref (ap 24)])), ((ap 23), .inl (eI E, 18, .inl (vp 23))), ((ap 24), .inl (eI E, 24, .inl (vp 24))), ((ap 30), .inr (0, [.int (vp 30 0), .int (vp 31 0), .int (vp 32 0), .ref (ap 33), .ref (ap 34)])), ((ap 33), .inl (eI E, 18, .inl (vp 33))), ((ap 34), .inl (eI E, 24, .inl (vp 34))), ((ap 40), .inr (0, [.int (vp 40 0), .int (vp 41 0), .int (vp 42 0), .ref (ap 43), .ref (ap 44)])), ((ap 43), .inl (eI E, 18, .inl (vp 43))), ((ap 44), .inl (eI E, 24, .inl (vp 44))), ((ap 7), .inr (5, [.int (vp 60 0), .ref (ap 61), .ref (ap 62), .ref (ap 63)])), ((ap 61), .inl (eI E, 6, .inl (vp 61))), ((ap 62), .inl (eI E, 6, .inl (vp 62))), ((ap 63), .inl (eI E, 6, .inl (vp 63))), ((ap 8), .inr (5, [.int (vp 70 0), .ref (ap 71), .ref (ap 72), .ref (ap 73)])), ((ap 71), .inl (eI E, 6, .inl (vp 71))), ((ap 72), .inl (eI E, 6, .inl (vp 72))), ((ap 73), .inl (eI E, 6, .inl (vp 73))), ((ap 9), .inr (5, [.int (vp 80 0), .ref (ap 81), .ref (ap 82), .ref (ap 83)])), ((ap 81), .inl (eI E, 6, .inl (vp 81))), ((ap 82), .inl (eI E, 6, .inl (vp 82))), ((ap 83), .inl (eI E, 6, .inl (vp 83))), ((ap 10), .inr (5, [.int (vp 90 0), .ref (ap 91), .ref (ap 92), .ref (ap 93)])), ((ap 91), .inl (eI E, 6, .inl (vp 91))), ((ap 92), .inl (eI E, 6, .inl (vp 92))), ((ap 93), .inl (eI E, 6, .inl (vp 93)))]) (As := [.int 0, .int 99]) (rest := []) (C := RX2) (ci := 2) ⟨hx, hb, hml, hown, hts⟩ (c_X2_readNumber l E H.size qr qx fx ln o21_ps o47_fn o47_fa o21_na cx ck ap 0 99 (by omega) (by omega)) (cwV 2 hts gX2_readCell_X2_readNumber rfl rfl rfl (by decide +kernel) ⟨Nat.le_of_ble_eq_true rfl, Nat.le_of_ble_eq_true rfl⟩) hE hS hA hP hD [0, 1] [2, 3, 4, 5, 6, 7, 8, 9, 10, 11, 12, 13, 14, 15, 16, 17, 18, 19, 20, 21, 22, 23, 24, 25, 26, 27, 28, 29, 30] rfl rfl (by decide) (by decide) (by decide) [29, 30, 0, 1, 2, 3, 4, 5, 6, 7, 8, 9, 10, 11, 12, 13, 14, 15, 16, 17, 18, 19, 20, 21, 22, 23, 24, 25, 26, 27, 28] (by decide) (fun u => rfl) rfl rfl rfl rfl hl.1 rfl (Nat.le_of_ble_eq_true rfl) dX2_readCell_54 ⟨Nat.zero_le _, Nat.zero_le _⟩ (fun r54 u54 H locs h54 hP hD hS => ?_)
      obtain ⟨o54_ps, o54_fn, o54_fa, o54_na⟩ := u54
      try dsimp only at h54
      have hf54 := h54.2
      replace h54 := h54.1
      replace hP : va_P (eD E) vwCl (rdL E qr qx fx ln o54_ps o54_fn o54_fa o54_na cx ck ap vp) H := hP
      replace hD : va_D A (rdL E qr qx fx ln o54_ps o54_fn o54_fa o54_na cx ck ap vp) := hD
      have pb54 : 0 ≤ r54.toInt ∧ r54.toInt ≤ 99 := pb_rn h54.1 (by decide) (by decide)
      rw [n_0, n_99] at hf54
      have hs54 := CF.then (s := fun z : (Unit × ((Int × Int × Int) × (Int × Int × Int))) × Unit => numF fx ln.toInt 0 99 z.1.2.2.2.1) hs47 hf54 (((okF.chk (by decide)).th (fun _ => (okF.num.th (fun _ => okF.num)))).th (fun _ => (okF.chk (by decide)))) (fun z hz => by rw [hz.1.2.2.1])
      refine lv_istore_n (lv' := [(3, .int r54), (0, .ref qr), (1, .int wd), (2, .int r21)]) hx hb dX2_readCell_57 rfl hl (by decide) rfl (fun ls hl => ?_)
      refine lv_aload_n hx hb dX2_readCell_58 rfl (lv_at hl 1 rfl) ?_
      refine lv_iconst (v := 0) hx hb dX2_readCell_59 (by decide) ?_
      refine lv_bipush (v := 9) hx hb dX2_readCell_60 (by decide) ?_
      refine mt_Vi (w1 := fun (u : Int32 × Int32 × Int32 × Int32) => rbL E qr qx fx ln u.1 u.2.1 u.2.2.1 u.2.2.2 cx ck ap) (wf := fun (u : Int32 × Int32 × Int32 × Int32) => rdL E qr qx fx ln u.1 u.2.1 u.2.2.1 u.2.2.2 cx ck ap vp) (wr := [((ap 0), .inr (1, [.int (vp 0 0), .int (vp 1 0), .int (vp 2 0), .ref (ap 3), .ref (ap 4), .int (vp 5 0), .ref (ap 6), .ref (ap 7), .ref (ap 8), .ref (ap 9), .ref (ap 10)])), ((ap 3), .inl (eI E, 24, .inl (vp 3))), ((ap 4), .inl (eI E, 24, .inl (vp 4))), ((ap 6), .inl (eM E, 3, .inr (.inr (.inr (.inr (fun i => some (ap (20 + 10 * i)))))))), ((ap 20), .inr (0, [.int (vp 20 0), .int (vp 21 0), .int (vp 22 0), .ref (ap 23), .ref (ap 24)])), ((ap 23), .inl (eI E, 18, .inl (vp 23))), ((ap 24), .inl (eI E, 24, .inl (vp 24))), ((ap 30), .inr (0, [.int (vp 30 0), .int (vp 31 0), .int (vp 32 0), .ref (ap 33), .ref (ap 34)])), ((ap 33), .inl (eI E, 18, .inl (vp 33))), ((ap 34), .inl (eI E, 24, .inl (vp 34))), ((ap 40), .inr (0, [.int (vp 40 0), .int (vp 41 0), .int (vp 42 0), .ref (ap 43), .ref (ap 44)])), ((ap 43), .inl (eI E, 18, .inl (vp 43))), ((ap 44), .inl (eI E, 24, .inl (vp 44))), ((ap 7), .inr (5, [.int (vp 60 0), .ref (ap 61), .ref (ap 62), .ref (ap 63)])), ((ap 61), .inl (eI E, 6, .inl (vp 61))), ((ap 62), .inl (eI E, 6, .inl (vp 62))), ((ap 63), .inl (eI E, 6, .inl (vp 63))), ((ap 8), .inr (5, [.int (vp 70 0), .ref (ap 71), .ref (ap 72), .ref (ap 73)])), ((ap 71), .inl (eI E, 6, .inl (vp 71))), ((ap 72), .inl (eI E, 6, .inl (vp 72))), ((ap 73), .inl (eI E, 6, .inl (vp 73))), ((ap 9), .inr (5, [.int (vp 80 0), .ref (ap 81), .ref (ap 82), .ref (ap 83)])), ((ap 81), .inl (eI E, 6, .inl (vp 81))), ((ap 82), .inl (eI E, 6, .inl (vp 82))), ((ap 83), .inl (eI E, 6, .inl (vp 83))), ((ap 10), .inr (5, [.int (vp 90 0), .ref (ap 91), .ref (ap 92), .ref (ap 93)])), ((ap 91), .inl (eI E, 6, .inl (vp 91))), ((ap 92), .inl (eI E, 6, .inl (vp 92))), ((ap 93), .inl (eI E, 6, .inl (vp 93)))]) (As := [.int 0, .int 9]) (rest := []) (C := RX2) (ci := 2) ⟨hx, hb, hml, hown, hts⟩ (c_X2_readNumber l E H.size qr qx fx ln o54_ps o54_fn o54_fa o54_na cx ck ap 0 9 (by omega) (by omega)) (cwV 2 hts gX2_readCell_X2_readNumber rfl rfl rfl (by decide +kernel) ⟨Nat.le_of_ble_eq_true rfl, Nat.le_of_ble_eq_true rfl⟩) hE hS hA hP hD [0, 1] [2, 3, 4, 5, 6, 7, 8, 9, 10, 11, 12, 13, 14, 15, 16, 17, 18, 19, 20, 21, 22, 23, 24, 25, 26, 27, 28, 29, 30] rfl rfl (by decide) (by decide) (by decide) [29, 30, 0, 1, 2, 3, 4, 5, 6, 7, 8, 9, 10, 11, 12, 13, 14, 15, 16, 17, 18, 19, 20, 21, 22, 23, 24, 25, 26, 27, 28] (by decide) (fun u => rfl) rfl rfl rfl rfl hl.1 rfl (Nat.le_of_ble_eq_true rfl) dX2_readCell_62 ⟨Nat.zero_le _, Nat.zero_le _⟩ (fun r62 u62 H locs h62 hP hD hS => ?_)
      obtain ⟨o62_ps, o62_fn, o62_fa, o62_na⟩ := u62
      try dsimp only at h62
      have hf62 := h62.2
      replace h62 := h62.1
      replace hP : va_P (eD E) vwCl (rdL E qr qx fx ln o62_ps o62_fn o62_fa o62_na cx ck ap vp) H := hP
      replace hD : va_D A (rdL E qr qx fx ln o62_ps o62_fn o62_fa o62_na cx ck ap vp) := hD
      have pb62 : 0 ≤ r62.toInt ∧ r62.toInt ≤ 9 := pb_rn h62.1 (by decide) (by decide)
      rw [n_0, n_9] at hf62
      have hs62 := CF.then (s := fun z : ((Unit × ((Int × Int × Int) × (Int × Int × Int))) × Unit) × (Int × Int × Int) => numF fx ln.toInt 0 9 z.2.2.1) hs54 hf62 ((((okF.chk (by decide)).th (fun _ => (okF.num.th (fun _ => okF.num)))).th (fun _ => (okF.chk (by decide)))).th (fun _ => okF.num)) (fun z hz => by rw [hz.2.2.1])
      refine lv_istore (lv' := [(4, .int r62), (3, .int r54), (0, .ref qr), (1, .int wd), (2, .int r21)]) hx hb dX2_readCell_65 hl (by decide) rfl (fun ls hl => ?_)
      refine lv_aload_n hx hb dX2_readCell_67 rfl (lv_at hl 2 rfl) ?_
      refine lv_bipush (v := 59) hx hb dX2_readCell_68 (by decide) ?_
      refine mt_Vv (w1 := fun (u : Int32 × Int32 × Int32) => rbL E qr qx fx ln u.1 u.2.1 u.2.2 o62_na cx ck ap) (wf := fun (u : Int32 × Int32 × Int32) => rdL E qr qx fx ln u.1 u.2.1 u.2.2 o62_na cx ck ap vp) (wr := [((ap 0), .inr (1, [.int (vp 0 0), .int (vp 1 0), .int (vp 2 0), .ref (ap 3), .ref (ap 4), .int (vp 5 0), .ref (ap 6), .ref (ap 7), .ref (ap 8), .ref (ap 9), .ref (ap 10)])), ((ap 3), .inl (eI E, 24, .inl (vp 3))), ((ap 4), .inl (eI E, 24, .inl (vp 4))), ((ap 6), .inl (eM E, 3, .inr (.inr (.inr (.inr (fun i => some (ap (20 + 10 * i)))))))), ((ap 20), .inr (0, [.int (vp 20 0), .int (vp 21 0), .int (vp 22 0), .ref (ap 23), .ref (ap 24)])), ((ap 23), .inl (eI E, 18, .inl (vp 23))), ((ap 24), .inl (eI E, 24, .inl (vp 24))), ((ap 30), .inr (0, [.int (vp 30 0), .int (vp 31 0), .int (vp 32 0), .ref (ap 33), .ref (ap 34)])), ((ap 33), .inl (eI E, 18, .inl (vp 33))), ((ap 34), .inl (eI E, 24, .inl (vp 34))), ((ap 40), .inr (0, [.int (vp 40 0), .int (vp 41 0), .int (vp 42 0), .ref (ap 43), .ref (ap 44)])), ((ap 43), .inl (eI E, 18, .inl (vp 43))), ((ap 44), .inl (eI E, 24, .inl (vp 44))), ((ap 7), .inr (5, [.int (vp 60 0), .ref (ap 61), .ref (ap 62), .ref (ap 63)])), ((ap 61), .inl (eI E, 6, .inl (vp 61))), ((ap 62), .inl (eI E, 6, .inl (vp 62))), ((ap 63), .inl (eI E, 6, .inl (vp 63))), ((ap 8), .inr (5, [.int (vp 70 0), .ref (ap 71), .ref (ap 72), .ref (ap 73)])), ((ap 71), .inl (eI E, 6, .inl (vp 71))), ((ap 72), .inl (eI E, 6, .inl (vp 72))), ((ap 73), .inl (eI E, 6, .inl (vp 73))), ((ap 9), .inr (5, [.int (vp 80 0), .ref (ap 81), .ref (ap 82), .ref (ap 83)])), ((ap 81), .inl (eI E, 6, .inl (vp 81))), ((ap 82), .inl (eI E, 6, .inl (vp 82))), ((ap 83), .inl (eI E, 6, .inl (vp 83))), ((ap 10), .inr (5, [.int (vp 90 0), .ref (ap 91), .ref (ap 92), .ref (ap 93)])), ((ap 91), .inl (eI E, 6, .inl (vp 91))), ((ap 92), .inl (eI E, 6, .inl (vp 92))), ((ap 93), .inl (eI E, 6, .inl (vp 93)))]) (As := [.int 59]) (rest := []) (C := RX2) (ci := 2) ⟨hx, hb, hml, hown, hts⟩ (c_X2_readSign l E H.size qr qx fx ln o62_ps o62_fn o62_fa o62_na cx ck ap 59 (by omega) (by omega)) (cwV 1 hts gX2_readCell_X2_readSign rfl rfl rfl (by decide +kernel) ⟨Nat.le_of_ble_eq_true rfl, Nat.le_of_ble_eq_true rfl⟩) hE hS hA hP hD [0, 1] [2, 3, 4, 5, 6, 7, 8, 9, 10, 11, 12, 13, 14, 15, 16, 17, 18, 19, 20, 21, 22, 23, 24, 25, 26, 27, 28, 29, 30] rfl rfl (by decide) (by decide) (by decide) [29, 30, 0, 1, 2, 3, 4, 5, 6, 7, 8, 9, 10, 11, 12, 13, 14, 15, 16, 17, 18, 19, 20, 21, 22, 23, 24, 25, 26, 27, 28] (by decide) (fun u => rfl) rfl rfl rfl rfl hl.1 rfl (Nat.le_of_ble_eq_true rfl) dX2_readCell_70 ⟨Nat.zero_le _, Nat.zero_le _⟩ (fun u70 H locs h70 hP hD hS => ?_)
      obtain ⟨o70_ps, o70_fn, o70_fa⟩ := u70
      try dsimp only at h70
      have hf70 := h70.2
      replace h70 := h70.1
      replace hP : va_P (eD E) vwCl (rdL E qr qx fx ln o70_ps o70_fn o70_fa o62_na cx ck ap vp) H := hP
      replace hD : va_D A (rdL E qr qx fx ln o70_ps o70_fn o70_fa o62_na cx ck ap vp) := hD
      rw [n_59] at hf70
      have hs70 := CF.then (s := fun z : (((Unit × ((Int × Int × Int) × (Int × Int × Int))) × Unit) × (Int × Int × Int)) × (Int × Int × Int) => sgnF fx ln.toInt 59 z.2.2.1) hs62 hf70 (((((okF.chk (by decide)).th (fun _ => (okF.num.th (fun _ => okF.num)))).th (fun _ => (okF.chk (by decide)))).th (fun _ => okF.num)).th (fun _ => okF.num)) (fun z hz => by rw [hz.2.2.1])
      refine lv_aload_n hx hb dX2_readCell_73 rfl (lv_at hl 2 rfl) ?_
      refine va_get (D := eD E) (ci := 2) (v := .int o70_fn) (C := RX2) (T := TX2) (N := 9) hx hb hts in_X2 hown hK hP 0 rfl rfl 4 (by decide) lk3 (fun _ h9 => h9) rfl dX2_readCell_74 ?_
      refine lv_if_ne (tgt := 123) hx hb dX2_readCell_77 (by decide) (fun c77 => ?_) (fun c77 => ?_)
      · have c77_ := i_ne c77
        subst hQ
        exact W.vret hx hb hr (fun t ht hW => ⟨⟨(o70_ps, o70_fn, o70_fa, o62_na, cx, ck, vp), rfl, (show (PlanI vp ∧ (ps.toInt ≤ o70_ps.toInt ∧ o70_ps.toInt ≤ ln.toInt + 1) ∧ (o70_fn.toInt ≠ 0 ∨ o70_ps.toInt ≤ ln.toInt)) ∧ (CF (cellF fx ln.toInt S wd.toInt ps.toInt) fn.toInt fa.toInt o70_fn.toInt o70_fa.toInt (fun z => o70_ps.toInt = z.2 ∧ Rp (cellS S (plc (S 37 0) z.1.1.1.1.2) z.1.1.2.1 z.1.2.1) vp cx ck)) from ⟨⟨hI, by omega, by omega⟩, (hs70.mono (fun q1 q2 z hz => absurd q2 (by omega)))⟩), by rw [ht]; exact hP, hD⟩, hS.F ht⟩) hS.2.2 dX2_readCell_123
      · have c77_ := i_eq c77
        have hpx : ps.toInt ≤ o70_ps.toInt ∧ o70_ps.toInt ≤ ln.toInt := by omega
        have hck : ck.toInt < 12 := by have q := hs70.get ((((((okF.chk (by decide)).th (fun _ => (okF.num.th (fun _ => okF.num)))).th (fun _ => (okF.chk (by decide)))).th (fun _ => okF.num)).th (fun _ => okF.num)).th (fun _ => okF.sgn)) (by omega); have q2 := (th_get (th_get (th_get (th_get (th_get q.2.2.choose_spec.1).1).1).1).1).1; unfold chk at q2; split at q2; (cases q2); (rename_i q3; rw [decide_eq_true_eq] at q3; omega)
        refine lv_aload_n hx hb dX2_readCell_80 rfl (lv_at hl 2 rfl) ?_
        refine va_get (D := eD E) (ci := 2) (v := .ref (ap 0)) (C := RX2) (T := TX2) (N := 9) hx hb hts in_X2 hown hK hP 0 rfl rfl 3 (by decide) lk4 (fun _ h9 => h9) rfl dX2_readCell_81 ?_
        refine va_get (D := eD E) (ci := 1) (v := .ref (ap 3)) (C := RX1) (T := TX1) (N := 11) hx hb hts in_X1 hown hK hP 2 rfl rfl 3 (by decide) lk5 (fun _ h9 => h9) rfl dX2_readCell_84 ?_
        refine lv_iload_n hx hb dX2_readCell_87 rfl (lv_at hl 4 rfl) ?_
        refine lv_iload_n hx hb dX2_readCell_88 rfl (lv_at hl 1 rfl) ?_
        refine va_iast hx hb hK hP hD hS 3 0 rfl rfl (n := 24) (f := (vp 3)) (i_in (by omega) (by omega)) dX2_readCell_89 (fun H locs hP hD hS => ?_)
        replace hP : va_P (eD E) vwCl (rdL E qr qx fx ln o70_ps o70_fn o70_fa o62_na cx ck ap (up2 vp 3 r21.toNatClampNeg r54)) H := hP
        replace hD : va_D A (rdL E qr qx fx ln o70_ps o70_fn o70_fa o62_na cx ck ap (up2 vp 3 r21.toNatClampNeg r54)) := hD
        generalize hv89 : up2 vp 3 r21.toNatClampNeg r54 = vp_89 at hP hD
        refine lv_aload_n hx hb dX2_readCell_90 rfl (lv_at hl 2 rfl) ?_
        refine va_get (D := eD E) (ci := 2) (v := .ref (ap 0)) (C := RX2) (T := TX2) (N := 9) hx hb hts in_X2 hown hK hP 0 rfl rfl 3 (by decide) lk4 (fun _ h9 => h9) rfl dX2_readCell_91 ?_
        refine va_get (D := eD E) (ci := 1) (v := .ref (ap 4)) (C := RX1) (T := TX1) (N := 11) hx hb hts in_X1 hown hK hP 2 rfl rfl 4 (by decide) lk6 (fun _ h9 => h9) rfl dX2_readCell_94 ?_
        refine lv_iload_n hx hb dX2_readCell_97 rfl (lv_at hl 4 rfl) ?_
        refine lv_iload hx hb dX2_readCell_98 (lv_at hl 0 rfl) ?_
        refine va_iast hx hb hK hP hD hS 4 0 rfl rfl (n := 24) (f := (vp_89 4)) (i_in (by omega) (by omega)) dX2_readCell_100 (fun H locs hP hD hS => ?_)
        replace hP : va_P (eD E) vwCl (rdL E qr qx fx ln o70_ps o70_fn o70_fa o62_na cx ck ap (up2 vp_89 4 r21.toNatClampNeg r62)) H := hP
        replace hD : va_D A (rdL E qr qx fx ln o70_ps o70_fn o70_fa o62_na cx ck ap (up2 vp_89 4 r21.toNatClampNeg r62)) := hD
        generalize hv100 : up2 vp_89 4 r21.toNatClampNeg r62 = vp_100 at hP hD
        have hI2 : PlanI vp_100 := by rw [← hv100, ← hv89]; exact hI
        refine lv_aload_n hx hb dX2_readCell_101 rfl (lv_at hl 2 rfl) ?_
        refine lv_dup hx hb dX2_readCell_102 rfl ?_
        refine va_get (D := eD E) (ci := 2) (v := .int cx) (C := RX2) (T := TX2) (N := 9) hx hb hts in_X2 hown hK hP 0 rfl rfl 7 (by decide) lk1 (fun _ h9 => h9) rfl dX2_readCell_103 ?_
        refine lv_iconst (v := 1) hx hb dX2_readCell_106 (by decide) ?_
        refine lv_iload_n hx hb dX2_readCell_107 rfl (lv_at hl 4 rfl) ?_
        refine lv_ishl hx hb dX2_readCell_108 ?_
        refine lv_topi (fun x108 e108 => ?_)
        refine lv_ior hx hb dX2_readCell_109 ?_
        refine lv_topi (fun x109 e109 => ?_)
        refine va_put (D := eD E) (ci := 2) (v := .int x109) (ty := .int) (C := RX2) (T := TX2) (N := 9) hx hb hts in_X2 tyX2 tyX2_ok nmX2 hown hK hP hD hS 0 rfl rfl 7 (by decide) lk1 (fun _ h9 => h9) rfl (by decide +kernel) rfl rfl (Nat.le_of_ble_eq_true rfl) dX2_readCell_110 (fun H locs hP hD hS => ?_)
        replace hP : va_P (eD E) vwCl (rdL E qr qx fx ln o70_ps o70_fn o70_fa o62_na x109 ck ap vp_100) H := hP
        replace hD : va_D A (rdL E qr qx fx ln o70_ps o70_fn o70_fa o62_na x109 ck ap vp_100) := hD
        refine lv_aload_n hx hb dX2_readCell_113 rfl (lv_at hl 2 rfl) ?_
        refine lv_dup hx hb dX2_readCell_114 rfl ?_
        refine va_get (D := eD E) (ci := 2) (v := .int ck) (C := RX2) (T := TX2) (N := 9) hx hb hts in_X2 hown hK hP 0 rfl rfl 8 (by decide) lk0 (fun _ h9 => h9) rfl dX2_readCell_115 ?_
        refine lv_iconst (v := 1) hx hb dX2_readCell_118 (by decide) ?_
        refine lv_iadd hx hb dX2_readCell_119 ?_
        refine lv_topi (fun x119 e119 => ?_)
        have t119 := i_add e119 (by omega)
        refine va_put (D := eD E) (ci := 2) (v := .int x119) (ty := .int) (C := RX2) (T := TX2) (N := 9) hx hb hts in_X2 tyX2 tyX2_ok nmX2 hown hK hP hD hS 0 rfl rfl 8 (by decide) lk0 (fun _ h9 => h9) rfl (by decide +kernel) rfl rfl (Nat.le_of_ble_eq_true rfl) dX2_readCell_120 (fun H locs hP hD hS => ?_)
        replace hP : va_P (eD E) vwCl (rdL E qr qx fx ln o70_ps o70_fn o70_fa o62_na x109 x119 ap vp_100) H := hP
        replace hD : va_D A (rdL E qr qx fx ln o70_ps o70_fn o70_fa o62_na x109 x119 ap vp_100) := hD
        subst hQ
        exact W.vret hx hb hr (fun t ht hW => ⟨⟨(o70_ps, o70_fn, o70_fa, o62_na, x109, x119, vp_100), rfl, (show (PlanI vp_100 ∧ (ps.toInt ≤ o70_ps.toInt ∧ o70_ps.toInt ≤ ln.toInt + 1) ∧ (o70_fn.toInt ≠ 0 ∨ o70_ps.toInt ≤ ln.toInt)) ∧ (CF (cellF fx ln.toInt S wd.toInt ps.toInt) fn.toInt fa.toInt o70_fn.toInt o70_fa.toInt (fun z => o70_ps.toInt = z.2 ∧ Rp (cellS S (plc (S 37 0) z.1.1.1.1.2) z.1.1.2.1 z.1.2.1) vp_100 x109 x119)) from ⟨⟨hI2, by omega, by omega⟩, (hs70.mono (fun q1 q2 z hz => ⟨hz.2, by rw [← hv100, ← hv89, e109, e108, ← hz.1.1.1.1.2.1, ← hz.1.1.2.1, ← hz.1.2.1]; exact rp_cell hRp (by omega) (by omega) (by omega)⟩))⟩), by rw [ht]; exact hP, hD⟩, hS.F ht⟩) hS.2.2 dX2_readCell_123
    refine lv_if_eq (tgt := 41) hx hb dX2_readCell_34 (by decide) (fun c34 => ?_) (fun c34 => ?_)
    · have c34_ := i_eq c34
      refine lv_iconst (v := 0) hx hb dX2_readCell_41 (by decide) ?_
      exact K42 0 _ _ ls hP hD hS (Or.inl ⟨by decide, by omega⟩) (lv_sub hl [1, 2, 0] rfl)
    · have c34_ := i_ne c34
      refine lv_iconst (v := 1) hx hb dX2_readCell_37 (by decide) ?_
      refine lv_goto (tgt := 42) hx hb dX2_readCell_38 (by decide) ?_
      exact K42 1 _ _ ls hP hD hS (Or.inr ⟨by decide, by omega⟩) (lv_sub hl [1, 2, 0] rfl)
  refine lv_icmp_lt (tgt := 14) hx hb dX2_readCell_7 (by decide) (fun c7 => ?_) (fun c7 => ?_)
  · have c7_ := i_lt c7
    refine lv_iconst (v := 0) hx hb dX2_readCell_14 (by decide) ?_
    exact K15 0 _ _ ls hP hD hS (Or.inl ⟨by decide, by omega⟩) (lv_sub hl [0, 1] rfl)
  · have c7_ := i_nlt c7
    refine lv_iconst (v := 1) hx hb dX2_readCell_10 (by decide) ?_
    refine lv_goto (tgt := 15) hx hb dX2_readCell_11 (by decide) ?_
    exact K15 1 _ _ ls hP hD hS (Or.inr ⟨by decide, by omega⟩) (lv_sub hl [0, 1] rfl)
end
