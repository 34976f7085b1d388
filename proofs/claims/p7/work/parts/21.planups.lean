/-! ===== a plan's shape, kept by what a clause writes ===== -/
theorem rn_ok {a b lo hi r : Int} {P : Prop} (h : ((a = 0 ∧ b = 0 ∧ lo ≤ r ∧ r ≤ hi) ∨ (a ≠ 0 ∧ r = 0)) ∧ P) (ha : a = 0) : b = 0 ∧ lo ≤ r ∧ r ≤ hi := h.1.elim (fun q => q.2) (fun q => absurd ha q.1)
theorem rf_ok {w a b : Int} {P : Prop} (h : ((w = 0 ∧ a = b) ∨ (w ≠ 0 ∧ a ≠ 0)) ∧ P) (ha : a = 0) : w = 0 ∧ b = 0 := h.1.elim (fun q => ⟨q.1, q.2 ▸ ha⟩) (fun q => absurd ha q.2)
theorem pl_ground {v : Vf} {w d c : Int32} (hI : PlanI v) (hg : groundI w d c) : PlanI (up2 (up2 (up2 v 0 0 w) 1 0 d) 2 0 c) := ⟨hg, hI.2⟩
theorem pl_row0 {v : Vf} {f : Nat → Int32} (hI : PlanI v) (hf : rowB f) : PlanI (up3 v 23 f) := ⟨hI.1, hI.2.1, ⟨hI.2.2.1.1, hf, hI.2.2.1.2.2⟩, hI.2.2.2⟩
theorem pl_row1 {v : Vf} {f : Nat → Int32} (hI : PlanI v) (hf : rowB f) : PlanI (up3 v 33 f) := ⟨hI.1, hI.2.1, hI.2.2.1, ⟨hI.2.2.2.1.1, hf, hI.2.2.2.1.2.2⟩, hI.2.2.2.2⟩
theorem pl_row2 {v : Vf} {f : Nat → Int32} (hI : PlanI v) (hf : rowB f) : PlanI (up3 v 43 f) := ⟨hI.1, hI.2.1, hI.2.2.1, hI.2.2.2.1, ⟨hI.2.2.2.2.1.1, hf, hI.2.2.2.2.1.2.2⟩, hI.2.2.2.2.2⟩
theorem pl_moon0 {v : Vf} {m : Int32} {f k : Nat → Int32} (hI : PlanI v) (hm : moonI m f k) : PlanI (up3 (up3 (up2 v 20 0 m) 23 f) 24 k) := ⟨hI.1, hI.2.1, hm, hI.2.2.2⟩
theorem pl_moon1 {v : Vf} {m : Int32} {f k : Nat → Int32} (hI : PlanI v) (hm : moonI m f k) : PlanI (up3 (up3 (up2 v 30 0 m) 33 f) 34 k) := ⟨hI.1, hI.2.1, hI.2.2.1, hm, hI.2.2.2.2⟩
theorem pl_moon2 {v : Vf} {m : Int32} {f k : Nat → Int32} (hI : PlanI v) (hm : moonI m f k) : PlanI (up3 (up3 (up2 v 40 0 m) 43 f) 44 k) := ⟨hI.1, hI.2.1, hI.2.2.1, hI.2.2.2.1, hm, hI.2.2.2.2.2⟩
theorem pl_mc {v : Vf} {x : Int32} (hI : PlanI v) (hx : 0 ≤ x.toInt ∧ x.toInt ≤ 3) : PlanI (up2 v 5 0 x) := ⟨hI.1, hx, hI.2.2⟩
theorem pl_s0 {v : Vf} {n : Int32} {f1 f2 f3 : Nat → Int32} (hI : PlanI v) (hs : sitesI 6 n f1) : PlanI (up3 (up3 (up3 (up2 v 60 0 n) 61 f1) 62 f2) 63 f3) := ⟨hI.1, hI.2.1, hI.2.2.1, hI.2.2.2.1, hI.2.2.2.2.1, hs, hI.2.2.2.2.2.2⟩
theorem pl_s1 {v : Vf} {n : Int32} {f1 f2 f3 : Nat → Int32} (hI : PlanI v) (hs : sitesI 6 n f1) : PlanI (up3 (up3 (up3 (up2 v 70 0 n) 71 f1) 72 f2) 73 f3) := ⟨hI.1, hI.2.1, hI.2.2.1, hI.2.2.2.1, hI.2.2.2.2.1, hI.2.2.2.2.2.1, hs, hI.2.2.2.2.2.2.2⟩
theorem pl_s2 {v : Vf} {n : Int32} {f1 f2 f3 : Nat → Int32} (hI : PlanI v) (hs : sitesI 6 n f1) (hn : n.toInt ≤ 5) : PlanI (up3 (up3 (up3 (up2 v 80 0 n) 81 f1) 82 f2) 83 f3) := ⟨hI.1, hI.2.1, hI.2.2.1, hI.2.2.2.1, hI.2.2.2.2.1, hI.2.2.2.2.2.1, hI.2.2.2.2.2.2.1, ⟨⟨hs.1.1, hn⟩, hs.2⟩, hI.2.2.2.2.2.2.2.2⟩
theorem pl_s3 {v : Vf} {n : Int32} {f1 f2 f3 : Nat → Int32} (hI : PlanI v) (hs : sitesI 6 n f1) (hn : n.toInt ≤ 4) : PlanI (up3 (up3 (up3 (up2 v 90 0 n) 91 f1) 92 f2) 93 f3) := ⟨hI.1, hI.2.1, hI.2.2.1, hI.2.2.2.1, hI.2.2.2.2.1, hI.2.2.2.2.2.1, hI.2.2.2.2.2.2.1, hI.2.2.2.2.2.2.2.1, ⟨⟨hs.1.1, hn⟩, hs.2⟩⟩
