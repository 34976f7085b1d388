theorem tm_eqi {args : Array Value} {s : State} {tm : Term} {z : Int32} (h : (Cond.eq tm (.int z)).before args s = true) : tm.eval args s none [] s = some (.int z) := by
  cases hv : tm.eval args s none [] s with
  | none => simp [Cond.before, Cond.holds, Cond.value, hv] at h
  | some w =>
    have hz : (Term.int z).eval args s none [] s = some (.int z) := rfl
    simp only [Cond.before, Cond.holds, Cond.value, hv, hz] at h
    cases w <;> simp_all
set_option maxRecDepth 20000 in
theorem nest_eq : nestM.map (fun q => Cond.methodLinkNest q.1 q.2.1 q.2.2.1 q.2.2.2) = ([100, 282, 144, 174, 609, 519, 865, 879, 758] : List Nat).filterMap (fun i => lw_tbl[i]?) := by decide +kernel
theorem nest_in {q : String × Nat × MethodName × String} (h : q ∈ nestM) : Cond.methodLinkNest q.1 q.2.1 q.2.2.1 q.2.2.2 ∈ lw_tbl := mem_ix _ nest_eq _ (List.mem_map_of_mem h)
set_option maxRecDepth 20000 in
theorem mi_X0 : Cond.instantiable RX0 5 ∈ lw_tbl := List.mem_of_getElem? (i := 173) (by decide +kernel)
set_option maxRecDepth 20000 in
theorem mi_X1 : Cond.instantiable RX1 11 ∈ lw_tbl := List.mem_of_getElem? (i := 135) (by decide +kernel)
set_option maxRecDepth 20000 in
theorem mi_X2 : Cond.instantiable RX2 9 ∈ lw_tbl := List.mem_of_getElem? (i := 99) (by decide +kernel)
set_option maxRecDepth 20000 in
theorem mi_X3 : Cond.instantiable RX3 4 ∈ lw_tbl := List.mem_of_getElem? (i := 349) (by decide +kernel)
set_option maxRecDepth 20000 in
theorem mi_X4 : Cond.instantiable RX4 11 ∈ lw_tbl := List.mem_of_getElem? (i := 392) (by decide +kernel)
set_option maxRecDepth 20000 in
theorem mi_X5 : Cond.instantiable RX5 4 ∈ lw_tbl := List.mem_of_getElem? (i := 143) (by decide +kernel)
set_option maxRecDepth 20000 in
theorem mi_X6 : Cond.instantiable RX6 9 ∈ lw_tbl := List.mem_of_getElem? (i := 281) (by decide +kernel)
set_option maxRecDepth 20000 in
theorem mi_X7 : Cond.instantiable RX7 5 ∈ lw_tbl := List.mem_of_getElem? (i := 368) (by decide +kernel)
set_option maxRecDepth 20000 in
theorem mi_X8 : Cond.instantiable RX8 2 ∈ lw_tbl := List.mem_of_getElem? (i := 331) (by decide +kernel)
set_option maxRecDepth 20000 in
theorem mi_X9 : Cond.instantiable RX9 13 ∈ lw_tbl := List.mem_of_getElem? (i := 91) (by decide +kernel)
set_option maxRecDepth 20000 in
theorem mi_X10 : Cond.instantiable RX10 79 ∈ lw_tbl := List.mem_of_getElem? (i := 970) (by decide +kernel)
set_option maxRecDepth 20000 in
theorem ma_I : Cond.arrayClass .int ∈ lw_tbl := List.mem_of_getElem? (i := 133) (by decide +kernel)
set_option maxRecDepth 20000 in
theorem ma_Z : Cond.arrayClass .boolean ∈ lw_tbl := List.mem_of_getElem? (i := 1213) (by decide +kernel)
set_option maxRecDepth 20000 in
theorem ma_M : Cond.arrayOver (.object "TidedGround$Moon") ∈ lw_tbl := List.mem_of_getElem? (i := 141) (by decide +kernel)
set_option maxRecDepth 20000 in
theorem ma_S : Cond.arrayOver (.object "TidedGround$State") ∈ lw_tbl := List.mem_of_getElem? (i := 347) (by decide +kernel)
set_option maxRecDepth 20000 in
theorem ml_X : Cond.laysStatic "TidedGround" "WAY_X" "[I" ∈ lw_tbl := List.mem_of_getElem? (i := 573) (by decide +kernel)
set_option maxRecDepth 20000 in
theorem mn_X : Cond.fieldLinkNest "TidedGround$Plan" 65 "TidedGround" "WAY_X" "[I" "TidedGround" ∈ lw_tbl := List.mem_of_getElem? (i := 572) (by decide +kernel)
set_option maxRecDepth 20000 in
theorem ml_Y : Cond.laysStatic "TidedGround" "WAY_Y" "[I" ∈ lw_tbl := List.mem_of_getElem? (i := 575) (by decide +kernel)
set_option maxRecDepth 20000 in
theorem mn_Y : Cond.fieldLinkNest "TidedGround$Plan" 68 "TidedGround" "WAY_Y" "[I" "TidedGround" ∈ lw_tbl := List.mem_of_getElem? (i := 574) (by decide +kernel)
set_option maxRecDepth 20000 in
theorem mz_9 : Cond.initialized "TidedGround" ∈ lw_tbl := List.mem_of_getElem? (i := 78) (by decide +kernel)
set_option maxHeartbeats 4000000 in
set_option maxRecDepth 20000 in
theorem lw_env {args : Array Value} {s : State} (hts : ∀ w ∈ lw_tbl, w.before args s = true) (hgv : (Jvm.Cond.and given_1 narrow_1).before args s = true) : ∃ E : Ev, CtE E (fun q => s.heap.size ≤ q) s s.heap := by
  have hs := flat_of_before _ hgv
  have hA : ∀ a : Nat, a < s.heap.size → ¬ (fun q : Nat => s.heap.size ≤ q) a := fun a h q => absurd h (Nat.not_lt.mpr q)
  obtain ⟨c0, i0, k0⟩ := u_known (C := RX0) (T := TX0) (N := 5) (n := 5) hts wsl_X0_in (hts _ mi_X0)
  obtain ⟨c1, i1, k1⟩ := u_known (C := RX1) (T := TX1) (N := 11) (n := 11) hts wsl_X1_in (hts _ mi_X1)
  obtain ⟨c2, i2, k2⟩ := u_known (C := RX2) (T := TX2) (N := 9) (n := 9) hts wsl_X2_in (hts _ mi_X2)
  obtain ⟨c3, i3, k3⟩ := u_known (C := RX3) (T := TX3) (N := 4) (n := 4) hts wsl_X3_in (hts _ mi_X3)
  obtain ⟨c4, i4, k4⟩ := u_known (C := RX4) (T := TX4) (N := 11) (n := 11) hts wsl_X4_in (hts _ mi_X4)
  obtain ⟨c5, i5, k5⟩ := u_known (C := RX5) (T := TX5) (N := 4) (n := 4) hts wsl_X5_in (hts _ mi_X5)
  obtain ⟨c6, i6, k6⟩ := u_known (C := RX6) (T := TX6) (N := 9) (n := 9) hts wsl_X6_in (hts _ mi_X6)
  obtain ⟨c7, i7, k7⟩ := u_known (C := RX7) (T := TX7) (N := 5) (n := 5) hts wsl_X7_in (hts _ mi_X7)
  obtain ⟨c8, i8, k8⟩ := u_known (C := RX8) (T := TX8) (N := 2) (n := 2) hts wsl_X8_in (hts _ mi_X8)
  obtain ⟨c9, i9, k9⟩ := u_known (C := RX9) (T := TX9) (N := 13) (n := 13) hts wsl_X9_in (hts _ mi_X9)
  obtain ⟨c10, i10, k10⟩ := u_known (C := RX10) (T := TX10) (N := 79) (n := 79) hts wsl_X10_in (hts _ mi_X10)
  obtain ⟨cI, kI, pI, fI1, fI2, fI3⟩ := Cond.arrayClass_spec (hts _ ma_I)
  obtain ⟨cZ, kZ, pZ, fZ1, fZ2, fZ3⟩ := Cond.arrayClass_spec (hts _ ma_Z)
  obtain ⟨pM, cM, kM, fM1, fM2, fM3, fM4, fM5⟩ := Cond.arrayOver_spec (hts _ ma_M)
  obtain ⟨pS, cS, kS, fS1, fS2, fS3, fS4, fS5⟩ := Cond.arrayOver_spec (hts _ ma_S)
  have hrX : (Cond.arrayOf (.static "TidedGround" "WAY_X" "[I") .int).before args s = true := hs _ (by decide +kernel)
  have hnX : (Term.length (.static "TidedGround" "WAY_X" "[I")).eval args s none [] s = some (.int (Int32.ofNat 5)) := tm_eqi (z := 5) (hs _ (by decide +kernel))
  have hX0 : (Term.elem (.static "TidedGround" "WAY_X" "[I") (.int 0)).eval args s none [] s = some (.int 0) := tm_eqi (hs _ (by decide +kernel))
  have hX1 : (Term.elem (.static "TidedGround" "WAY_X" "[I") (.int 1)).eval args s none [] s = some (.int 0) := tm_eqi (hs _ (by decide +kernel))
  have hX2 : (Term.elem (.static "TidedGround" "WAY_X" "[I") (.int 2)).eval args s none [] s = some (.int 1) := tm_eqi (hs _ (by decide +kernel))
  have hX3 : (Term.elem (.static "TidedGround" "WAY_X" "[I") (.int 3)).eval args s none [] s = some (.int 0) := tm_eqi (hs _ (by decide +kernel))
  have hX4 : (Term.elem (.static "TidedGround" "WAY_X" "[I") (.int 4)).eval args s none [] s = some (.int (-1)) := tm_eqi (hs _ (by decide +kernel))
  obtain ⟨tX, eX, TX⟩ := va_Tof (N := 5) (f := fun j => .int (wyX j)) (A := fun q : Nat => s.heap.size ≤ q) (by decide) hrX hnX (fun j hj => by
    rcases (show j = 0 ∨ j = 1 ∨ j = 2 ∨ j = 3 ∨ j = 4 by omega) with rfl | rfl | rfl | rfl | rfl
    · exact hX0
    · exact hX1
    · exact hX2
    · exact hX3
    · exact hX4
    ) hA
  have hrY : (Cond.arrayOf (.static "TidedGround" "WAY_Y" "[I") .int).before args s = true := hs _ (by decide +kernel)
  have hnY : (Term.length (.static "TidedGround" "WAY_Y" "[I")).eval args s none [] s = some (.int (Int32.ofNat 5)) := tm_eqi (z := 5) (hs _ (by decide +kernel))
  have hY0 : (Term.elem (.static "TidedGround" "WAY_Y" "[I") (.int 0)).eval args s none [] s = some (.int 0) := tm_eqi (hs _ (by decide +kernel))
  have hY1 : (Term.elem (.static "TidedGround" "WAY_Y" "[I") (.int 1)).eval args s none [] s = some (.int (-1)) := tm_eqi (hs _ (by decide +kernel))
  have hY2 : (Term.elem (.static "TidedGround" "WAY_Y" "[I") (.int 2)).eval args s none [] s = some (.int 0) := tm_eqi (hs _ (by decide +kernel))
  have hY3 : (Term.elem (.static "TidedGround" "WAY_Y" "[I") (.int 3)).eval args s none [] s = some (.int 1) := tm_eqi (hs _ (by decide +kernel))
  have hY4 : (Term.elem (.static "TidedGround" "WAY_Y" "[I") (.int 4)).eval args s none [] s = some (.int 0) := tm_eqi (hs _ (by decide +kernel))
  obtain ⟨tY, eY, TY⟩ := va_Tof (N := 5) (f := fun j => .int (wyY j)) (A := fun q : Nat => s.heap.size ≤ q) (by decide) hrY hnY (fun j hj => by
    rcases (show j = 0 ∨ j = 1 ∨ j = 2 ∨ j = 3 ∨ j = 4 by omega) with rfl | rfl | rfl | rfl | rfl
    · exact hY0
    · exact hY1
    · exact hY2
    · exact hY3
    · exact hY4
    ) hA
  refine ⟨(fun c => match c with | 0 => c0 | 1 => c1 | 2 => c2 | 3 => c3 | 4 => c4 | 5 => c5 | 6 => c6 | 7 => c7 | 8 => c8 | 9 => c9 | _ => c10, fun c => match c with | 0 => i0 | 1 => i1 | 2 => i2 | 3 => i3 | 4 => i4 | 5 => i5 | 6 => i6 | 7 => i7 | 8 => i8 | 9 => i9 | _ => i10, cI, cZ, cM, cS, tX, tY), ⟨⟨?_, ?_⟩, va_Zof (hts _ ml_X) (hts _ mz_9) eX hA, va_Zof (hts _ ml_Y) (hts _ mz_9) eY hA, TX, TY, va_Nw.of rfl (hts _ mn_X), va_Nw.of rfl (hts _ mn_Y), fun q hq => va_Nw.of rfl (hts _ (nest_in hq))⟩, va_AO.of (hts _ ma_M), va_AO.of (hts _ ma_S)⟩
  · intro c q hq
    match c, hq with
    | 0, hq => cases hq; exact k0
    | 1, hq => cases hq; exact k1
    | 2, hq => cases hq; exact k2
    | 3, hq => cases hq; exact k3
    | 4, hq => cases hq; exact k4
    | 5, hq => cases hq; exact k5
    | 6, hq => cases hq; exact k6
    | 7, hq => cases hq; exact k7
    | 8, hq => cases hq; exact k8
    | 9, hq => cases hq; exact k9
    | 10, hq => cases hq; exact k10
    | _ + 11, hq => cases hq
  · intro k q hq
    match k, hq with
    | 0, hq => cases hq; exact ⟨fun N z => ⟨(fun k h => by cases h), kI, fI2, pI, fI3⟩, fI1⟩
    | 1, hq => cases hq; exact ⟨fun N z => ⟨(fun k h => by cases h), kZ, fZ2, pZ, fZ3⟩, fZ1⟩
    | 2, hq => cases hq; exact ⟨fun N z => ⟨(fun k h => by cases h), kM, fM3, pM, fM4⟩, kM, pM, fM3, fM4, fM1, fM5⟩
    | 3, hq => cases hq; exact ⟨fun N z => ⟨(fun k h => by cases h), kS, fS3, pS, fS4⟩, kS, pS, fS3, fS4, fS1, fS5⟩
    | _ + 4, hq => cases hq
