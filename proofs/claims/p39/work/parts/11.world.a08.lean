def rm_X8_spreadOf : Room := { frames := 3, cells := 0, slots := 0, locals := 71 }
set_option maxHeartbeats 4000000 in
set_option maxRecDepth 100000 in
theorem c_X8_spreadOf (l : Launch) (E : Ev) (A : Nat → Prop) (qw : Nat) (ap : Nat → Nat) (vp : Vf) (as_ : Nat → Nat) (vs : Vf) (set : Int32) (step : Int32) (hI : PlanI vp) (hJ : StateI vs) (hstep : 0 ≤ step.toInt ∧ step.toInt ≤ 2000000) : Met l yX8_spreadOf wsX8_spreadOf rm_X8_spreadOf (RdP E A [.ref qw, .int set, .int step] (wpsL E qw ap vp as_ vs)) (vp_Si (fun r => True)) 0 0 (fun _ => False) := by
  refine Met.ofW (cc := cX8_spreadOf) (maxL := 8) (ret := (some .int)) (by decide) rfl ?_
  intro p e s m args below meth c s₁ B hml hv
  obtain ⟨rfl, hE, hP⟩ := hv
  have hx := B.exec
  have hb := B.bytes
  have hr := B.returns
  have hts := atoms_spec (ws := wsX8_spreadOf) B.pre
  have hown : s.vm.findClass RX8 = some m.cls := findClass_of_methodNamed B.named
  have hlocks := B.notSynchronized
  have hK := hE.1
  have in_X8 : ∀ w ∈ u_ws RX8 TX8 2, w ∈ wsX8_spreadOf := fun w h => List.mem_cons_of_mem _ (List.mem_append_left _ (List.mem_append_left _ (List.mem_append_left _ (List.mem_append_right _ h))))
  have in_X1 : ∀ w ∈ u_ws RX1 TX1 11, w ∈ wsX8_spreadOf := fun w h => List.mem_cons_of_mem _ (List.mem_append_left _ (List.mem_append_left _ (List.mem_append_right _ h)))
  have lk0 := hts (.fieldLink RX8 9 "TidedGround$World" "plan" "LTidedGround$Plan;") (by decide +kernel)
  have lk1 := hts (.fieldLink RX8 107 "TidedGround$Plan" "cells" "I") (by decide +kernel)
  have lk2 := hts (.methodLink RX8 47 Lib.Math.max.name) (by decide +kernel)
  have lk3 := hts (.static Lib.Math.max.name) (by decide +kernel)
  have lk4 := hts (.initialized "java/lang/Math") (by decide +kernel)
  have lk5 := hts (.code Lib.Math.max.name Lib.Math.max.code 2 (some .int)) (by decide +kernel)
  have lk6 := hts (.methodLink RX8 110 Lib.Math.min.name) (by decide +kernel)
  have lk7 := hts (.static Lib.Math.min.name) (by decide +kernel)
  have lk8 := hts (.code Lib.Math.min.name Lib.Math.min.code 2 (some .int)) (by decide +kernel)
  have n_m1 : ((-1) : Int32).toInt = -1 := by decide
  have n_0 : (0 : Int32).toInt = 0 := by decide
  have n_1 : (1 : Int32).toInt = 1 := by decide
  have hl := lv_entry ([.ref qw, .int set, .int step]) (n := 8) (Nat.le_of_ble_eq_true rfl)
  rw [lg_entry_eq]
  generalize (lg_sl ([.ref qw, .int set, .int step]) ++ List.replicate (8 - (lg_sl ([.ref qw, .int set, .int step])).length) Slot.unset).toArray = ls at hl ⊢
  have hl : lv_has ls 8 [(0, .ref qw), (1, .int set), (2, .int step)] := hl
  refine W_abs (fun Q hQ => ?_)
  obtain ⟨hg, hmc, hm0, hm1, hm2, hs0, hs1, hs2, hs3⟩ := id hI
  obtain ⟨hg1, hg2, hg3, hg4⟩ := id hg
  have hz0 := hm0.1
  have hz1 := hm1.1
  have hz2 := hm2.1
  have hc0 := hs0.1
  have hc1 := hs1.1
  have hc2 := hs2.1
  have hc3 := hs3.1
  obtain ⟨hj0, hj1, hj2⟩ := id hJ
  refine lv_iconst (v := 0) hx hb dX8_spreadOf_0 (by decide) ?_
  refine lv_istore_n (lv' := [(3, .int 0), (0, .ref qw), (1, .int set), (2, .int step)]) hx hb dX8_spreadOf_1 rfl hl (by decide) rfl (fun ls hl => ?_)
  refine lv_iconst (v := 0) hx hb dX8_spreadOf_2 (by decide) ?_
  refine lv_istore (lv' := [(4, .int 0), (3, .int 0), (0, .ref qw), (1, .int set), (2, .int step)]) hx hb dX8_spreadOf_3 hl (by decide) rfl (fun ls hl => ?_)
  refine lv_iconst (v := 0) hx hb dX8_spreadOf_5 (by decide) ?_
  refine lv_istore (lv' := [(5, .int 0), (4, .int 0), (3, .int 0), (0, .ref qw), (1, .int set), (2, .int step)]) hx hb dX8_spreadOf_6 hl (by decide) rfl (fun ls hl => ?_)
  refine lv_iconst (v := 0) hx hb dX8_spreadOf_8 (by decide) ?_
  refine lv_istore (lv' := [(6, .int 0), (5, .int 0), (4, .int 0), (3, .int 0), (0, .ref qw), (1, .int set), (2, .int step)]) hx hb dX8_spreadOf_9 hl (by decide) rfl (fun ls hl => ?_)
  have K11 : ∀ (μ : Nat) (low : Int32) (high : Int32) (fd : Int32) (k : Int32) (ls : Array Slot), (24 - k.toInt).toNat < μ → (0 ≤ k.toInt ∧ k.toInt ≤ 24) → lv_has ls 8 [(0, .ref qw), (1, .int set), (2, .int step), (3, .int low), (4, .int high), (5, .int fd), (6, .int k)] → W p l e (headSpec wsX8_spreadOf rm_X8_spreadOf).room s m ([.ref qw, .int set, .int step] : List Value).toArray below meth c s.heap [] 0 0 Q (F0 m 11 ls []) := by
    intro μ
    induction μ with
    | zero =>
      intro low high fd k ls hμ11
      exact absurd hμ11 (Nat.not_lt_zero _)
    | succ μ ih11 =>
      intro low high fd k ls hμ11 h11_0 hl
      refine lv_iload hx hb dX8_spreadOf_11 (lv_at hl 6 rfl) ?_
      refine lv_aload_n hx hb dX8_spreadOf_13 rfl (lv_at hl 0 rfl) ?_
      refine va_get (D := eD E) (ci := 8) (v := .ref (ap 0)) (C := RX8) (T := TX8) (N := 2) hx hb hts in_X8 hown hK hP 0 rfl rfl 0 (by decide) lk0 (fun _ h9 => h9) rfl dX8_spreadOf_14 ?_
      refine va_get (D := eD E) (ci := 1) (v := .int (vp 2 0)) (C := RX1) (T := TX1) (N := 11) hx hb hts in_X1 hown hK hP 1 rfl rfl 2 (by decide) lk1 (fun _ h9 => h9) rfl dX8_spreadOf_17 ?_
      refine lv_icmp_ge (tgt := 87) hx hb dX8_spreadOf_20 (by decide) (fun c20 => ?_) (fun c20 => ?_)
      · have c20_ := i_le c20
        refine lv_iload hx hb dX8_spreadOf_87 (lv_at hl 4 rfl) ?_
        refine lv_iload_n hx hb dX8_spreadOf_89 rfl (lv_at hl 3 rfl) ?_
        refine lv_isub hx hb dX8_spreadOf_90 ?_
        refine lv_topi (fun x90 e90 => ?_)
        subst hQ
        exact W.iret (v := x90) hx hb hr (fun t ht hW => ⟨x90, rfl, trivial, ht⟩) (fun q h => absurd h List.not_mem_nil) dX8_spreadOf_91
      · have c20_ := i_nle c20
        refine lv_iload_n hx hb dX8_spreadOf_23 rfl (lv_at hl 1 rfl) ?_
        refine lv_iload hx hb dX8_spreadOf_24 (lv_at hl 6 rfl) ?_
        refine lv_ishr hx hb dX8_spreadOf_26 ?_
        refine lv_topi (fun x26 e26 => ?_)
        refine lv_iconst (v := 1) hx hb dX8_spreadOf_27 (by decide) ?_
        refine lv_iand hx hb dX8_spreadOf_28 ?_
        refine lv_topi (fun x28 e28 => ?_)
        refine lv_if_eq (tgt := 81) hx hb dX8_spreadOf_29 (by decide) (fun c29 => ?_) (fun c29 => ?_)
        · have c29_ := i_eq c29
          obtain ⟨x81, e81⟩ : ∃ y : Int32, y = k + 1 := ⟨_, rfl⟩
          refine lv_iinc (v := x81) (lv' := [(6, .int x81), (0, .ref qw), (1, .int set), (2, .int step), (3, .int low), (4, .int high), (5, .int fd)]) hx hb dX8_spreadOf_81 hl (k := 6) rfl (by rw [e81]; rfl) (by decide) rfl (fun ls hl => ?_)
          have t81 := i_add e81 (by omega)
          refine lv_goto (tgt := 11) hx hb dX8_spreadOf_84 (by decide) ?_
          exact ih11 low high fd x81 ls (by omega) (by omega) (lv_sub hl [1, 2, 3, 4, 5, 6, 0] rfl)
        · have c29_ := i_ne c29
          refine lv_aload_n hx hb dX8_spreadOf_32 rfl (lv_at hl 0 rfl) ?_
          refine lv_iload hx hb dX8_spreadOf_33 (lv_at hl 6 rfl) ?_
          refine lv_iload_n hx hb dX8_spreadOf_35 rfl (lv_at hl 2 rfl) ?_
          refine lv_iconst (v := (-1)) hx hb dX8_spreadOf_36 (by decide) ?_
          refine rd_V (As := [.int k, .int step, .int (-1)]) (rest := []) (C := RX8) (ci := 8) ⟨hx, hb, hml, hown, hts⟩ (c_X8_heightAt l E A qw ap vp as_ vs k step (-1) hI hJ (by omega) (by omega)) (cwV 3 hts gX8_spreadOf_X8_heightAt rfl rfl rfl (by decide +kernel) ⟨Nat.le_of_ble_eq_true rfl, Nat.le_of_ble_eq_true rfl⟩) hE (hP.sub (ws' := wpsL E qw ap vp as_ vs) [0, 1, 2, 3, 4, 5, 6, 7, 8, 9, 10, 11, 12, 13, 14, 15, 16, 17, 18, 19, 20, 21, 22, 23, 24, 25, 26, 27, 28, 29, 30, 31, 32, 33] rfl) rfl rfl rfl rfl hl.1 rfl (Nat.le_of_ble_eq_true rfl) dX8_spreadOf_37 ⟨Nat.zero_le _, Nat.zero_le _⟩ (fun r37 h37 => ?_)
          refine lv_istore (lv' := [(7, .int r37), (0, .ref qw), (1, .int set), (2, .int step), (3, .int low), (4, .int high), (5, .int fd), (6, .int k)]) hx hb dX8_spreadOf_40 hl (by decide) rfl (fun ls hl => ?_)
          refine lv_iload hx hb dX8_spreadOf_42 (lv_at hl 6 rfl) ?_
          refine lv_if_eq (tgt := 56) hx hb dX8_spreadOf_44 (by decide) (fun c44 => ?_) (fun c44 => ?_)
          · have c44_ := i_eq c44
            refine lv_iload hx hb dX8_spreadOf_56 (lv_at hl 0 rfl) ?_
            refine lv_istore_n (lv' := [(3, .int r37), (7, .int r37), (0, .ref qw), (1, .int set), (2, .int step), (4, .int high), (5, .int fd), (6, .int k)]) hx hb dX8_spreadOf_58 rfl hl (by decide) rfl (fun ls hl => ?_)
            refine lv_iload hx hb dX8_spreadOf_59 (lv_at hl 6 rfl) ?_
            refine lv_if_eq (tgt := 74) hx hb dX8_spreadOf_61 (by decide) (fun c61 => ?_) (fun c61 => ?_)
            · have c61_ := i_eq c61
              refine lv_iload hx hb dX8_spreadOf_74 (lv_at hl 1 rfl) ?_
              refine lv_istore (lv' := [(4, .int r37), (3, .int r37), (7, .int r37), (0, .ref qw), (1, .int set), (2, .int step), (5, .int fd), (6, .int k)]) hx hb dX8_spreadOf_76 hl (by decide) rfl (fun ls hl => ?_)
              refine lv_iconst (v := 1) hx hb dX8_spreadOf_78 (by decide) ?_
              refine lv_istore (lv' := [(5, .int 1), (4, .int r37), (3, .int r37), (7, .int r37), (0, .ref qw), (1, .int set), (2, .int step), (6, .int k)]) hx hb dX8_spreadOf_79 hl (by decide) rfl (fun ls hl => ?_)
              obtain ⟨x81, e81⟩ : ∃ y : Int32, y = k + 1 := ⟨_, rfl⟩
              refine lv_iinc (v := x81) (lv' := [(6, .int x81), (5, .int 1), (4, .int r37), (3, .int r37), (7, .int r37), (0, .ref qw), (1, .int set), (2, .int step)]) hx hb dX8_spreadOf_81 hl (k := 7) rfl (by rw [e81]; rfl) (by decide) rfl (fun ls hl => ?_)
              have t81 := i_add e81 (by omega)
              refine lv_goto (tgt := 11) hx hb dX8_spreadOf_84 (by decide) ?_
              exact ih11 r37 r37 1 x81 ls (by omega) (by omega) (lv_sub hl [5, 6, 7, 3, 2, 1, 0] rfl)
            · have c61_ := i_ne c61
              refine lv_iload hx hb dX8_spreadOf_64 (lv_at hl 5 rfl) ?_
              refine lv_iload hx hb dX8_spreadOf_66 (lv_at hl 1 rfl) ?_
              refine va_mmax hx hb (hml.trans hl.1.symm) hown lk2 lk3 lk4 lk5 (Nat.le_of_ble_eq_true rfl) (Nat.le_of_ble_eq_true rfl) (Nat.zero_le _) (Nat.zero_le _) dX8_spreadOf_68 ?_
              refine lv_topi (fun x68 e68 => ?_)
              have t68 := i_max e68
              refine lv_goto (tgt := 76) hx hb dX8_spreadOf_71 (by decide) ?_
              refine lv_istore (lv' := [(4, .int x68), (3, .int r37), (7, .int r37), (0, .ref qw), (1, .int set), (2, .int step), (5, .int fd), (6, .int k)]) hx hb dX8_spreadOf_76 hl (by decide) rfl (fun ls hl => ?_)
              refine lv_iconst (v := 1) hx hb dX8_spreadOf_78 (by decide) ?_
              refine lv_istore (lv' := [(5, .int 1), (4, .int x68), (3, .int r37), (7, .int r37), (0, .ref qw), (1, .int set), (2, .int step), (6, .int k)]) hx hb dX8_spreadOf_79 hl (by decide) rfl (fun ls hl => ?_)
              obtain ⟨x81, e81⟩ : ∃ y : Int32, y = k + 1 := ⟨_, rfl⟩
              refine lv_iinc (v := x81) (lv' := [(6, .int x81), (5, .int 1), (4, .int x68), (3, .int r37), (7, .int r37), (0, .ref qw), (1, .int set), (2, .int step)]) hx hb dX8_spreadOf_81 hl (k := 7) rfl (by rw [e81]; rfl) (by decide) rfl (fun ls hl => ?_)
              have t81 := i_add e81 (by omega)
              refine lv_goto (tgt := 11) hx hb dX8_spreadOf_84 (by decide) ?_
              exact ih11 r37 x68 1 x81 ls (by omega) (by omega) (lv_sub hl [5, 6, 7, 3, 2, 1, 0] rfl)
          · have c44_ := i_ne c44
            refine lv_iload_n hx hb dX8_spreadOf_47 rfl (lv_at hl 4 rfl) ?_
            refine lv_iload hx hb dX8_spreadOf_48 (lv_at hl 0 rfl) ?_
            refine va_mmin hx hb (hml.trans hl.1.symm) hown lk6 lk7 lk4 lk8 (Nat.le_of_ble_eq_true rfl) (Nat.le_of_ble_eq_true rfl) (Nat.zero_le _) (Nat.zero_le _) dX8_spreadOf_50 ?_
            refine lv_topi (fun x50 e50 => ?_)
            have t50 := i_min e50
            refine lv_goto (tgt := 58) hx hb dX8_spreadOf_53 (by decide) ?_
            refine lv_istore_n (lv' := [(3, .int x50), (7, .int r37), (0, .ref qw), (1, .int set), (2, .int step), (4, .int high), (5, .int fd), (6, .int k)]) hx hb dX8_spreadOf_58 rfl hl (by decide) rfl (fun ls hl => ?_)
            refine lv_iload hx hb dX8_spreadOf_59 (lv_at hl 6 rfl) ?_
            refine lv_if_eq (tgt := 74) hx hb dX8_spreadOf_61 (by decide) (fun c61 => ?_) (fun c61 => ?_)
            · have c61_ := i_eq c61
              refine lv_iload hx hb dX8_spreadOf_74 (lv_at hl 1 rfl) ?_
              refine lv_istore (lv' := [(4, .int r37), (3, .int x50), (7, .int r37), (0, .ref qw), (1, .int set), (2, .int step), (5, .int fd), (6, .int k)]) hx hb dX8_spreadOf_76 hl (by decide) rfl (fun ls hl => ?_)
              refine lv_iconst (v := 1) hx hb dX8_spreadOf_78 (by decide) ?_
              refine lv_istore (lv' := [(5, .int 1), (4, .int r37), (3, .int x50), (7, .int r37), (0, .ref qw), (1, .int set), (2, .int step), (6, .int k)]) hx hb dX8_spreadOf_79 hl (by decide) rfl (fun ls hl => ?_)
              obtain ⟨x81, e81⟩ : ∃ y : Int32, y = k + 1 := ⟨_, rfl⟩
              refine lv_iinc (v := x81) (lv' := [(6, .int x81), (5, .int 1), (4, .int r37), (3, .int x50), (7, .int r37), (0, .ref qw), (1, .int set), (2, .int step)]) hx hb dX8_spreadOf_81 hl (k := 7) rfl (by rw [e81]; rfl) (by decide) rfl (fun ls hl => ?_)
              have t81 := i_add e81 (by omega)
              refine lv_goto (tgt := 11) hx hb dX8_spreadOf_84 (by decide) ?_
              exact ih11 x50 r37 1 x81 ls (by omega) (by omega) (lv_sub hl [5, 6, 7, 3, 2, 1, 0] rfl)
            · have c61_ := i_ne c61
              refine lv_iload hx hb dX8_spreadOf_64 (lv_at hl 5 rfl) ?_
              refine lv_iload hx hb dX8_spreadOf_66 (lv_at hl 1 rfl) ?_
              refine va_mmax hx hb (hml.trans hl.1.symm) hown lk2 lk3 lk4 lk5 (Nat.le_of_ble_eq_true rfl) (Nat.le_of_ble_eq_true rfl) (Nat.zero_le _) (Nat.zero_le _) dX8_spreadOf_68 ?_
              refine lv_topi (fun x68 e68 => ?_)
              have t68 := i_max e68
              refine lv_goto (tgt := 76) hx hb dX8_spreadOf_71 (by decide) ?_
              refine lv_istore (lv' := [(4, .int x68), (3, .int x50), (7, .int r37), (0, .ref qw), (1, .int set), (2, .int step), (5, .int fd), (6, .int k)]) hx hb dX8_spreadOf_76 hl (by decide) rfl (fun ls hl => ?_)
              refine lv_iconst (v := 1) hx hb dX8_spreadOf_78 (by decide) ?_
              refine lv_istore (lv' := [(5, .int 1), (4, .int x68), (3, .int x50), (7, .int r37), (0, .ref qw), (1, .int set), (2, .int step), (6, .int k)]) hx hb dX8_spreadOf_79 hl (by decide) rfl (fun ls hl => ?_)
              obtain ⟨x81, e81⟩ : ∃ y : Int32, y = k + 1 := ⟨_, rfl⟩
              refine lv_iinc (v := x81) (lv' := [(6, .int x81), (5, .int 1), (4, .int x68), (3, .int x50), (7, .int r37), (0, .ref qw), (1, .int set), (2, .int step)]) hx hb dX8_spreadOf_81 hl (k := 7) rfl (by rw [e81]; rfl) (by decide) rfl (fun ls hl => ?_)
              have t81 := i_add e81 (by omega)
              refine lv_goto (tgt := 11) hx hb dX8_spreadOf_84 (by decide) ?_
              exact ih11 x50 x68 1 x81 ls (by omega) (by omega) (lv_sub hl [5, 6, 7, 3, 2, 1, 0] rfl)
  exact K11 _ 0 0 0 0 ls (Nat.lt_succ_self _) (by omega) (lv_sub hl [4, 5, 6, 3, 2, 1, 0] rfl)
