section LL
variable {p : Program} {l : Launch} {e : Env} {s : State} {m : MethodId} {below : List Frame} {meth : Method} {c : Code} {Q : State → Prop}
variable {b L qt qm : Nat} {xs : Nat → Int32} {E : Ev} {A : Nat → Prop}
theorem i_len {L : Nat} (h : L ≤ 448) : (Int32.ofNat L).toInt = L := Int32.toInt_ofNat_of_lt (by omega)
set_option maxHeartbeats 4000000 in
set_option maxRecDepth 100000 in
theorem lw_loop (C : LwC p s m c b L xs E A) (KE : ∀ (H : Heap) (locs : List Loc) (ls : Array Slot), va_S A s.heap H locs → W p l e room_1 s m #[Value.ref b] below meth c H locs 600000 7302250 Q (F0 m 1463 ls [.int 1])) :
    ∀ (μ : Nat) (i : Int32) (H : Heap) (locs : List Loc) (ls : Array Slot), (455 - i.toInt).toNat < μ → va_S A s.heap H locs → LwI E A qt qm H → (0 ≤ i.toInt ∧ i.toInt ≤ 455) → lv_has ls 4 (lwl b qt qm i) → W p l e room_1 s m #[Value.ref b] below meth c H locs 600000 7302250 Q (F0 m 18 ls []) := by
  have hx := C.1.1
  have hb := C.1.2.1
  have hX := C.2.2.2.1
  have hbl := C.2.2.2.2.1
  have hbA := C.2.2.2.2.2.1
  have hL := C.2.2.2.2.2.2.1
  have n_7 : (7 : Int32).toInt = 7 := by decide
  intro μ
  induction μ with
  | zero => intro i H locs ls hμ; exact absurd hμ (Nat.not_lt_zero _)
  | succ μ ih =>
    intro i H locs ls hμ hS I hi hl
    refine lv_iload_n hx hb dL_law_18 rfl (lv_at hl 3 rfl) ?_
    refine lv_aload_n hx hb dL_law_19 rfl (lv_at hl 0 rfl) ?_
    refine va_slen hx hb hX hbl hbA hS dL_law_20 ?_
    have n_L := i_len hL
    generalize Int32.ofNat L = n at n_L ⊢
    refine lv_bipush (v := 7) hx hb dL_law_21 (by decide) ?_
    refine lv_isub hx hb dL_law_23 ?_
    refine lv_topi (fun x23 e23 => ?_)
    have t23 := i_sub e23 (by omega)
    refine lv_icmp_gt (tgt := 1462) hx hb dL_law_24 (by decide) (fun c24 => ?_) (fun c24 => ?_)
    · exact lv_iconst (v := 1) hx hb dL_law_1462 (by decide) (KE H locs ls hS)
    have c24_ := i_nlt c24
    have hi7 : 0 ≤ i.toInt ∧ i.toInt + 7 ≤ L := by omega
    have K : ∀ (H : Heap) (locs : List Loc), va_S A s.heap H locs → LwI E A qt qm H → W p l e room_1 s m #[Value.ref b] below meth c H locs 600000 7302250 Q (F0 m 1456 ls []) := by
      intro H locs hS I
      obtain ⟨x9, e9⟩ : ∃ z : Int32, z = i + 7 := ⟨_, rfl⟩
      have t9 := i_add e9 (by omega)
      refine lv_iinc (v := x9) (lv' := [(3, .int x9), (0, .ref b), (1, .ref qt), (2, .ref qm)]) hx hb dL_law_1456 hl (k := 3) rfl (by rw [e9]; rfl) (by decide) rfl (fun ls hl => ?_)
      refine lv_goto (tgt := 18) hx hb dL_law_1459 (by decide) ?_
      exact ih x9 H locs ls (by omega) hS I (by omega) (lv_sub hl [1, 2, 3, 0] rfl)
    refine lv_aload_n hx hb dL_law_27 rfl (lv_at hl 0 rfl) ?_
    refine lv_iload_n hx hb dL_law_28 rfl (lv_at hl 3 rfl) ?_
    refine va_sld hx hb hX hbl hbA hS (i_in (by omega) (by omega)) dL_law_29 ?_
    refine lv_bipush (v := 63) hx hb dL_law_30 (by decide) ?_
    refine lv_iand hx hb dL_law_32 ?_
    refine lv_topi (fun x32 e32 => ?_)
    by_cases tb : x32.toInt < 0 ∨ 37 < x32.toInt
    · exact lv_tableOut (tgt := 1456) hx hb dL_law_33 tb (by decide) (K H locs hS I)
    · rcases (show x32.toInt = 0 ∨ x32.toInt = 1 ∨ x32.toInt = 2 ∨ x32.toInt = 3 ∨ x32.toInt = 4 ∨ x32.toInt = 5 ∨ x32.toInt = 6 ∨ x32.toInt = 7 ∨ x32.toInt = 8 ∨ x32.toInt = 9 ∨ x32.toInt = 10 ∨ x32.toInt = 11 ∨ x32.toInt = 12 ∨ x32.toInt = 13 ∨ x32.toInt = 14 ∨ x32.toInt = 15 ∨ x32.toInt = 16 ∨ x32.toInt = 17 ∨ x32.toInt = 18 ∨ x32.toInt = 19 ∨ x32.toInt = 20 ∨ x32.toInt = 21 ∨ x32.toInt = 22 ∨ x32.toInt = 23 ∨ x32.toInt = 24 ∨ x32.toInt = 25 ∨ x32.toInt = 26 ∨ x32.toInt = 27 ∨ x32.toInt = 28 ∨ x32.toInt = 29 ∨ x32.toInt = 30 ∨ x32.toInt = 31 ∨ x32.toInt = 32 ∨ x32.toInt = 33 ∨ x32.toInt = 34 ∨ x32.toInt = 35 ∨ x32.toInt = 36 ∨ x32.toInt = 37 by omega) with sw | sw | sw | sw | sw | sw | sw | sw | sw | sw | sw | sw | sw | sw | sw | sw | sw | sw | sw | sw | sw | sw | sw | sw | sw | sw | sw | sw | sw | sw | sw | sw | sw | sw | sw | sw | sw | sw
      · exact lv_tableIn (off := 167) (tgt := 200) hx hb dL_law_33 (by omega) (by omega) (by rw [sw]; rfl) (by decide) (lc_0 C hS I hl hi7 K)
      · exact lv_tableIn (off := 190) (tgt := 223) hx hb dL_law_33 (by omega) (by omega) (by rw [sw]; rfl) (by decide) (lc_1 C hS I hl hi7 K)
      · exact lv_tableIn (off := 203) (tgt := 236) hx hb dL_law_33 (by omega) (by omega) (by rw [sw]; rfl) (by decide) (lc_2 C hS I hl hi7 K)
      · exact lv_tableIn (off := 216) (tgt := 249) hx hb dL_law_33 (by omega) (by omega) (by rw [sw]; rfl) (by decide) (lc_3 C hS I hl hi7 K)
      · exact lv_tableIn (off := 239) (tgt := 272) hx hb dL_law_33 (by omega) (by omega) (by rw [sw]; rfl) (by decide) (lc_4 C hS I hl hi7 K)
      · exact lv_tableIn (off := 282) (tgt := 315) hx hb dL_law_33 (by omega) (by omega) (by rw [sw]; rfl) (by decide) (lc_5 C hS I hl hi7 K)
      · exact lv_tableIn (off := 325) (tgt := 358) hx hb dL_law_33 (by omega) (by omega) (by rw [sw]; rfl) (by decide) (lc_6 C hS I hl hi7 K)
      · exact lv_tableIn (off := 358) (tgt := 391) hx hb dL_law_33 (by omega) (by omega) (by rw [sw]; rfl) (by decide) (lc_7 C hS I hl hi7 K)
      · exact lv_tableIn (off := 391) (tgt := 424) hx hb dL_law_33 (by omega) (by omega) (by rw [sw]; rfl) (by decide) (lc_8 C hS I hl hi7 K)
      · exact lv_tableIn (off := 424) (tgt := 457) hx hb dL_law_33 (by omega) (by omega) (by rw [sw]; rfl) (by decide) (lc_9 C hS I hl hi7 K)
      · exact lv_tableIn (off := 447) (tgt := 480) hx hb dL_law_33 (by omega) (by omega) (by rw [sw]; rfl) (by decide) (lc_10 C hS I hl hi7 K)
      · exact lv_tableIn (off := 470) (tgt := 503) hx hb dL_law_33 (by omega) (by omega) (by rw [sw]; rfl) (by decide) (lc_11 C hS I hl hi7 K)
      · exact lv_tableIn (off := 493) (tgt := 526) hx hb dL_law_33 (by omega) (by omega) (by rw [sw]; rfl) (by decide) (lc_12 C hS I hl hi7 K)
      · exact lv_tableIn (off := 536) (tgt := 569) hx hb dL_law_33 (by omega) (by omega) (by rw [sw]; rfl) (by decide) (lc_13 C hS I hl hi7 K)
      · exact lv_tableIn (off := 569) (tgt := 602) hx hb dL_law_33 (by omega) (by omega) (by rw [sw]; rfl) (by decide) (lc_14 C hS I hl hi7 K)
      · exact lv_tableIn (off := 602) (tgt := 635) hx hb dL_law_33 (by omega) (by omega) (by rw [sw]; rfl) (by decide) (lc_15 C hS I hl hi7 K)
      · exact lv_tableIn (off := 625) (tgt := 658) hx hb dL_law_33 (by omega) (by omega) (by rw [sw]; rfl) (by decide) (lc_16 C hS I hl hi7 K)
      · exact lv_tableIn (off := 668) (tgt := 701) hx hb dL_law_33 (by omega) (by omega) (by rw [sw]; rfl) (by decide) (lc_17 C hS I hl hi7 K)
      · exact lv_tableIn (off := 691) (tgt := 724) hx hb dL_law_33 (by omega) (by omega) (by rw [sw]; rfl) (by decide) (lc_18 C hS I hl hi7 K)
      · exact lv_tableIn (off := 734) (tgt := 767) hx hb dL_law_33 (by omega) (by omega) (by rw [sw]; rfl) (by decide) (lc_19 C hS I hl hi7 K)
      · exact lv_tableIn (off := 787) (tgt := 820) hx hb dL_law_33 (by omega) (by omega) (by rw [sw]; rfl) (by decide) (lc_20 C hS I hl hi7 K)
      · exact lv_tableIn (off := 850) (tgt := 883) hx hb dL_law_33 (by omega) (by omega) (by rw [sw]; rfl) (by decide) (lc_21 C hS I hl hi7 K)
      · exact lv_tableIn (off := 883) (tgt := 916) hx hb dL_law_33 (by omega) (by omega) (by rw [sw]; rfl) (by decide) (lc_22 C hS I hl hi7 K)
      · exact lv_tableIn (off := 906) (tgt := 939) hx hb dL_law_33 (by omega) (by omega) (by rw [sw]; rfl) (by decide) (lc_23 C hS I hl hi7 K)
      · exact lv_tableIn (off := 949) (tgt := 982) hx hb dL_law_33 (by omega) (by omega) (by rw [sw]; rfl) (by decide) (lc_24 C hS I hl hi7 K)
      · exact lv_tableIn (off := 1012) (tgt := 1045) hx hb dL_law_33 (by omega) (by omega) (by rw [sw]; rfl) (by decide) (lc_25 C hS I hl hi7 K)
      · exact lv_tableIn (off := 1055) (tgt := 1088) hx hb dL_law_33 (by omega) (by omega) (by rw [sw]; rfl) (by decide) (lc_26 C hS I hl hi7 K)
      · exact lv_tableIn (off := 1088) (tgt := 1121) hx hb dL_law_33 (by omega) (by omega) (by rw [sw]; rfl) (by decide) (lc_27 C hS I hl hi7 K)
      · exact lv_tableIn (off := 1111) (tgt := 1144) hx hb dL_law_33 (by omega) (by omega) (by rw [sw]; rfl) (by decide) (lc_28 C hS I hl hi7 K)
      · exact lv_tableIn (off := 1164) (tgt := 1197) hx hb dL_law_33 (by omega) (by omega) (by rw [sw]; rfl) (by decide) (lc_29 C hS I hl hi7 K)
      · exact lv_tableIn (off := 1197) (tgt := 1230) hx hb dL_law_33 (by omega) (by omega) (by rw [sw]; rfl) (by decide) (lc_30 C hS I hl hi7 K)
      · exact lv_tableIn (off := 1220) (tgt := 1253) hx hb dL_law_33 (by omega) (by omega) (by rw [sw]; rfl) (by decide) (lc_31 C hS I hl hi7 K)
      · exact lv_tableIn (off := 1295) (tgt := 1328) hx hb dL_law_33 (by omega) (by omega) (by rw [sw]; rfl) (by decide) (lc_32 C hS I hl hi7 K)
      · exact lv_tableIn (off := 1318) (tgt := 1351) hx hb dL_law_33 (by omega) (by omega) (by rw [sw]; rfl) (by decide) (lc_33 C hS I hl hi7 K)
      · exact lv_tableIn (off := 1331) (tgt := 1364) hx hb dL_law_33 (by omega) (by omega) (by rw [sw]; rfl) (by decide) (lc_34 C hS I hl hi7 K)
      · exact lv_tableIn (off := 1354) (tgt := 1387) hx hb dL_law_33 (by omega) (by omega) (by rw [sw]; rfl) (by decide) (lc_35 C hS I hl hi7 K)
      · exact lv_tableIn (off := 1377) (tgt := 1410) hx hb dL_law_33 (by omega) (by omega) (by rw [sw]; rfl) (by decide) (lc_36 C hS I hl hi7 K)
      · exact lv_tableIn (off := 1400) (tgt := 1433) hx hb dL_law_33 (by omega) (by omega) (by rw [sw]; rfl) (by decide) (lc_37 C hS I hl hi7 K)
end LL
