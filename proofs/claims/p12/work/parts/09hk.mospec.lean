section
/-! a row of a moon, as the reference reads it -/
def lM2 : List Nat := [33, 34, 35, 36, 61, 44, 47]
theorem MF.get0 {α : Type} {a : Rd α} {w r w' : Int} {ok : α → Prop} (h : MF a w r w' ok) (hk : okF a) (hr : r = 0) : w' = w ∧ ∃ x, a = .inr x ∧ ok x := by
  rcases h with ⟨k, q, q2, q3, q4⟩ | ⟨x, q2, q3, q4, q5⟩
  · have := hk k q q2
    omega
  · exact ⟨q4, x, q2, q5⟩
section MO
variable {T : Nat → Int32} {n P0 pos e z p' w r w' : Int} {b i i' : Nat} {s0 s s' : Nat → Int}
theorem mo_f (hi : i ≤ 8) : 9 - i = (9 - (i + 1)) + 1 := by omega
theorem mo_no {ok : Int × Int × Int → Prop} (hr : rowF T n b 9 0 P0 s0 = rowF T n b (9 - i) i pos s) (hi : i ≤ 8) (hn : MF (numF T n 0 18 pos) w r w' ok) (h0 : r ≠ 0) : rowF T n b 9 0 P0 s0 = .inl (r, w') := by
  rcases hn with ⟨k, q, q2, q3, q4⟩ | ⟨x, q2, q3, q4, q5⟩
  · rw [hr, mo_f hi, row_no q2, q3, q4]
  · exact absurd q3 h0
theorem mo_on (hr : rowF T n b 9 0 P0 s0 = rowF T n b (9 - i) i pos s) (hi : i ≤ 8) (hn : ∃ V q0 : Int, numF T n 0 18 pos = .inr (V, e, q0) ∧ s' = upI s (b + i) (V - 9)) (hz : z = skp T n e) (hc : z < n ∧ tc T z = 44) (h9 : i + 1 ≠ 9) (hi' : i' = i + 1) (hp' : p' = z + 1) : rowF T n b 9 0 P0 s0 = rowF T n b (9 - i') i' p' s' := by
  obtain ⟨V, q0, h1, h2⟩ := hn
  subst h2 hi' hp'
  rw [hr, mo_f hi, row_on h1 hz ⟨hc.1, hc.2, h9⟩]
theorem mo_end (hr : rowF T n b 9 0 P0 s0 = rowF T n b (9 - i) i pos s) (hi : i ≤ 8) (hn : ∃ V q0 : Int, numF T n 0 18 pos = .inr (V, e, q0) ∧ s' = upI s (b + i) (V - 9)) (hz : z = skp T n e) (hc : n ≤ z ∨ tc T z ≠ 44 ∨ i + 1 = 9) (h2 : 2 ≤ i + 1) (hi' : i' = i + 1) (hp' : p' = z) : rowF T n b 9 0 P0 s0 = .inr (i', p', s') := by
  obtain ⟨V, q0, h1, h3⟩ := hn
  subst h3 hi' hp'
  rw [hr, mo_f hi, row_end h1 hz (fun q => by rcases hc with h | h | h; omega; exact h q.2.1; exact q.2.2 h), if_neg (by omega)]
theorem mo_one (hr : rowF T n b 9 0 P0 s0 = rowF T n b (9 - i) i pos s) (hi : i ≤ 8) (hn : ∃ V q0 : Int, numF T n 0 18 pos = .inr (V, e, q0) ∧ s' = upI s (b + i) (V - 9)) (hz : z = skp T n e) (hc : n ≤ z ∨ tc T z ≠ 44) (h2 : i + 1 < 2) : rowF T n b 9 0 P0 s0 = .inl (1, z) := by
  obtain ⟨V, q0, h1, h3⟩ := hn
  rw [hr, mo_f hi, row_end h1 hz (fun q => by rcases hc with h | h; omega; exact h q.2.1), if_pos h2]
end MO
theorem mo_num {T : Nat → Int32} {n pos w r w' e : Int} {b i : Nat} {s s' : Nat → Int} {num q0 : Int} (hn : MF (numF T n 0 18 pos) w r w' (fun x => num = x.1 ∧ e = x.2.1 ∧ q0 = x.2.2)) (h0 : r = 0) (hs : s' = upI s (b + i) (num - 9)) : ∃ V q0 : Int, numF T n 0 18 pos = .inr (V, e, q0) ∧ s' = upI s (b + i) (V - 9) := by
  obtain ⟨-, x, h1, h2, h3, h4⟩ := hn.get0 okF.num h0
  obtain ⟨x1, x2, x3⟩ := x
  have h2 : num = x1 := h2
  have h3 : e = x2 := h3
  subst h2 h3
  exact ⟨_, _, h1, hs⟩
theorem fI_upd {f : Nat → Int32} {k n : Nat} {x : Int32} {y : Int} (hk : k = n) (hx : x.toInt = y) : fI (upd f k x) = upI (fI f) n y := by
  subst hk hx
  funext j
  show (upd f k x j).toInt = if j = k then x.toInt else (f j).toInt
  unfold upd
  split <;> rfl
theorem sm_moon {S : St0} {vk vn : Vf} {px py p : Int} {m k : Nat} (h : SM (upS (upS (upS S 43 0 (S 43 0 + 1)) 45 m px) 46 m py) vk) (hm : m = (S 43 0).toNat) (e : scL lM2 vk vn) (e4 : ∀ j, j ≠ m → vn 44 j = vk 44 j) (hk : (vn 44 m).toInt = k) : SM (moonS S px py (k, p, fI (vn 47))) vn := fun t h1 j => by
  subst hm
  have e0 : moonS S px py (k, p, fI (vn 47)) t j = cond (Nat.beq t 47) ((vn 47 j).toInt) (cond (Nat.beq t 46 && Nat.beq j (S 43 0).toNat) py (cond (Nat.beq t 45 && Nat.beq j (S 43 0).toNat) px (cond (Nat.beq t 44 && Nat.beq j (S 43 0).toNat) (k : Int) (cond (Nat.beq t 43 && Nat.beq j 0) (S 43 0 + 1) (S t j))))) := rfl
  have e1 : ∀ t j, upS (upS (upS S 43 0 (S 43 0 + 1)) 45 (S 43 0).toNat px) 46 (S 43 0).toNat py t j = cond (Nat.beq t 46 && Nat.beq j (S 43 0).toNat) py (cond (Nat.beq t 45 && Nat.beq j (S 43 0).toNat) px (cond (Nat.beq t 43 && Nat.beq j 0) (S 43 0 + 1) (S t j))) := fun _ _ => rfl
  rw [e0]
  by_cases q7 : t = 47
  · subst q7
    rfl
  · rw [beqN q7]
    by_cases q4 : t = 44
    · subst q4
      have hb := h 44 (by decide) j
      rw [e1] at hb
      have hb : S 44 j = (vk 44 j).toInt := hb
      show cond (Nat.beq j (S 43 0).toNat) (k : Int) (S 44 j) = (vn 44 j).toInt
      by_cases q : j = (S 43 0).toNat
      · subst q
        rw [Nat.beq_refl, hk]
        rfl
      · rw [beqN q, e4 j q]
        exact hb
    · have hb := h t h1 j
      rw [e1] at hb
      rw [beqN q4, e t (by unfold lM2; intro hh; simp only [List.mem_cons, List.not_mem_nil, or_false] at hh; omega)]
      exact hb
end
section
def rm_X10_takeMoon : Room := { frames := 3, cells := 0, slots := 0, locals := 73 }
set_option maxHeartbeats 4000000 in
set_option maxRecDepth 100000 in
theorem c_X10_takeMoon (l : Launch) (E : Ev) (sz : Nat) (am : Nat → Nat) (vm : Vf) (S : St0) (hMI : MdI vm) (hat : atI vm) (hRd : RdM vm) (hw1 : 1 ≤ (vm 37 0).toInt) (hcn : (vm 43 0).toInt ≤ 2) (hSM : SM S vm) : Met l yX10_takeMoon wsX10_takeMoon rm_X10_takeMoon (MtP E sz [.ref (am 0)] (mdL E am vm)) (va_Qi (fun (r : Int32) (u : Vf) => ((MdI u ∧ atI u ∧ (vm 34 0).toInt ≤ (u 34 0).toInt ∧ (0 ≤ r.toInt ∧ r.toInt ≤ 4) ∧ (r.toInt = 0 → RdM u)) ∧ fr lRd vm u) ∧ (∀ wa, TK (moonP (vm 31) (vm 32 0).toInt S wa (vm 34 0).toInt) (moonF (vm 31) (vm 32 0).toInt S wa (vm 34 0).toInt) (vm 33 0).toInt r.toInt (u 33 0).toInt (fun x => (u 34 0).toInt = x.2.2.1 ∧ SM (moonS S x.1.1.2.1 x.1.2.1 x.2) u))) (MtB E (va_A (mdL E am vm) sz) (fun u => mdL E am u)) (va_A (mdL E am vm) sz)) 0 0 (va_A (mdL E am vm) sz) := by
  refine Met.ofW (cc := cX10_takeMoon) (maxL := 4) (ret := (some .int)) (by decide) rfl ?_
  intro p e s m args below meth c s₁ B hml hv
  obtain ⟨rfl, hsz, hE, hP, hD0⟩ := hv
  subst hsz
  have hD := hD0.self (sz := s.heap.size)
  generalize hAe : va_A (mdL E am vm) s.heap.size = A at hD hE ⊢
  have hA : ∀ q : Nat, s.heap.size ≤ q → A q := fun q h => by rw [← hAe]; exact Or.inr h
  have hS : va_S A s.heap s.heap [] := va_S.rf
  have hx := B.exec
  have hb := B.bytes
  have hr := B.returns
  have hts := atoms_spec (ws := wsX10_takeMoon) B.pre
  have hown : s.vm.findClass RX10 = some m.cls := findClass_of_methodNamed B.named
  have hlocks := B.notSynchronized
  have hK := hE.1
  have in_X10 : ∀ w ∈ u_ws RX10 TX10 79, w ∈ wsX10_takeMoon := fun w h => List.mem_cons_of_mem _ (List.mem_append_right _ h)
  have lk0 := hts (.fieldLink RX10 231 "TidedGroundModel" "readMoons" "I") (List.mem_of_getElem? (i := 1) rfl)
  have lk1 := hts (.fieldLink RX10 89 "TidedGroundModel" "readLateX" "[I") (List.mem_of_getElem? (i := 2) rfl)
  have lk2 := hts (.fieldLink RX10 86 "TidedGroundModel" "readMany" "[I") (List.mem_of_getElem? (i := 4) rfl)
  have lk3 := hts (.fieldLink RX10 180 "TidedGroundModel" "at0" "I") (List.mem_of_getElem? (i := 7) rfl)
  have lk4 := hts (.fieldLink RX10 95 "TidedGroundModel" "readParts" "[I") (List.mem_of_getElem? (i := 5) rfl)
  have lk5 := hts (.fieldLink RX10 198 "TidedGroundModel" "number" "I") (List.mem_of_getElem? (i := 6) rfl)
  have lk6 := hts (.fieldLink RX10 92 "TidedGroundModel" "readLateY" "[I") (List.mem_of_getElem? (i := 3) rfl)
  have n_0 : (0 : Int32).toInt = 0 := by decide
  have n_1 : (1 : Int32).toInt = 1 := by decide
  have n_2 : (2 : Int32).toInt = 2 := by decide
  have n_8 : (8 : Int32).toInt = 8 := by decide
  have n_9 : (9 : Int32).toInt = 9 := by decide
  have n_18 : (18 : Int32).toInt = 18 := by decide
  have n_44 : (44 : Int32).toInt = 44 := by decide
  have hl := lv_entry ([.ref (am 0)]) (n := 4) (Nat.le_of_ble_eq_true rfl)
  rw [lg_entry_eq]
  generalize (lg_sl ([.ref (am 0)]) ++ List.replicate (4 - (lg_sl ([.ref (am 0)])).length) Slot.unset).toArray = ls at hl ⊢
  have hl : lv_has ls 4 [(0, .ref (am 0))] := hl
  refine W_abs (fun Q hQ => ?_)
  have hH := hMI.1
  obtain ⟨hT1, hT2, hT3, hT4, hT5⟩ := id hH.2.2.2.2.2.2
  obtain ⟨ha1, ha2⟩ := id hat
  obtain ⟨hrG, hrC, hrZ, hrMo, hrB, hrD⟩ := id hRd
  obtain ⟨hrc1, hrc2, hrc3, hrc4, hrc5, hrc6⟩ := id hrC
  have hd1 : 1 ≤ (vm 38 0).toInt := by rcases hrZ with q | q <;> omega
  have hj0 : 0 ≤ (vm 43 0).toInt := by omega
  have hj1 : (vm 43 0).toInt < ((3 : Nat) : Int) := by omega
  have hs43 : S 43 0 = (vm 43 0).toInt := hSM 43 (by decide) 0
  have ha47 : S 47 = fI (vm 47) := hSM.at 47 (by decide)
  have hck : ∀ wa, chk (decide (3 ≤ S 43 0)) 3 wa = .inr () := fun wa => chk_off (by omega)
  have hmk : (vm 43 0).toNatClampNeg = (S 43 0).toNat := by show (vm 43 0).toInt.toNat = _; omega
  have hFz : fr lRd vm vm := fr.rf
  refine lv_aload_n hx hb dX10_takeMoon_0 rfl (lv_at hl 0 rfl) ?_
  refine va_get (D := eD E) (ci := 10) (v := .int (vm 43 0)) (C := RX10) (T := TX10) (N := 79) hx hb hts in_X10 hown hK hP 0 rfl rfl 43 (by decide) lk0 (fun _ h9 => h9) rfl dX10_takeMoon_1 ?_
  refine lv_istore_n (lv' := [(1, .int (vm 43 0)), (0, .ref (am 0))]) hx hb dX10_takeMoon_4 rfl hl (by decide) rfl (fun ls hl => ?_)
  refine lv_aload_n hx hb dX10_takeMoon_5 rfl (lv_at hl 1 rfl) ?_
  refine lv_dup hx hb dX10_takeMoon_6 rfl ?_
  refine va_get (D := eD E) (ci := 10) (v := .int (vm 43 0)) (C := RX10) (T := TX10) (N := 79) hx hb hts in_X10 hown hK hP 0 rfl rfl 43 (by decide) lk0 (fun _ h9 => h9) rfl dX10_takeMoon_7 ?_
  refine lv_iconst (v := 1) hx hb dX10_takeMoon_10 (by decide) ?_
  refine lv_iadd hx hb dX10_takeMoon_11 ?_
  refine lv_topi (fun x11 e11 => ?_)
  have t11 := i_add e11 (by omega)
  refine va_put (D := eD E) (ci := 10) (v := .int x11) (ty := .int) (C := RX10) (T := TX10) (N := 79) hx hb hts in_X10 tyX10 tyX10_ok nmX10 hown hK hP hD hS 0 rfl rfl 43 (by decide) lk0 (fun _ h9 => h9) rfl (by decide +kernel) rfl rfl (Nat.le_of_ble_eq_true rfl) dX10_takeMoon_12 (fun H locs hP hD hS => ?_)
  replace hP : va_P (eD E) vwCl (mdL E am (up2 vm 43 0 x11)) H := hP
  replace hD : va_D A (mdL E am (up2 vm 43 0 x11)) := hD
  generalize hv12 : up2 vm 43 0 x11 = vm_12 at hP hD
  have hFz : fr lRd vm vm_12 := by first | exact hFz | (rw [← hv12]; exact hFz.up (by decide))
  have hMI : MdI vm_12 := by rw [← hv12]; exact hMI
  have hat : atI vm_12 := by rw [← hv12]; exact hat
  have hq12 : (vm_12 43 0).toInt = x11.toInt := by rw [← hv12]; rfl
  have hq12_34 : (vm_12 34 0).toInt = (vm 34 0).toInt := by rw [← hv12]; rfl
  have hmo : moF (vm 43 0).toNatClampNeg vm vm_12 := (by rw [← hv12]; exact moF.rf.up (by omega))
  have hSM12 : SM (upS S 43 0 (S 43 0 + 1)) vm_12 := hSM.cnt hv12 (by omega)
  refine lv_aload_n hx hb dX10_takeMoon_15 rfl (lv_at hl 1 rfl) ?_
  refine lv_aload_n hx hb dX10_takeMoon_16 rfl (lv_at hl 1 rfl) ?_
  refine va_get (D := eD E) (ci := 10) (v := .ref (am 45)) (C := RX10) (T := TX10) (N := 79) hx hb hts in_X10 hown hK hP 0 rfl rfl 45 (by decide) lk1 (fun _ h9 => h9) rfl dX10_takeMoon_17 ?_
  refine lv_iload_n hx hb dX10_takeMoon_20 rfl (lv_at hl 0 rfl) ?_
  refine lv_iconst (v := 0) hx hb dX10_takeMoon_21 (by decide) ?_
  refine lv_bipush (v := 8) hx hb dX10_takeMoon_22 (by decide) ?_
  refine mt_Vi (w1 := fun (u : Vf) => mdL E am u) (wf := fun (u : Vf) => mdL E am u) (wr := []) (As := [.ref (am 45), .int (vm 43 0), .int 0, .int 8]) (rest := []) (C := RX10) (ci := 10) ⟨hx, hb, hml, hown, hts⟩ (c_X10_into_45 l E H.size am vm_12 (vm 43 0) 0 8 hMI hat (by omega)) (cwV 4 hts gX10_takeMoon_X10_into rfl rfl rfl (by decide +kernel) ⟨Nat.le_of_ble_eq_true rfl, Nat.le_of_ble_eq_true rfl⟩) hE hS hA hP hD [0, 1, 2, 3, 4, 5, 6, 7, 8, 9, 10, 11, 12, 13, 14, 15, 16, 17, 18, 19, 20, 21, 22, 23, 24, 25, 26, 27, 28, 29, 30, 31, 32, 33, 34, 35, 36, 37, 38, 39, 40, 41, 42, 43, 44, 45] [] rfl rfl (by decide) (by decide) (by decide) [0, 1, 2, 3, 4, 5, 6, 7, 8, 9, 10, 11, 12, 13, 14, 15, 16, 17, 18, 19, 20, 21, 22, 23, 24, 25, 26, 27, 28, 29, 30, 31, 32, 33, 34, 35, 36, 37, 38, 39, 40, 41, 42, 43, 44, 45] (by decide) (fun u => rfl) rfl rfl rfl rfl hl.1 rfl (Nat.le_of_ble_eq_true rfl) dX10_takeMoon_24 ⟨Nat.zero_le _, Nat.zero_le _⟩ (fun r24 u24 H locs h24 hP hD hS => ?_)
  generalize u24 = o24_vm at hP hD h24
  try dsimp only at h24
  have hf24 := h24.2
  replace h24 := h24.1
  have hFn24 := h24.2
  replace h24 := h24.1
  replace hP : va_P (eD E) vwCl (mdL E am o24_vm) H := hP
  replace hD : va_D A (mdL E am o24_vm) := hD
  have hFz : fr lRd vm o24_vm := by first | exact hFz | exact hFz.tr hFn24 (by decide) | (rw [← hv24]; repeat' (first | exact hFz | refine fr.up ?_ (by decide) | refine fr.up3 ?_ (by decide)))
  have hMI : MdI o24_vm := hMI.on (h24.1.mem (by decide))
  have hat := h24.2.2.1
  obtain ⟨y24, hy24, hr24⟩ := id h24.2.1
  have hm24 := h24.2.2.2
  have hmo : moF (vm 43 0).toNatClampNeg vm o24_vm := hmo.k45 h24.1 hy24
  have hq24 : (o24_vm 43 0).toInt = (vm_12 43 0).toInt := by rw [h24.1 43 (by decide) (by decide) (by decide) (by decide) (by decide) (by decide)]
  have hv24 : o24_vm 45 (vm 43 0).toNatClampNeg = y24 := by rw [hy24]; exact upd_at
  have hb45 : r24.toInt = 0 → 0 ≤ (o24_vm 45 (vm 43 0).toNatClampNeg).toInt ∧ (o24_vm 45 (vm 43 0).toNatClampNeg).toInt ≤ 8 := fun q => by rw [hv24]; omega
  have hn24 := hf24.1
  rw [n_0, n_8, ← hv12] at hn24
  have hh24 := fun wa => MF.pre1 (hck wa) hn24
  have hT24 : o24_vm 31 = vm 31 ∧ o24_vm 32 = vm 32 ∧ o24_vm 47 = vm 47 := by rw [h24.1 31 (by decide) (by decide) (by decide) (by decide) (by decide) (by decide), h24.1 32 (by decide) (by decide) (by decide) (by decide) (by decide) (by decide), h24.1 47 (by decide) (by decide) (by decide) (by decide) (by decide) (by decide), ← hv12]; exact ⟨rfl, rfl, rfl⟩
  have hSM24 : SM (upS (upS S 43 0 (S 43 0 + 1)) 45 (S 43 0).toNat (o24_vm 35 0).toInt) o24_vm := hSM12.step h24.1 hf24.2 hmk
  have hd24 : o24_vm 45 (vm 43 0).toNatClampNeg = o24_vm 35 0 := by rw [hf24.2]; exact upd_at
  refine lv_istore_n (lv' := [(2, .int r24), (1, .int (vm 43 0)), (0, .ref (am 0))]) hx hb dX10_takeMoon_27 rfl hl (by decide) rfl (fun ls hl => ?_)
  refine lv_iload_n hx hb dX10_takeMoon_28 rfl (lv_at hl 0 rfl) ?_
  have K48 : ∀  (fz : Int32) (vk : Vf) (H : Heap) (locs : List Loc) (ls : Array Slot), va_P (eD E) vwCl (mdL E am vk) H → va_D A (mdL E am vk) → va_S A s.heap H locs → (MdI vk) → (atI vk) → ((vm 34 0).toInt ≤ (vk 34 0).toInt) → (0 ≤ fz.toInt ∧ fz.toInt ≤ 2) → (fz.toInt = 0 → (0 ≤ (vk 45 (vm 43 0).toNatClampNeg).toInt ∧ (vk 45 (vm 43 0).toNatClampNeg).toInt ≤ 8) ∧ (0 ≤ (vk 46 (vm 43 0).toNatClampNeg).toInt ∧ (vk 46 (vm 43 0).toNatClampNeg).toInt ≤ 8)) → (moF (vm 43 0).toNatClampNeg vm vk) → ((vk 43 0).toInt = (vm 43 0).toInt + 1) → (fr lRd vm vk) → (∀ wa, MF (moonQ (vm 31) (vm 32 0).toInt S wa (vm 34 0).toInt) (vm 33 0).toInt fz.toInt (vk 33 0).toInt (fun z => (vk 34 0).toInt = z.2.2.1 ∧ SM (upS (upS (upS S 43 0 (S 43 0 + 1)) 45 (S 43 0).toNat z.1.2.1) 46 (S 43 0).toNat z.2.1) vk)) → (vk 31 = vm 31 ∧ vk 32 = vm 32 ∧ vk 47 = vm 47) → lv_has ls 4 [(0, .ref (am 0)), (1, .int (vm 43 0)), (2, .int r24)] → W p l e (headSpec wsX10_takeMoon rm_X10_takeMoon).room s m ([.ref (am 0)] : List Value).toArray below meth c H locs 0 0 Q (F0 m 48 ls [.int fz]) := by
    intro fz vk H locs ls hP hD hS h48_0 h48_1 h48_2 h48_3 h48_4 h48_5 h48_6 h48_7 h48_8 h48_9 hl
    have hx48_0 := h48_8
    clear h48_8
    have hx48_1 := h48_9
    clear h48_9
    have hMI := h48_0
    have hat := h48_1
    have hFz := h48_7
    refine lv_istore_n (lv' := [(2, .int fz), (0, .ref (am 0)), (1, .int (vm 43 0))]) hx hb dX10_takeMoon_48 rfl hl (by decide) rfl (fun ls hl => ?_)
    refine lv_iload_n hx hb dX10_takeMoon_49 rfl (lv_at hl 0 rfl) ?_
    refine lv_if_le (tgt := 55) hx hb dX10_takeMoon_50 (by decide) (fun c50 => ?_) (fun c50 => ?_)
    · have c50_ := i_le c50
      have hb45 := (h48_4 (by omega)).1
      have hb46 := (h48_4 (by omega)).2
      have hmo := h48_5
      have hQx := fun wa => (hx48_0 wa).get0 (((okF.chk (by decide)).th (fun _ => okF.num)).th (fun _ => okF.num)) (by omega)
      clear hx48_0
      have hC : scL lM2 vk vk := scL.rf
      have hDd : ∀ j, j ≠ (vm 43 0).toNatClampNeg → vk 44 j = vk 44 j := fun _ _ => rfl
      have hH : vk 31 = vm 31 ∧ vk 32 = vm 32 ∧ (vk 33 0).toInt = (vk 33 0).toInt := ⟨hx48_1.1, hx48_1.2.1, rfl⟩
      refine lv_aload_n hx hb dX10_takeMoon_55 rfl (lv_at hl 1 rfl) ?_
      refine va_get (D := eD E) (ci := 10) (v := .ref (am 44)) (C := RX10) (T := TX10) (N := 79) hx hb hts in_X10 hown hK hP 0 rfl rfl 44 (by decide) lk2 (fun _ h9 => h9) rfl dX10_takeMoon_56 ?_
      refine lv_iload_n hx hb dX10_takeMoon_59 rfl (lv_at hl 2 rfl) ?_
      refine lv_iconst (v := 0) hx hb dX10_takeMoon_60 (by decide) ?_
      refine va_iast hx hb hK hP hD hS 23 0 rfl rfl (n := 3) (f := (vk 44)) (i_in hj0 hj1) dX10_takeMoon_61 (fun H locs hP hD hS => ?_)
      replace hP : va_P (eD E) vwCl (mdL E am (up2 vk 44 ((vm 43 0).toNatClampNeg) 0)) H := hP
      replace hD : va_D A (mdL E am (up2 vk 44 ((vm 43 0).toNatClampNeg) 0)) := hD
      generalize hv61 : up2 vk 44 ((vm 43 0).toNatClampNeg) 0 = vm_61 at hP hD
      have hFz : fr lRd vm vm_61 := by first | exact hFz | (rw [← hv61]; exact hFz.up (by decide))
      have hMI : MdI vm_61 := by rw [← hv61]; exact hMI
      have hq61_43 : (vm_61 43 0).toInt = (vk 43 0).toInt := by rw [← hv61]; rfl
      have hq61_34 : (vm_61 34 0).toInt = (vk 34 0).toInt := by rw [← hv61]; rfl
      have hat : atI vm_61 := by rw [← hv61]; exact hat
      have hb45 : 0 ≤ (vm_61 45 (vm 43 0).toNatClampNeg).toInt ∧ (vm_61 45 (vm 43 0).toNatClampNeg).toInt ≤ 8 := (by rw [← hv61]; exact hb45)
      have hb46 : 0 ≤ (vm_61 46 (vm 43 0).toNatClampNeg).toInt ∧ (vm_61 46 (vm 43 0).toNatClampNeg).toInt ≤ 8 := (by rw [← hv61]; exact hb46)
      have hmo : moF (vm 43 0).toNatClampNeg vm vm_61 := (by rw [← hv61]; exact hmo.m44)
      have hn61 : vm_61 44 (vm 43 0).toNatClampNeg = 0 := by rw [← hv61]; exact upd_at
      have hn61t : (vm_61 44 (vm 43 0).toNatClampNeg).toInt = 0 := by rw [hn61]; decide
      have hC : scL lM2 vk vm_61 := by rw [← hv61]; exact hC.up (by decide)
      have hDd : ∀ j, j ≠ (vm 43 0).toNatClampNeg → vm_61 44 j = vk 44 j := fun j hj => by rw [← hv61]; exact updN hj
      have hH : vm_61 31 = vm 31 ∧ vm_61 32 = vm 32 ∧ (vm_61 33 0).toInt = (vk 33 0).toInt := by rw [← hv61]; exact hH
      have hF : ((1 : Int32).toInt = 1 ∧ rowF (vm 31) (vm 32 0).toInt (9 * (S 43 0).toNat) 9 0 (vk 34 0).toInt (S 47) = rowF (vm 31) (vm 32 0).toInt (9 * (S 43 0).toNat) (9 - (vm_61 44 (vm 43 0).toNatClampNeg).toInt.toNat) (vm_61 44 (vm 43 0).toNatClampNeg).toInt.toNat (vm_61 34 0).toInt (fI (vm_61 47))) ∨ ((1 : Int32).toInt = 0 ∧ rowF (vm 31) (vm 32 0).toInt (9 * (S 43 0).toNat) 9 0 (vk 34 0).toInt (S 47) = .inr ((vm_61 44 (vm 43 0).toNatClampNeg).toInt.toNat, (vm_61 34 0).toInt, fI (vm_61 47))) := Or.inl ⟨n_1, by rw [show 9 - (vm_61 44 (vm 43 0).toNatClampNeg).toInt.toNat = 9 by omega, show (vm_61 44 (vm 43 0).toNatClampNeg).toInt.toNat = 0 by omega, show (vm_61 34 0).toInt = (vk 34 0).toInt by omega, show fI (vm_61 47) = S 47 by rw [← hv61, ha47]; show fI (vk 47) = _; rw [hx48_1.2.2]]⟩
      refine lv_iconst (v := 1) hx hb dX10_takeMoon_62 (by decide) ?_
      refine lv_istore_n (lv' := [(3, .int 1), (2, .int fz), (0, .ref (am 0)), (1, .int (vm 43 0))]) hx hb dX10_takeMoon_63 rfl hl (by decide) rfl (fun ls hl => ?_)
      have K64 : ∀ (μ : Nat) (mr : Int32) (vn : Vf) (H : Heap) (locs : List Loc) (ls : Array Slot), (20 - (vn 44 (vm 43 0).toNatClampNeg).toInt).toNat < μ → va_P (eD E) vwCl (mdL E am vn) H → va_D A (mdL E am vn) → va_S A s.heap H locs → (MdI vn) → (atI vn) → ((vm 34 0).toInt ≤ (vn 34 0).toInt) → ((mr.toInt = 1 ∧ 0 ≤ (vn 44 (vm 43 0).toNatClampNeg).toInt ∧ (vn 44 (vm 43 0).toNatClampNeg).toInt ≤ 8) ∨ (mr.toInt = 0 ∧ 2 ≤ (vn 44 (vm 43 0).toNatClampNeg).toInt ∧ (vn 44 (vm 43 0).toNatClampNeg).toInt ≤ 9)) → (moF (vm 43 0).toNatClampNeg vm vn) → ((vn 43 0).toInt = (vm 43 0).toInt + 1) → (0 ≤ (vn 45 (vm 43 0).toNatClampNeg).toInt ∧ (vn 45 (vm 43 0).toNatClampNeg).toInt ≤ 8) → (0 ≤ (vn 46 (vm 43 0).toNatClampNeg).toInt ∧ (vn 46 (vm 43 0).toNatClampNeg).toInt ≤ 8) → (fr lRd vm vn) → (scL lM2 vk vn) → (∀ j, j ≠ (vm 43 0).toNatClampNeg → vn 44 j = vk 44 j) → (vn 31 = vm 31 ∧ vn 32 = vm 32 ∧ (vn 33 0).toInt = (vk 33 0).toInt) → ((mr.toInt = 1 ∧ rowF (vm 31) (vm 32 0).toInt (9 * (S 43 0).toNat) 9 0 (vk 34 0).toInt (S 47) = rowF (vm 31) (vm 32 0).toInt (9 * (S 43 0).toNat) (9 - (vn 44 (vm 43 0).toNatClampNeg).toInt.toNat) (vn 44 (vm 43 0).toNatClampNeg).toInt.toNat (vn 34 0).toInt (fI (vn 47))) ∨ (mr.toInt = 0 ∧ rowF (vm 31) (vm 32 0).toInt (9 * (S 43 0).toNat) 9 0 (vk 34 0).toInt (S 47) = .inr ((vn 44 (vm 43 0).toNatClampNeg).toInt.toNat, (vn 34 0).toInt, fI (vn 47)))) → lv_has ls 4 [(0, .ref (am 0)), (1, .int (vm 43 0)), (3, .int mr)] → W p l e (headSpec wsX10_takeMoon rm_X10_takeMoon).room s m ([.ref (am 0)] : List Value).toArray below meth c H locs 0 0 Q (F0 m 64 ls []) := by
        intro μ
        induction μ with
        | zero =>
          intro mr vn H locs ls hμ64
          exact absurd hμ64 (Nat.not_lt_zero _)
        | succ μ ih64 =>
          intro mr vn H locs ls hμ64 hP hD hS h64_0 h64_1 h64_2 h64_3 h64_4 h64_5 h64_6 h64_7 h64_8 h64_9 h64_10 h64_11 h64_12 hl
          have hx64_0 := h64_9
          clear h64_9
          have hx64_1 := h64_10
          clear h64_10
          have hx64_2 := h64_11
          clear h64_11
          have hx64_3 := h64_12
          clear h64_12
          have hMI := h64_0
          have hat := h64_1
          have hmo := h64_4
          have hb45 := h64_6
          have hb46 := h64_7
          have hFz := h64_8
          have hC := hx64_0
          have hDd := hx64_1
          have hH := hx64_2
          refine lv_iload_n hx hb dX10_takeMoon_64 rfl (lv_at hl 2 rfl) ?_
          have K115 : ∀  (vq : Vf) (H : Heap) (locs : List Loc) (ls : Array Slot), va_P (eD E) vwCl (mdL E am vq) H → va_D A (mdL E am vq) → va_S A s.heap H locs → (MdI vq) → (atI vq) → ((vm 34 0).toInt ≤ (vq 34 0).toInt) → (moF (vm 43 0).toNatClampNeg vm vq) → ((vq 43 0).toInt = (vm 43 0).toInt + 1) → (0 ≤ (vq 45 (vm 43 0).toNatClampNeg).toInt ∧ (vq 45 (vm 43 0).toNatClampNeg).toInt ≤ 8) → (0 ≤ (vq 46 (vm 43 0).toNatClampNeg).toInt ∧ (vq 46 (vm 43 0).toNatClampNeg).toInt ≤ 8) → ((vq 44 (vm 43 0).toNatClampNeg).toInt = (vn 44 (vm 43 0).toNatClampNeg).toInt + 1 ∧ (vn 44 (vm 43 0).toNatClampNeg).toInt ≤ 8) → (fr lRd vm vq) → (scL lM2 vk vq) → (∀ j, j ≠ (vm 43 0).toNatClampNeg → vq 44 j = vk 44 j) → (vq 31 = vm 31 ∧ vq 32 = vm 32 ∧ (vq 33 0).toInt = (vk 33 0).toInt) → (∃ V q0 : Int, numF (vm 31) (vm 32 0).toInt 0 18 (vn 34 0).toInt = .inr (V, (vq 34 0).toInt, q0) ∧ fI (vq 47) = upI (fI (vn 47)) ((9 * (S 43 0).toNat) + (vn 44 (vm 43 0).toNatClampNeg).toInt.toNat) (V - 9)) → (rowF (vm 31) (vm 32 0).toInt (9 * (S 43 0).toNat) 9 0 (vk 34 0).toInt (S 47) = rowF (vm 31) (vm 32 0).toInt (9 * (S 43 0).toNat) (9 - (vn 44 (vm 43 0).toNatClampNeg).toInt.toNat) (vn 44 (vm 43 0).toNatClampNeg).toInt.toNat (vn 34 0).toInt (fI (vn 47))) → lv_has ls 4 [(0, .ref (am 0)), (1, .int (vm 43 0))] → W p l e (headSpec wsX10_takeMoon rm_X10_takeMoon).room s m ([.ref (am 0)] : List Value).toArray below meth c H locs 0 0 Q (F0 m 115 ls []) := by
            intro vq H locs ls hP hD hS h115_0 h115_1 h115_2 h115_3 h115_4 h115_5 h115_6 h115_7 h115_8 h115_9 h115_10 h115_11 h115_12 h115_13 hl
            have hx115_0 := h115_9
            clear h115_9
            have hx115_1 := h115_10
            clear h115_10
            have hx115_2 := h115_11
            clear h115_11
            have hx115_3 := h115_12
            clear h115_12
            have hx115_4 := h115_13
            clear h115_13
            have hMI := h115_0
            have hat := h115_1
            have hmo := h115_3
            have hb45 := h115_5
            have hb46 := h115_6
            have hFz := h115_8
            have hC := hx115_0
            have hDd := hx115_1
            have hH := hx115_2
            have hFn := hx115_4
            refine lv_aload_n hx hb dX10_takeMoon_115 rfl (lv_at hl 0 rfl) ?_
            refine mt_Vi (w1 := fun (u : Vf) => mdL E am u) (wf := fun (u : Vf) => mdL E am u) (wr := []) (As := []) (rest := []) (C := RX10) (ci := 10) ⟨hx, hb, hml, hown, hts⟩ (c_X10_here l E H.size am vq hMI hat) (cwV 0 hts gX10_takeMoon_X10_here rfl rfl rfl (by decide +kernel) ⟨Nat.le_of_ble_eq_true rfl, Nat.le_of_ble_eq_true rfl⟩) hE hS hA hP hD [0, 1, 2, 3, 4, 5, 6, 7, 8, 9, 10, 11, 12, 13, 14, 15, 16, 17, 18, 19, 20, 21, 22, 23, 24, 25, 26, 27, 28, 29, 30, 31, 32, 33, 34, 35, 36, 37, 38, 39, 40, 41, 42, 43, 44, 45] [] rfl rfl (by decide) (by decide) (by decide) [0, 1, 2, 3, 4, 5, 6, 7, 8, 9, 10, 11, 12, 13, 14, 15, 16, 17, 18, 19, 20, 21, 22, 23, 24, 25, 26, 27, 28, 29, 30, 31, 32, 33, 34, 35, 36, 37, 38, 39, 40, 41, 42, 43, 44, 45] (by decide) (fun u => rfl) rfl rfl rfl rfl hl.1 rfl (Nat.le_of_ble_eq_true rfl) dX10_takeMoon_116 ⟨Nat.zero_le _, Nat.zero_le _⟩ (fun r116 u116 H locs h116 hP hD hS => ?_)
            generalize u116 = o116_vm at hP hD h116
            try dsimp only at h116
            have hf116 := h116.2
            replace h116 := h116.1
            have hFn116 := h116.2
            replace h116 := h116.1
            replace hP : va_P (eD E) vwCl (mdL E am o116_vm) H := hP
            replace hD : va_D A (mdL E am o116_vm) := hD
            have hFz : fr lRd vm o116_vm := by first | exact hFz | exact hFz.tr hFn116 (by decide) | (rw [← hv116]; repeat' (first | exact hFz | refine fr.up ?_ (by decide) | refine fr.up3 ?_ (by decide)))
            have hMI : MdI o116_vm := hMI.sn h116.1
            have hat := h116.2.1
            obtain ⟨hat1, hat2⟩ := id hat
            have hmo : moF (vm 43 0).toNatClampNeg vm o116_vm := hmo.sn h116.1
            have hq116_43 : (o116_vm 43 0).toInt = (vq 43 0).toInt := by rw [h116.1 43 (by decide) (by decide) (by decide) (by decide)]
            have hn116 : (o116_vm 44 (vm 43 0).toNatClampNeg).toInt = (vq 44 (vm 43 0).toNatClampNeg).toInt := by rw [h116.1 44 (by decide) (by decide) (by decide) (by decide)]
            have hT116 := hMI.1.2.2.2.2.2.2.1
            have hq116_32 : (o116_vm 32 0).toInt = (vq 32 0).toInt := by rw [h116.1 32 (by decide) (by decide) (by decide) (by decide)]
            have hb45 : 0 ≤ (o116_vm 45 (vm 43 0).toNatClampNeg).toInt ∧ (o116_vm 45 (vm 43 0).toNatClampNeg).toInt ≤ 8 := (by rw [h116.1 45 (by decide) (by decide) (by decide) (by decide)]; exact hb45)
            have hb46 : 0 ≤ (o116_vm 46 (vm 43 0).toNatClampNeg).toInt ∧ (o116_vm 46 (vm 43 0).toNatClampNeg).toInt ≤ 8 := (by rw [h116.1 46 (by decide) (by decide) (by decide) (by decide)]; exact hb46)
            have hp116 := hf116.1
            rw [hH.1, hH.2.1] at hp116
            have hg116 := hf116.2.2
            rw [hH.1, hH.2.1] at hg116
            have hC : scL lM2 vk o116_vm := hC.sn h116.1 (by decide)
            have hDd : ∀ j, j ≠ (vm 43 0).toNatClampNeg → o116_vm 44 j = vk 44 j := fun j hj => by rw [h116.1 44 (by decide) (by decide) (by decide) (by decide)]; exact hDd j hj
            have hH : o116_vm 31 = vm 31 ∧ o116_vm 32 = vm 32 ∧ (o116_vm 33 0).toInt = (vk 33 0).toInt := ⟨(h116.1 31 (by decide) (by decide) (by decide) (by decide)).trans hH.1, (h116.1 32 (by decide) (by decide) (by decide) (by decide)).trans hH.2.1, (by rw [hf116.2.1.1]; exact hH.2.2)⟩
            refine lv_bipush (v := 44) hx hb dX10_takeMoon_119 (by decide) ?_
            refine lv_icmp_ne (tgt := 128) hx hb dX10_takeMoon_121 (by decide) (fun c121 => ?_) (fun c121 => ?_)
            · have c121_ := i_ne c121
              refine lv_iconst (v := 0) hx hb dX10_takeMoon_128 (by decide) ?_
              refine lv_istore_n (lv' := [(3, .int 0), (0, .ref (am 0)), (1, .int (vm 43 0))]) hx hb dX10_takeMoon_129 rfl hl (by decide) rfl (fun ls hl => ?_)
              refine lv_iload_n hx hb dX10_takeMoon_130 rfl (lv_at hl 0 rfl) ?_
              refine lv_if_eq (tgt := 148) hx hb dX10_takeMoon_131 (by decide) (fun _ => ?_) (fun q => absurd q (by decide))
              refine lv_aload_n hx hb dX10_takeMoon_148 rfl (lv_at hl 1 rfl) ?_
              refine va_get (D := eD E) (ci := 10) (v := .ref (am 44)) (C := RX10) (T := TX10) (N := 79) hx hb hts in_X10 hown hK hP 0 rfl rfl 44 (by decide) lk2 (fun _ h9 => h9) rfl dX10_takeMoon_149 ?_
              refine lv_iload_n hx hb dX10_takeMoon_152 rfl (lv_at hl 2 rfl) ?_
              refine va_iald hx hb hK hP 23 0 rfl rfl (n := 3) (f := (o116_vm 44)) (i_in hj0 hj1) dX10_takeMoon_153 ?_
              refine lv_topi (fun x153 e153 => ?_)
              have t153 : x153.toInt = (vq 44 (vm 43 0).toNatClampNeg).toInt := by rw [e153]; exact hn116
              refine lv_iconst (v := 2) hx hb dX10_takeMoon_154 (by decide) ?_
              refine lv_icmp_ge (tgt := 168) hx hb dX10_takeMoon_155 (by decide) (fun c155 => ?_) (fun c155 => ?_)
              · have c155_ := i_le c155
                refine lv_aload_n hx hb dX10_takeMoon_168 rfl (lv_at hl 1 rfl) ?_
                refine lv_dup hx hb dX10_takeMoon_169 rfl ?_
                refine va_get (D := eD E) (ci := 10) (v := .int (o116_vm 34 0)) (C := RX10) (T := TX10) (N := 79) hx hb hts in_X10 hown hK hP 0 rfl rfl 34 (by decide) lk3 (fun _ h9 => h9) rfl dX10_takeMoon_170 ?_
                refine lv_iload_n hx hb dX10_takeMoon_173 rfl (lv_at hl 0 rfl) ?_
                refine lv_if_eq (tgt := 181) hx hb dX10_takeMoon_174 (by decide) (fun _ => ?_) (fun q => absurd q (by decide))
                refine lv_iconst (v := 0) hx hb dX10_takeMoon_181 (by decide) ?_
                refine lv_iadd hx hb dX10_takeMoon_182 ?_
                refine lv_topi (fun x182 e182 => ?_)
                have t182 := i_add e182 (by omega)
                refine va_put (D := eD E) (ci := 10) (v := .int x182) (ty := .int) (C := RX10) (T := TX10) (N := 79) hx hb hts in_X10 tyX10 tyX10_ok nmX10 hown hK hP hD hS 0 rfl rfl 34 (by decide) lk3 (fun _ h9 => h9) rfl (by decide +kernel) rfl rfl (Nat.le_of_ble_eq_true rfl) dX10_takeMoon_183 (fun H locs hP hD hS => ?_)
                replace hP : va_P (eD E) vwCl (mdL E am (up2 o116_vm 34 0 x182)) H := hP
                replace hD : va_D A (mdL E am (up2 o116_vm 34 0 x182)) := hD
                generalize hv183 : up2 o116_vm 34 0 x182 = vm_183 at hP hD
                have hFz : fr lRd vm vm_183 := by first | exact hFz | (rw [← hv183]; exact hFz.up (by decide))
                have hMI : MdI vm_183 := by rw [← hv183]; exact hMI
                have hq183_43 : (vm_183 43 0).toInt = (o116_vm 43 0).toInt := by rw [← hv183]; rfl
                have hq183_34 : (vm_183 34 0).toInt = x182.toInt := by rw [← hv183]; rfl
                have hn183 : (vm_183 44 (vm 43 0).toNatClampNeg).toInt = (vq 44 (vm 43 0).toNatClampNeg).toInt := by rw [← hv183]; exact hn116
                have hat : atI vm_183 := by rw [← hv183]; exact (show 0 ≤ x182.toInt ∧ x182.toInt ≤ (o116_vm 32 0).toInt by omega)
                have hmo : moF (vm 43 0).toNatClampNeg vm vm_183 := (by rw [← hv183]; exact hmo.up (by omega))
                have hb45 : 0 ≤ (vm_183 45 (vm 43 0).toNatClampNeg).toInt ∧ (vm_183 45 (vm 43 0).toNatClampNeg).toInt ≤ 8 := (by rw [← hv183]; exact hb45)
                have hb46 : 0 ≤ (vm_183 46 (vm 43 0).toNatClampNeg).toInt ∧ (vm_183 46 (vm 43 0).toNatClampNeg).toInt ≤ 8 := (by rw [← hv183]; exact hb46)
                have hC : scL lM2 vk vm_183 := by rw [← hv183]; exact hC.up (by decide)
                have hDd : ∀ j, j ≠ (vm 43 0).toNatClampNeg → vm_183 44 j = vk 44 j := by rw [← hv183]; exact hDd
                have hH : vm_183 31 = vm 31 ∧ vm_183 32 = vm 32 ∧ (vm_183 33 0).toInt = (vk 33 0).toInt := by rw [← hv183]; exact hH
                have h47x : vm_183 47 = vq 47 := by rw [← hv183]; exact h116.1 47 (by decide) (by decide) (by decide) (by decide)
                have hF : ((0 : Int32).toInt = 1 ∧ rowF (vm 31) (vm 32 0).toInt (9 * (S 43 0).toNat) 9 0 (vk 34 0).toInt (S 47) = rowF (vm 31) (vm 32 0).toInt (9 * (S 43 0).toNat) (9 - (vm_183 44 (vm 43 0).toNatClampNeg).toInt.toNat) (vm_183 44 (vm 43 0).toNatClampNeg).toInt.toNat (vm_183 34 0).toInt (fI (vm_183 47))) ∨ ((0 : Int32).toInt = 0 ∧ rowF (vm 31) (vm 32 0).toInt (9 * (S 43 0).toNat) 9 0 (vk 34 0).toInt (S 47) = .inr ((vm_183 44 (vm 43 0).toNatClampNeg).toInt.toNat, (vm_183 34 0).toInt, fI (vm_183 47))) := Or.inr ⟨n_0, by rw [h47x]; exact mo_end hFn (by omega) hx115_3 hp116 (by omega) (by omega) (by omega) (by omega)⟩
                refine lv_goto (tgt := 64) hx hb dX10_takeMoon_186 (by decide) ?_
                exact ih64 0 vm_183 _ _ ls (by omega) hP hD hS hMI hat (by omega) (Or.inr ⟨by decide, by omega⟩) hmo (by omega) hb45 hb46 hFz hC hDd hH hF (lv_sub hl [1, 2, 0] rfl)
              · have c155_ := i_nle c155
                have hTK : ∀ wa, moonF (vm 31) (vm 32 0).toInt S wa (vm 34 0).toInt = .inl (1, (o116_vm 34 0).toInt) := fun wa => by obtain ⟨x, q1, q2⟩ := (hQx wa).2; exact moon_no q1 (by rw [← q2.1]; exact mo_one hFn (by omega) hx115_3 hp116 (by omega) (by omega))
                refine lv_aload_n hx hb dX10_takeMoon_158 rfl (lv_at hl 1 rfl) ?_
                refine lv_iconst (v := 1) hx hb dX10_takeMoon_159 (by decide) ?_
                refine lv_aload_n hx hb dX10_takeMoon_160 rfl (lv_at hl 1 rfl) ?_
                refine va_get (D := eD E) (ci := 10) (v := .int (o116_vm 34 0)) (C := RX10) (T := TX10) (N := 79) hx hb hts in_X10 hown hK hP 0 rfl rfl 34 (by decide) lk3 (fun _ h9 => h9) rfl dX10_takeMoon_161 ?_
                refine mt_Vi (w1 := fun (u : Vf) => mdL E am u) (wf := fun (u : Vf) => mdL E am u) (wr := []) (As := [.int 1, .int (o116_vm 34 0)]) (rest := []) (C := RX10) (ci := 10) ⟨hx, hb, hml, hown, hts⟩ (c_X10_fails l E H.size am o116_vm 1 (o116_vm 34 0)) (cwV 2 hts gX10_takeMoon_X10_fails rfl rfl rfl (by decide +kernel) ⟨Nat.le_of_ble_eq_true rfl, Nat.le_of_ble_eq_true rfl⟩) hE hS hA hP hD [0, 1, 2, 3, 4, 5, 6, 7, 8, 9, 10, 11, 12, 13, 14, 15, 16, 17, 18, 19, 20, 21, 22, 23, 24, 25, 26, 27, 28, 29, 30, 31, 32, 33, 34, 35, 36, 37, 38, 39, 40, 41, 42, 43, 44, 45] [] rfl rfl (by decide) (by decide) (by decide) [0, 1, 2, 3, 4, 5, 6, 7, 8, 9, 10, 11, 12, 13, 14, 15, 16, 17, 18, 19, 20, 21, 22, 23, 24, 25, 26, 27, 28, 29, 30, 31, 32, 33, 34, 35, 36, 37, 38, 39, 40, 41, 42, 43, 44, 45] (by decide) (fun u => rfl) rfl rfl rfl rfl hl.1 rfl (Nat.le_of_ble_eq_true rfl) dX10_takeMoon_164 ⟨Nat.zero_le _, Nat.zero_le _⟩ (fun r164 u164 H locs h164 hP hD hS => ?_)
                generalize u164 = o164_vm at hP hD h164
                try dsimp only at h164
                have hf164 := h164.2
                replace h164 := h164.1
                have hFn164 := h164.2
                replace h164 := h164.1
                replace hP : va_P (eD E) vwCl (mdL E am o164_vm) H := hP
                replace hD : va_D A (mdL E am o164_vm) := hD
                have hFz : fr lRd vm o164_vm := by first | exact hFz | exact hFz.tr hFn164 (by decide) | (rw [← hv164]; repeat' (first | exact hFz | refine fr.up ?_ (by decide) | refine fr.up3 ?_ (by decide)))
                have hr164 : r164.toInt = 1 := by rw [h164.1]; decide
                have hq164 : (o164_vm 34 0).toInt = (o116_vm 34 0).toInt := by rw [h164.2.2]
                have hw164 : (o164_vm 33 0).toInt = (o116_vm 34 0).toInt := by rw [hf164]; rfl
                subst hQ
                exact W.iret (v := r164) hx hb hr (fun t ht hW => ⟨⟨r164, (o164_vm), rfl, (show ((MdI o164_vm ∧ atI o164_vm ∧ (vm 34 0).toInt ≤ (o164_vm 34 0).toInt ∧ (0 ≤ r164.toInt ∧ r164.toInt ≤ 4) ∧ (r164.toInt = 0 → RdM o164_vm)) ∧ fr lRd vm o164_vm) ∧ (∀ wa, TK (moonP (vm 31) (vm 32 0).toInt S wa (vm 34 0).toInt) (moonF (vm 31) (vm 32 0).toInt S wa (vm 34 0).toInt) (vm 33 0).toInt r164.toInt (o164_vm 33 0).toInt (fun x => (o164_vm 34 0).toInt = x.2.2.1 ∧ SM (moonS S x.1.1.2.1 x.1.2.1 x.2) o164_vm)) from ⟨⟨⟨hMI.sn h164.2.1, hat.of h164.2.2 (h164.2.1 32 (by decide) (by decide) (by decide) (by decide)), by omega, by omega, fun q => absurd q (by omega)⟩, hFz⟩, (fun wa => Or.inl ⟨1, (o116_vm 34 0).toInt, hTK wa, hr164, hw164⟩)⟩), by rw [ht]; exact hP, hD⟩, hS.F ht⟩) hS.2.2 dX10_takeMoon_167
            · have c121_ := i_eq c121
              refine lv_iconst (v := 1) hx hb dX10_takeMoon_124 (by decide) ?_
              refine lv_goto (tgt := 129) hx hb dX10_takeMoon_125 (by decide) ?_
              refine lv_istore_n (lv' := [(3, .int 1), (0, .ref (am 0)), (1, .int (vm 43 0))]) hx hb dX10_takeMoon_129 rfl hl (by decide) rfl (fun ls hl => ?_)
              refine lv_iload_n hx hb dX10_takeMoon_130 rfl (lv_at hl 0 rfl) ?_
              refine lv_if_eq (tgt := 148) hx hb dX10_takeMoon_131 (by decide) (fun q => absurd q (by decide)) (fun _ => ?_)
              refine lv_aload_n hx hb dX10_takeMoon_134 rfl (lv_at hl 1 rfl) ?_
              refine va_get (D := eD E) (ci := 10) (v := .ref (am 44)) (C := RX10) (T := TX10) (N := 79) hx hb hts in_X10 hown hK hP 0 rfl rfl 44 (by decide) lk2 (fun _ h9 => h9) rfl dX10_takeMoon_135 ?_
              refine lv_iload_n hx hb dX10_takeMoon_138 rfl (lv_at hl 2 rfl) ?_
              refine va_iald hx hb hK hP 23 0 rfl rfl (n := 3) (f := (o116_vm 44)) (i_in hj0 hj1) dX10_takeMoon_139 ?_
              refine lv_topi (fun x139 e139 => ?_)
              have t139 : x139.toInt = (vq 44 (vm 43 0).toNatClampNeg).toInt := by rw [e139]; exact hn116
              refine lv_bipush (v := 9) hx hb dX10_takeMoon_140 (by decide) ?_
              refine lv_icmp_ne (tgt := 168) hx hb dX10_takeMoon_142 (by decide) (fun c142 => ?_) (fun c142 => ?_)
              · have c142_ := i_ne c142
                refine lv_aload_n hx hb dX10_takeMoon_168 rfl (lv_at hl 1 rfl) ?_
                refine lv_dup hx hb dX10_takeMoon_169 rfl ?_
                refine va_get (D := eD E) (ci := 10) (v := .int (o116_vm 34 0)) (C := RX10) (T := TX10) (N := 79) hx hb hts in_X10 hown hK hP 0 rfl rfl 34 (by decide) lk3 (fun _ h9 => h9) rfl dX10_takeMoon_170 ?_
                refine lv_iload_n hx hb dX10_takeMoon_173 rfl (lv_at hl 0 rfl) ?_
                refine lv_if_eq (tgt := 181) hx hb dX10_takeMoon_174 (by decide) (fun q => absurd q (by decide)) (fun _ => ?_)
                refine lv_iconst (v := 1) hx hb dX10_takeMoon_177 (by decide) ?_
                refine lv_goto (tgt := 182) hx hb dX10_takeMoon_178 (by decide) ?_
                refine lv_iadd hx hb dX10_takeMoon_182 ?_
                refine lv_topi (fun x182 e182 => ?_)
                have t182 := i_add e182 (by omega)
                refine va_put (D := eD E) (ci := 10) (v := .int x182) (ty := .int) (C := RX10) (T := TX10) (N := 79) hx hb hts in_X10 tyX10 tyX10_ok nmX10 hown hK hP hD hS 0 rfl rfl 34 (by decide) lk3 (fun _ h9 => h9) rfl (by decide +kernel) rfl rfl (Nat.le_of_ble_eq_true rfl) dX10_takeMoon_183 (fun H locs hP hD hS => ?_)
                replace hP : va_P (eD E) vwCl (mdL E am (up2 o116_vm 34 0 x182)) H := hP
                replace hD : va_D A (mdL E am (up2 o116_vm 34 0 x182)) := hD
                generalize hv183 : up2 o116_vm 34 0 x182 = vm_183 at hP hD
                have hFz : fr lRd vm vm_183 := by first | exact hFz | (rw [← hv183]; exact hFz.up (by decide))
                have hMI : MdI vm_183 := by rw [← hv183]; exact hMI
                have hq183_43 : (vm_183 43 0).toInt = (o116_vm 43 0).toInt := by rw [← hv183]; rfl
                have hq183_34 : (vm_183 34 0).toInt = x182.toInt := by rw [← hv183]; rfl
                have hn183 : (vm_183 44 (vm 43 0).toNatClampNeg).toInt = (vq 44 (vm 43 0).toNatClampNeg).toInt := by rw [← hv183]; exact hn116
                have hat : atI vm_183 := by rw [← hv183]; exact (show 0 ≤ x182.toInt ∧ x182.toInt ≤ (o116_vm 32 0).toInt by omega)
                have hmo : moF (vm 43 0).toNatClampNeg vm vm_183 := (by rw [← hv183]; exact hmo.up (by omega))
                have hb45 : 0 ≤ (vm_183 45 (vm 43 0).toNatClampNeg).toInt ∧ (vm_183 45 (vm 43 0).toNatClampNeg).toInt ≤ 8 := (by rw [← hv183]; exact hb45)
                have hb46 : 0 ≤ (vm_183 46 (vm 43 0).toNatClampNeg).toInt ∧ (vm_183 46 (vm 43 0).toNatClampNeg).toInt ≤ 8 := (by rw [← hv183]; exact hb46)
                have hC : scL lM2 vk vm_183 := by rw [← hv183]; exact hC.up (by decide)
                have hDd : ∀ j, j ≠ (vm 43 0).toNatClampNeg → vm_183 44 j = vk 44 j := by rw [← hv183]; exact hDd
                have hH : vm_183 31 = vm 31 ∧ vm_183 32 = vm 32 ∧ (vm_183 33 0).toInt = (vk 33 0).toInt := by rw [← hv183]; exact hH
                have h47x : vm_183 47 = vq 47 := by rw [← hv183]; exact h116.1 47 (by decide) (by decide) (by decide) (by decide)
                have hF : ((1 : Int32).toInt = 1 ∧ rowF (vm 31) (vm 32 0).toInt (9 * (S 43 0).toNat) 9 0 (vk 34 0).toInt (S 47) = rowF (vm 31) (vm 32 0).toInt (9 * (S 43 0).toNat) (9 - (vm_183 44 (vm 43 0).toNatClampNeg).toInt.toNat) (vm_183 44 (vm 43 0).toNatClampNeg).toInt.toNat (vm_183 34 0).toInt (fI (vm_183 47))) ∨ ((1 : Int32).toInt = 0 ∧ rowF (vm 31) (vm 32 0).toInt (9 * (S 43 0).toNat) 9 0 (vk 34 0).toInt (S 47) = .inr ((vm_183 44 (vm 43 0).toNatClampNeg).toInt.toNat, (vm_183 34 0).toInt, fI (vm_183 47))) := Or.inl ⟨n_1, by rw [h47x]; exact mo_on hFn (by omega) hx115_3 hp116 (by omega) (by omega) (by omega) (by omega)⟩
                refine lv_goto (tgt := 64) hx hb dX10_takeMoon_186 (by decide) ?_
                exact ih64 1 vm_183 _ _ ls (by omega) hP hD hS hMI hat (by omega) (Or.inl ⟨by decide, by omega⟩) hmo (by omega) hb45 hb46 hFz hC hDd hH hF (lv_sub hl [1, 2, 0] rfl)
              · have c142_ := i_eq c142
                have hTK : ∀ wa, moonF (vm 31) (vm 32 0).toInt S wa (vm 34 0).toInt = .inl (1, (o116_vm 34 0).toInt) := fun wa => by obtain ⟨x, q1, q2⟩ := (hQx wa).2; exact moon_10 (i := 9) (s := fI (vq 47)) q1 (by rw [← q2.1]; exact mo_end hFn (by omega) hx115_3 hp116 (by omega) (by omega) (by omega) rfl) (by rw [hp116]; exact skp_skp.symm) (by omega)
                refine lv_goto (tgt := 158) hx hb dX10_takeMoon_145 (by decide) ?_
                refine lv_aload_n hx hb dX10_takeMoon_158 rfl (lv_at hl 1 rfl) ?_
                refine lv_iconst (v := 1) hx hb dX10_takeMoon_159 (by decide) ?_
                refine lv_aload_n hx hb dX10_takeMoon_160 rfl (lv_at hl 1 rfl) ?_
                refine va_get (D := eD E) (ci := 10) (v := .int (o116_vm 34 0)) (C := RX10) (T := TX10) (N := 79) hx hb hts in_X10 hown hK hP 0 rfl rfl 34 (by decide) lk3 (fun _ h9 => h9) rfl dX10_takeMoon_161 ?_
                refine mt_Vi (w1 := fun (u : Vf) => mdL E am u) (wf := fun (u : Vf) => mdL E am u) (wr := []) (As := [.int 1, .int (o116_vm 34 0)]) (rest := []) (C := RX10) (ci := 10) ⟨hx, hb, hml, hown, hts⟩ (c_X10_fails l E H.size am o116_vm 1 (o116_vm 34 0)) (cwV 2 hts gX10_takeMoon_X10_fails rfl rfl rfl (by decide +kernel) ⟨Nat.le_of_ble_eq_true rfl, Nat.le_of_ble_eq_true rfl⟩) hE hS hA hP hD [0, 1, 2, 3, 4, 5, 6, 7, 8, 9, 10, 11, 12, 13, 14, 15, 16, 17, 18, 19, 20, 21, 22, 23, 24, 25, 26, 27, 28, 29, 30, 31, 32, 33, 34, 35, 36, 37, 38, 39, 40, 41, 42, 43, 44, 45] [] rfl rfl (by decide) (by decide) (by decide) [0, 1, 2, 3, 4, 5, 6, 7, 8, 9, 10, 11, 12, 13, 14, 15, 16, 17, 18, 19, 20, 21, 22, 23, 24, 25, 26, 27, 28, 29, 30, 31, 32, 33, 34, 35, 36, 37, 38, 39, 40, 41, 42, 43, 44, 45] (by decide) (fun u => rfl) rfl rfl rfl rfl hl.1 rfl (Nat.le_of_ble_eq_true rfl) dX10_takeMoon_164 ⟨Nat.zero_le _, Nat.zero_le _⟩ (fun r164 u164 H locs h164 hP hD hS => ?_)
                generalize u164 = o164_vm at hP hD h164
                try dsimp only at h164
                have hf164 := h164.2
                replace h164 := h164.1
                have hFn164 := h164.2
                replace h164 := h164.1
                replace hP : va_P (eD E) vwCl (mdL E am o164_vm) H := hP
                replace hD : va_D A (mdL E am o164_vm) := hD
                have hFz : fr lRd vm o164_vm := by first | exact hFz | exact hFz.tr hFn164 (by decide) | (rw [← hv164]; repeat' (first | exact hFz | refine fr.up ?_ (by decide) | refine fr.up3 ?_ (by decide)))
                have hr164 : r164.toInt = 1 := by rw [h164.1]; decide
                have hq164 : (o164_vm 34 0).toInt = (o116_vm 34 0).toInt := by rw [h164.2.2]
                have hw164 : (o164_vm 33 0).toInt = (o116_vm 34 0).toInt := by rw [hf164]; rfl
                subst hQ
                exact W.iret (v := r164) hx hb hr (fun t ht hW => ⟨⟨r164, (o164_vm), rfl, (show ((MdI o164_vm ∧ atI o164_vm ∧ (vm 34 0).toInt ≤ (o164_vm 34 0).toInt ∧ (0 ≤ r164.toInt ∧ r164.toInt ≤ 4) ∧ (r164.toInt = 0 → RdM o164_vm)) ∧ fr lRd vm o164_vm) ∧ (∀ wa, TK (moonP (vm 31) (vm 32 0).toInt S wa (vm 34 0).toInt) (moonF (vm 31) (vm 32 0).toInt S wa (vm 34 0).toInt) (vm 33 0).toInt r164.toInt (o164_vm 33 0).toInt (fun x => (o164_vm 34 0).toInt = x.2.2.1 ∧ SM (moonS S x.1.1.2.1 x.1.2.1 x.2) o164_vm)) from ⟨⟨⟨hMI.sn h164.2.1, hat.of h164.2.2 (h164.2.1 32 (by decide) (by decide) (by decide) (by decide)), by omega, by omega, fun q => absurd q (by omega)⟩, hFz⟩, (fun wa => Or.inl ⟨1, (o116_vm 34 0).toInt, hTK wa, hr164, hw164⟩)⟩), by rw [ht]; exact hP, hD⟩, hS.F ht⟩) hS.2.2 dX10_takeMoon_167
          refine lv_if_eq (tgt := 189) hx hb dX10_takeMoon_65 (by decide) (fun c65 => ?_) (fun c65 => ?_)
          · have c65_ := i_eq c65
            refine lv_iconst (v := 0) hx hb dX10_takeMoon_189 (by decide) ?_
            subst hQ
            exact W.iret (v := 0) hx hb hr (fun t ht hW => ⟨⟨0, (vn), rfl, (show ((MdI vn ∧ atI vn ∧ (vm 34 0).toInt ≤ (vn 34 0).toInt ∧ (0 ≤ (0 : Int32).toInt ∧ (0 : Int32).toInt ≤ 4) ∧ ((0 : Int32).toInt = 0 → RdM vn)) ∧ fr lRd vm vn) ∧ (∀ wa, TK (moonP (vm 31) (vm 32 0).toInt S wa (vm 34 0).toInt) (moonF (vm 31) (vm 32 0).toInt S wa (vm 34 0).toInt) (vm 33 0).toInt (0 : Int32).toInt (vn 33 0).toInt (fun x => (vn 34 0).toInt = x.2.2.1 ∧ SM (moonS S x.1.1.2.1 x.1.2.1 x.2) vn)) from ⟨⟨⟨hMI, hat, by omega, by omega, fun _ => rd_moon hRd hmo ⟨by omega, by omega⟩ (by omega) (by omega) (by omega) hb45 hb46⟩, hFz⟩, (fun wa => by obtain ⟨x, q1, q2⟩ := (hQx wa).2; have hFe := (hx64_3.resolve_left (fun q => absurd q.1 (by omega))).2; rw [q2.1] at hFe; exact Or.inr ⟨_, moon_ok q1 hFe, n_0, (by rw [hx64_2.2.2]; exact (hQx wa).1), rfl, sm_moon (m := (vm 43 0).toNatClampNeg) (by rw [hmk]; exact q2.2) hmk hx64_0 hx64_1 (by omega)⟩)⟩), by rw [ht]; exact hP, hD⟩, hS.F ht⟩) hS.2.2 dX10_takeMoon_190
          · have c65_ := i_ne c65
            have hFn : rowF (vm 31) (vm 32 0).toInt (9 * (S 43 0).toNat) 9 0 (vk 34 0).toInt (S 47) = rowF (vm 31) (vm 32 0).toInt (9 * (S 43 0).toNat) (9 - (vn 44 (vm 43 0).toNatClampNeg).toInt.toNat) (vn 44 (vm 43 0).toNatClampNeg).toInt.toNat (vn 34 0).toInt (fI (vn 47)) := (hx64_3.resolve_right (fun q => absurd q.1 (by omega))).2
            clear hx64_3
            refine lv_aload_n hx hb dX10_takeMoon_68 rfl (lv_at hl 0 rfl) ?_
            refine lv_iconst (v := 0) hx hb dX10_takeMoon_69 (by decide) ?_
            refine lv_bipush (v := 18) hx hb dX10_takeMoon_70 (by decide) ?_
            refine mt_Vi (w1 := fun (u : Vf) => mdL E am u) (wf := fun (u : Vf) => mdL E am u) (wr := []) (As := [.int 0, .int 18]) (rest := []) (C := RX10) (ci := 10) ⟨hx, hb, hml, hown, hts⟩ (c_X10_takeNumber l E H.size am vn 0 18 hMI hat) (cwV 2 hts gX10_takeMoon_X10_takeNumber rfl rfl rfl (by decide +kernel) ⟨Nat.le_of_ble_eq_true rfl, Nat.le_of_ble_eq_true rfl⟩) hE hS hA hP hD [0, 1, 2, 3, 4, 5, 6, 7, 8, 9, 10, 11, 12, 13, 14, 15, 16, 17, 18, 19, 20, 21, 22, 23, 24, 25, 26, 27, 28, 29, 30, 31, 32, 33, 34, 35, 36, 37, 38, 39, 40, 41, 42, 43, 44, 45] [] rfl rfl (by decide) (by decide) (by decide) [0, 1, 2, 3, 4, 5, 6, 7, 8, 9, 10, 11, 12, 13, 14, 15, 16, 17, 18, 19, 20, 21, 22, 23, 24, 25, 26, 27, 28, 29, 30, 31, 32, 33, 34, 35, 36, 37, 38, 39, 40, 41, 42, 43, 44, 45] (by decide) (fun u => rfl) rfl rfl rfl rfl hl.1 rfl (Nat.le_of_ble_eq_true rfl) dX10_takeMoon_72 ⟨Nat.zero_le _, Nat.zero_le _⟩ (fun r72 u72 H locs h72 hP hD hS => ?_)
            generalize u72 = o72_vm at hP hD h72
            try dsimp only at h72
            have hf72 := h72.2
            replace h72 := h72.1
            have hFn72 := h72.2
            replace h72 := h72.1
            replace hP : va_P (eD E) vwCl (mdL E am o72_vm) H := hP
            replace hD : va_D A (mdL E am o72_vm) := hD
            have hFz : fr lRd vm o72_vm := by first | exact hFz | exact hFz.tr hFn72 (by decide) | (rw [← hv72]; repeat' (first | exact hFz | refine fr.up ?_ (by decide) | refine fr.up3 ?_ (by decide)))
            have hMI : MdI o72_vm := hMI.sn h72.1
            have hat := h72.2.1
            have hmo : moF (vm 43 0).toNatClampNeg vm o72_vm := hmo.sn h72.1
            have hq72_43 : (o72_vm 43 0).toInt = (vn 43 0).toInt := by rw [h72.1 43 (by decide) (by decide) (by decide) (by decide)]
            have hq72_44 : (o72_vm 44 (vm 43 0).toNatClampNeg).toInt = (vn 44 (vm 43 0).toNatClampNeg).toInt := by rw [h72.1 44 (by decide) (by decide) (by decide) (by decide)]
            have hb45 : 0 ≤ (o72_vm 45 (vm 43 0).toNatClampNeg).toInt ∧ (o72_vm 45 (vm 43 0).toNatClampNeg).toInt ≤ 8 := (by rw [h72.1 45 (by decide) (by decide) (by decide) (by decide)]; exact hb45)
            have hb46 : 0 ≤ (o72_vm 46 (vm 43 0).toNatClampNeg).toInt ∧ (o72_vm 46 (vm 43 0).toNatClampNeg).toInt ≤ 8 := (by rw [h72.1 46 (by decide) (by decide) (by decide) (by decide)]; exact hb46)
            have hn72 := hf72
            rw [n_0, n_18, hH.1, hH.2.1, hH.2.2] at hn72
            have hw72 := hH.2.2
            have hC : scL lM2 vk o72_vm := hC.sn h72.1 (by decide)
            have hDd : ∀ j, j ≠ (vm 43 0).toNatClampNeg → o72_vm 44 j = vk 44 j := fun j hj => by rw [h72.1 44 (by decide) (by decide) (by decide) (by decide)]; exact hDd j hj
            refine lv_istore_n (lv' := [(2, .int r72), (0, .ref (am 0)), (1, .int (vm 43 0)), (3, .int mr)]) hx hb dX10_takeMoon_75 rfl hl (by decide) rfl (fun ls hl => ?_)
            refine lv_iload_n hx hb dX10_takeMoon_76 rfl (lv_at hl 0 rfl) ?_
            have K105 : ∀  (vh : Vf) (H : Heap) (locs : List Loc) (ls : Array Slot), va_P (eD E) vwCl (mdL E am vh) H → va_D A (mdL E am vh) → va_S A s.heap H locs → (MdI vh) → (atI vh) → ((vm 34 0).toInt ≤ (vh 34 0).toInt) → (moF (vm 43 0).toNatClampNeg vm vh) → ((vh 43 0).toInt = (vm 43 0).toInt + 1) → (0 ≤ (vh 45 (vm 43 0).toNatClampNeg).toInt ∧ (vh 45 (vm 43 0).toNatClampNeg).toInt ≤ 8) → (0 ≤ (vh 46 (vm 43 0).toNatClampNeg).toInt ∧ (vh 46 (vm 43 0).toNatClampNeg).toInt ≤ 8) → ((vh 44 (vm 43 0).toNatClampNeg).toInt = (vn 44 (vm 43 0).toNatClampNeg).toInt) → (fr lRd vm vh) → (scL lM2 vk vh) → (∀ j, j ≠ (vm 43 0).toNatClampNeg → vh 44 j = vk 44 j) → (vh 31 = vm 31 ∧ vh 32 = vm 32 ∧ (vh 33 0).toInt = (vk 33 0).toInt) → (∃ V q0 : Int, numF (vm 31) (vm 32 0).toInt 0 18 (vn 34 0).toInt = .inr (V, (vh 34 0).toInt, q0) ∧ fI (vh 47) = upI (fI (vn 47)) ((9 * (S 43 0).toNat) + (vn 44 (vm 43 0).toNatClampNeg).toInt.toNat) (V - 9)) → lv_has ls 4 [(0, .ref (am 0)), (1, .int (vm 43 0))] → W p l e (headSpec wsX10_takeMoon rm_X10_takeMoon).room s m ([.ref (am 0)] : List Value).toArray below meth c H locs 0 0 Q (F0 m 105 ls []) := by
              intro vh H locs ls hP hD hS h105_0 h105_1 h105_2 h105_3 h105_4 h105_5 h105_6 h105_7 h105_8 h105_9 h105_10 h105_11 h105_12 hl
              have hx105_0 := h105_9
              clear h105_9
              have hx105_1 := h105_10
              clear h105_10
              have hx105_2 := h105_11
              clear h105_11
              have hx105_3 := h105_12
              clear h105_12
              have hMI := h105_0
              have hat := h105_1
              have hmo := h105_3
              have hb45 := h105_5
              have hb46 := h105_6
              have hFz := h105_8
              have hC := hx105_0
              have hDd := hx105_1
              have hH := hx105_2
              refine lv_aload_n hx hb dX10_takeMoon_105 rfl (lv_at hl 0 rfl) ?_
              refine va_get (D := eD E) (ci := 10) (v := .ref (am 44)) (C := RX10) (T := TX10) (N := 79) hx hb hts in_X10 hown hK hP 0 rfl rfl 44 (by decide) lk2 (fun _ h9 => h9) rfl dX10_takeMoon_106 ?_
              refine lv_iload_n hx hb dX10_takeMoon_109 rfl (lv_at hl 1 rfl) ?_
              refine lv_dup2_11 hx hb dX10_takeMoon_110 rfl rfl ?_
              refine va_iald hx hb hK hP 23 0 rfl rfl (n := 3) (f := (vh 44)) (i_in hj0 hj1) dX10_takeMoon_111 ?_
              refine lv_topi (fun x111 e111 => ?_)
              have t111 : x111.toInt = (vn 44 (vm 43 0).toNatClampNeg).toInt := by rw [e111]; exact h105_7
              refine lv_iconst (v := 1) hx hb dX10_takeMoon_112 (by decide) ?_
              have sv113_x111 : 0 ≤ x111.toInt ∧ x111.toInt ≤ 8 := by omega
              refine lv_iadd hx hb dX10_takeMoon_113 ?_
              refine lv_topi (fun x113 e113 => ?_)
              have t113 := i_add e113 (by omega)
              refine va_iast hx hb hK hP hD hS 23 0 rfl rfl (n := 3) (f := (vh 44)) (i_in hj0 hj1) dX10_takeMoon_114 (fun H locs hP hD hS => ?_)
              replace hP : va_P (eD E) vwCl (mdL E am (up2 vh 44 ((vm 43 0).toNatClampNeg) x113)) H := hP
              replace hD : va_D A (mdL E am (up2 vh 44 ((vm 43 0).toNatClampNeg) x113)) := hD
              generalize hv114 : up2 vh 44 ((vm 43 0).toNatClampNeg) x113 = vm_114 at hP hD
              have hFz : fr lRd vm vm_114 := by first | exact hFz | (rw [← hv114]; exact hFz.up (by decide))
              have hMI : MdI vm_114 := by rw [← hv114]; exact hMI
              have hq114_43 : (vm_114 43 0).toInt = (vh 43 0).toInt := by rw [← hv114]; rfl
              have hq114_34 : (vm_114 34 0).toInt = (vh 34 0).toInt := by rw [← hv114]; rfl
              have hat : atI vm_114 := by rw [← hv114]; exact hat
              have hb45 : 0 ≤ (vm_114 45 (vm 43 0).toNatClampNeg).toInt ∧ (vm_114 45 (vm 43 0).toNatClampNeg).toInt ≤ 8 := (by rw [← hv114]; exact hb45)
              have hb46 : 0 ≤ (vm_114 46 (vm 43 0).toNatClampNeg).toInt ∧ (vm_114 46 (vm 43 0).toNatClampNeg).toInt ≤ 8 := (by rw [← hv114]; exact hb46)
              have hmo : moF (vm 43 0).toNatClampNeg vm vm_114 := (by rw [← hv114]; exact hmo.m44)
              have hn114 : vm_114 44 (vm 43 0).toNatClampNeg = x113 := by rw [← hv114]; exact upd_at
              have hC : scL lM2 vk vm_114 := by rw [← hv114]; exact hC.up (by decide)
              have hDd : ∀ j, j ≠ (vm 43 0).toNatClampNeg → vm_114 44 j = vk 44 j := fun j hj => by rw [← hv114]; exact (updN hj).trans (hDd j hj)
              have hH : vm_114 31 = vm 31 ∧ vm_114 32 = vm 32 ∧ (vm_114 33 0).toInt = (vk 33 0).toInt := by rw [← hv114]; exact hH
              have hR : ∃ V q0 : Int, numF (vm 31) (vm 32 0).toInt 0 18 (vn 34 0).toInt = .inr (V, (vm_114 34 0).toInt, q0) ∧ fI (vm_114 47) = upI (fI (vn 47)) ((9 * (S 43 0).toNat) + (vn 44 (vm 43 0).toNatClampNeg).toInt.toNat) (V - 9) := by rw [← hv114]; exact hx105_3
              exact K115  vm_114 _ _ ls hP hD hS hMI hat (by omega) hmo (by omega) hb45 hb46 (by rw [hn114]; omega) hFz hC hDd hH hR hFn (lv_sub hl [0, 1] rfl)
            refine lv_if_le (tgt := 82) hx hb dX10_takeMoon_77 (by decide) (fun c77 => ?_) (fun c77 => ?_)
            · have c77_ := i_le c77
              have hgd : r72.toInt = 0 := by omega
              have hH72 : o72_vm 31 = vm 31 ∧ o72_vm 32 = vm 32 := ⟨(h72.1 31 (by decide) (by decide) (by decide) (by decide)).trans hH.1, (h72.1 32 (by decide) (by decide) (by decide) (by decide)).trans hH.2.1⟩
              have hw72 := (hn72.get0 okF.num hgd).1
              refine lv_aload_n hx hb dX10_takeMoon_82 rfl (lv_at hl 1 rfl) ?_
              refine va_get (D := eD E) (ci := 10) (v := .ref (am 47)) (C := RX10) (T := TX10) (N := 79) hx hb hts in_X10 hown hK hP 0 rfl rfl 47 (by decide) lk4 (fun _ h9 => h9) rfl dX10_takeMoon_83 ?_
              refine lv_bipush (v := 9) hx hb dX10_takeMoon_86 (by decide) ?_
              refine lv_iload_n hx hb dX10_takeMoon_88 rfl (lv_at hl 2 rfl) ?_
              refine lv_imul hx hb dX10_takeMoon_89 ?_
              refine lv_topi (fun x89 e89 => ?_)
              have t89 := i_mul e89 (by rw [n_9]; omega)
              rw [n_9] at t89
              refine lv_aload_n hx hb dX10_takeMoon_90 rfl (lv_at hl 1 rfl) ?_
              refine va_get (D := eD E) (ci := 10) (v := .ref (am 44)) (C := RX10) (T := TX10) (N := 79) hx hb hts in_X10 hown hK hP 0 rfl rfl 44 (by decide) lk2 (fun _ h9 => h9) rfl dX10_takeMoon_91 ?_
              refine lv_iload_n hx hb dX10_takeMoon_94 rfl (lv_at hl 2 rfl) ?_
              refine va_iald hx hb hK hP 23 0 rfl rfl (n := 3) (f := (o72_vm 44)) (i_in hj0 hj1) dX10_takeMoon_95 ?_
              refine lv_topi (fun x95 e95 => ?_)
              have t95 : x95.toInt = (vn 44 (vm 43 0).toNatClampNeg).toInt := by rw [e95]; exact hq72_44
              have sv96_x95 : 0 ≤ x95.toInt ∧ x95.toInt ≤ 8 := by omega
              refine lv_iadd hx hb dX10_takeMoon_96 ?_
              refine lv_topi (fun x96 e96 => ?_)
              have t96 := i_add e96 (by omega)
              refine lv_aload_n hx hb dX10_takeMoon_97 rfl (lv_at hl 1 rfl) ?_
              refine va_get (D := eD E) (ci := 10) (v := .int (o72_vm 35 0)) (C := RX10) (T := TX10) (N := 79) hx hb hts in_X10 hown hK hP 0 rfl rfl 35 (by decide) lk5 (fun _ h9 => h9) rfl dX10_takeMoon_98 ?_
              refine lv_bipush (v := 9) hx hb dX10_takeMoon_101 (by decide) ?_
              have sv103_o72_vm350 : 0 ≤ (o72_vm 35 0).toInt ∧ (o72_vm 35 0).toInt ≤ 18 := by omega
              refine lv_isub hx hb dX10_takeMoon_103 ?_
              refine lv_topi (fun x103 e103 => ?_)
              have t103 := i_sub e103 (by omega)
              refine va_iast hx hb hK hP hD hS 26 0 rfl rfl (n := 27) (f := (o72_vm 47)) (i_in (by omega) (by omega)) dX10_takeMoon_104 (fun H locs hP hD hS => ?_)
              replace hP : va_P (eD E) vwCl (mdL E am (up2 o72_vm 47 x96.toNatClampNeg x103)) H := hP
              replace hD : va_D A (mdL E am (up2 o72_vm 47 x96.toNatClampNeg x103)) := hD
              generalize hv104 : up2 o72_vm 47 x96.toNatClampNeg x103 = vm_104 at hP hD
              have hFz : fr lRd vm vm_104 := by first | exact hFz | (rw [← hv104]; exact hFz.up (by decide))
              have hMI : MdI vm_104 := by rw [← hv104]; exact hMI.on4 (fun t ht => up2_ne (fun q => absurd (q ▸ ht) (by decide))) (upd_b hMI.2.2.2.2.1 (by omega) (by omega)) hMI.2.2.2.2.2.1 hMI.2.2.2.2.2.2.1 hMI.2.2.2.2.2.2.2
              have hq104_43 : (vm_104 43 0).toInt = (o72_vm 43 0).toInt := by rw [← hv104]; rfl
              have hq104_34 : (vm_104 34 0).toInt = (o72_vm 34 0).toInt := by rw [← hv104]; rfl
              have hat : atI vm_104 := by rw [← hv104]; exact hat
              have hb45 : 0 ≤ (vm_104 45 (vm 43 0).toNatClampNeg).toInt ∧ (vm_104 45 (vm 43 0).toNatClampNeg).toInt ≤ 8 := (by rw [← hv104]; exact hb45)
              have hb46 : 0 ≤ (vm_104 46 (vm 43 0).toNatClampNeg).toInt ∧ (vm_104 46 (vm 43 0).toNatClampNeg).toInt ≤ 8 := (by rw [← hv104]; exact hb46)
              have hmo : moF (vm 43 0).toNatClampNeg vm vm_104 := (by rw [← hv104]; exact hmo.up (by omega))
              have hq104_44 : vm_104 44 = o72_vm 44 := by rw [← hv104]; rfl
              have hC : scL lM2 vk vm_104 := by rw [← hv104]; exact hC.up (by decide)
              have hDd : ∀ j, j ≠ (vm 43 0).toNatClampNeg → vm_104 44 j = vk 44 j := by rw [← hv104]; exact hDd
              have hH : vm_104 31 = vm 31 ∧ vm_104 32 = vm 32 ∧ (vm_104 33 0).toInt = (vk 33 0).toInt := by rw [← hv104]; exact ⟨hH72.1, hH72.2, hw72⟩
              have hR : ∃ V q0 : Int, numF (vm 31) (vm 32 0).toInt 0 18 (vn 34 0).toInt = .inr (V, (vm_104 34 0).toInt, q0) ∧ fI (vm_104 47) = upI (fI (vn 47)) ((9 * (S 43 0).toNat) + (vn 44 (vm 43 0).toNatClampNeg).toInt.toNat) (V - 9) := by rw [← hv104]; exact mo_num hn72 hgd (by show fI (upd (o72_vm 47) x96.toNatClampNeg x103) = _; rw [h72.1 47 (by decide) (by decide) (by decide) (by decide)]; exact fI_upd (by show x96.toInt.toNat = _; omega) (by omega))
              exact K105  vm_104 _ _ ls hP hD hS hMI hat (by omega) hmo (by omega) hb45 hb46 (by rw [hq104_44]; exact hq72_44) hFz hC hDd hH hR (lv_sub hl [1, 2] rfl)
            · have c77_ := i_nle c77
              have hbad : r72.toInt ≠ 0 := by omega
              refine lv_iload_n hx hb dX10_takeMoon_80 rfl (lv_at hl 0 rfl) ?_
              subst hQ
              exact W.iret (v := r72) hx hb hr (fun t ht hW => ⟨⟨r72, (o72_vm), rfl, (show ((MdI o72_vm ∧ atI o72_vm ∧ (vm 34 0).toInt ≤ (o72_vm 34 0).toInt ∧ (0 ≤ r72.toInt ∧ r72.toInt ≤ 4) ∧ (r72.toInt = 0 → RdM o72_vm)) ∧ fr lRd vm o72_vm) ∧ (∀ wa, TK (moonP (vm 31) (vm 32 0).toInt S wa (vm 34 0).toInt) (moonF (vm 31) (vm 32 0).toInt S wa (vm 34 0).toInt) (vm 33 0).toInt r72.toInt (o72_vm 33 0).toInt (fun x => (o72_vm 34 0).toInt = x.2.2.1 ∧ SM (moonS S x.1.1.2.1 x.1.2.1 x.2) o72_vm)) from ⟨⟨⟨hMI, hat, by omega, by omega, fun q => absurd q (by omega)⟩, hFz⟩, (fun wa => by obtain ⟨x, q1, q2⟩ := (hQx wa).2; exact Or.inl ⟨_, _, moon_no q1 (by rw [← q2.1]; exact mo_no hFn (by omega) hn72 hbad), rfl, rfl⟩)⟩), by rw [ht]; exact hP, hD⟩, hS.F ht⟩) hS.2.2 dX10_takeMoon_81
      exact K64 _ 1 vm_61 _ _ ls (Nat.lt_succ_self _) hP hD hS hMI hat (by omega) (Or.inl ⟨by decide, by omega⟩) hmo (by omega) hb45 hb46 hFz hC hDd hH hF (lv_sub hl [2, 3, 0] rfl)
    · have c50_ := i_nle c50
      have hbad : fz.toInt ≠ 0 := by omega
      refine lv_iload_n hx hb dX10_takeMoon_53 rfl (lv_at hl 0 rfl) ?_
      subst hQ
      exact W.iret (v := fz) hx hb hr (fun t ht hW => ⟨⟨fz, (vk), rfl, (show ((MdI vk ∧ atI vk ∧ (vm 34 0).toInt ≤ (vk 34 0).toInt ∧ (0 ≤ fz.toInt ∧ fz.toInt ≤ 4) ∧ (fz.toInt = 0 → RdM vk)) ∧ fr lRd vm vk) ∧ (∀ wa, TK (moonP (vm 31) (vm 32 0).toInt S wa (vm 34 0).toInt) (moonF (vm 31) (vm 32 0).toInt S wa (vm 34 0).toInt) (vm 33 0).toInt fz.toInt (vk 33 0).toInt (fun x => (vk 34 0).toInt = x.2.2.1 ∧ SM (moonS S x.1.1.2.1 x.1.2.1 x.2) vk)) from ⟨⟨⟨hMI, hat, by omega, by omega, fun q => absurd q (by omega)⟩, hFz⟩, (fun wa => MF.tk ((hx48_0 wa).stop hbad))⟩), by rw [ht]; exact hP, hD⟩, hS.F ht⟩) hS.2.2 dX10_takeMoon_54
  refine lv_if_le (tgt := 36) hx hb dX10_takeMoon_29 (by decide) (fun c29 => ?_) (fun c29 => ?_)
  · have c29_ := i_le c29
    have hgd : r24.toInt = 0 := by omega
    refine lv_aload_n hx hb dX10_takeMoon_36 rfl (lv_at hl 2 rfl) ?_
    refine lv_aload_n hx hb dX10_takeMoon_37 rfl (lv_at hl 2 rfl) ?_
    refine va_get (D := eD E) (ci := 10) (v := .ref (am 46)) (C := RX10) (T := TX10) (N := 79) hx hb hts in_X10 hown hK hP 0 rfl rfl 46 (by decide) lk6 (fun _ h9 => h9) rfl dX10_takeMoon_38 ?_
    refine lv_iload_n hx hb dX10_takeMoon_41 rfl (lv_at hl 1 rfl) ?_
    refine lv_iconst (v := 0) hx hb dX10_takeMoon_42 (by decide) ?_
    refine lv_bipush (v := 8) hx hb dX10_takeMoon_43 (by decide) ?_
    refine mt_Vi (w1 := fun (u : Vf) => mdL E am u) (wf := fun (u : Vf) => mdL E am u) (wr := []) (As := [.ref (am 46), .int (vm 43 0), .int 0, .int 8]) (rest := []) (C := RX10) (ci := 10) ⟨hx, hb, hml, hown, hts⟩ (c_X10_into_46 l E H.size am o24_vm (vm 43 0) 0 8 hMI hat (by omega)) (cwV 4 hts gX10_takeMoon_X10_into rfl rfl rfl (by decide +kernel) ⟨Nat.le_of_ble_eq_true rfl, Nat.le_of_ble_eq_true rfl⟩) hE hS hA hP hD [0, 1, 2, 3, 4, 5, 6, 7, 8, 9, 10, 11, 12, 13, 14, 15, 16, 17, 18, 19, 20, 21, 22, 23, 24, 25, 26, 27, 28, 29, 30, 31, 32, 33, 34, 35, 36, 37, 38, 39, 40, 41, 42, 43, 44, 45] [] rfl rfl (by decide) (by decide) (by decide) [0, 1, 2, 3, 4, 5, 6, 7, 8, 9, 10, 11, 12, 13, 14, 15, 16, 17, 18, 19, 20, 21, 22, 23, 24, 25, 26, 27, 28, 29, 30, 31, 32, 33, 34, 35, 36, 37, 38, 39, 40, 41, 42, 43, 44, 45] (by decide) (fun u => rfl) rfl rfl rfl rfl hl.1 rfl (Nat.le_of_ble_eq_true rfl) dX10_takeMoon_45 ⟨Nat.zero_le _, Nat.zero_le _⟩ (fun r45 u45 H locs h45 hP hD hS => ?_)
    generalize u45 = o45_vm at hP hD h45
    try dsimp only at h45
    have hf45 := h45.2
    replace h45 := h45.1
    have hFn45 := h45.2
    replace h45 := h45.1
    replace hP : va_P (eD E) vwCl (mdL E am o45_vm) H := hP
    replace hD : va_D A (mdL E am o45_vm) := hD
    have hFz : fr lRd vm o45_vm := by first | exact hFz | exact hFz.tr hFn45 (by decide) | (rw [← hv45]; repeat' (first | exact hFz | refine fr.up ?_ (by decide) | refine fr.up3 ?_ (by decide)))
    have hMI : MdI o45_vm := hMI.on (h45.1.mem (by decide))
    have hat := h45.2.2.1
    obtain ⟨y45, hy45, hr45⟩ := id h45.2.1
    have hm45 := h45.2.2.2
    have hmo : moF (vm 43 0).toNatClampNeg vm o45_vm := hmo.k46 h45.1 hy45
    have hq45 : (o45_vm 43 0).toInt = (o24_vm 43 0).toInt := by rw [h45.1 43 (by decide) (by decide) (by decide) (by decide) (by decide) (by decide)]
    have hv45 : o45_vm 46 (vm 43 0).toNatClampNeg = y45 := by rw [hy45]; exact upd_at
    have hb6 : r45.toInt = 0 → (0 ≤ (o45_vm 45 (vm 43 0).toNatClampNeg).toInt ∧ (o45_vm 45 (vm 43 0).toNatClampNeg).toInt ≤ 8) ∧ (0 ≤ (o45_vm 46 (vm 43 0).toNatClampNeg).toInt ∧ (o45_vm 46 (vm 43 0).toNatClampNeg).toInt ≤ 8) := fun q => ⟨by rw [h45.1 45 (by decide) (by decide) (by decide) (by decide) (by decide) (by decide)]; exact hb45 (by omega), by rw [hv45]; omega⟩
    have hn45 := hf45.1
    rw [n_0, n_8, hT24.1, hT24.2.1] at hn45
    have hT45 : o45_vm 31 = vm 31 ∧ o45_vm 32 = vm 32 ∧ o45_vm 47 = vm 47 := by rw [h45.1 31 (by decide) (by decide) (by decide) (by decide) (by decide) (by decide), h45.1 32 (by decide) (by decide) (by decide) (by decide) (by decide) (by decide), h45.1 47 (by decide) (by decide) (by decide) (by decide) (by decide) (by decide)]; exact hT24
    have hSM45 : SM (upS (upS (upS S 43 0 (S 43 0 + 1)) 45 (S 43 0).toNat (o24_vm 35 0).toInt) 46 (S 43 0).toNat (o45_vm 35 0).toInt) o45_vm := hSM24.step h45.1 hf45.2 hmk
    exact K48 r45 o45_vm _ _ ls hP hD hS hMI hat (by omega) (by omega) (by first | exact fun q => absurd q (by omega) | exact hb6) hmo (by omega) hFz (by first | exact fun wa => (hh24 wa).stop hbad | exact fun wa => MF.mono (MF.then (s := fun z : Unit × (Int × Int × Int) => numF (vm 31) (vm 32 0).toInt 0 8 z.2.2.1) (hh24 wa) hgd hn45 ((okF.chk (by decide)).th (fun _ => okF.num)) (fun z hz => by have q2 : (o24_vm 34 0).toInt = z.2.2.1 := hz.2.1; rw [q2])) (fun q z hz => ⟨hz.2.2.1, by have q1 : (o24_vm 35 0).toInt = z.1.2.1 := hz.1.1; have q3 : (o45_vm 35 0).toInt = z.2.1 := hz.2.1; rw [← q1, ← q3]; exact hSM45⟩)) (by first | exact hT24 | exact hT45) (lv_sub hl [2, 1, 0] rfl)
  · have c29_ := i_nle c29
    have hbad : r24.toInt ≠ 0 := by omega
    refine lv_iload_n hx hb dX10_takeMoon_32 rfl (lv_at hl 0 rfl) ?_
    refine lv_goto (tgt := 48) hx hb dX10_takeMoon_33 (by decide) ?_
    exact K48 r24 o24_vm _ _ ls hP hD hS hMI hat (by omega) (by omega) (by first | exact fun q => absurd q (by omega) | exact hb6) hmo (by omega) hFz (by first | exact fun wa => (hh24 wa).stop hbad | exact fun wa => MF.mono (MF.then (s := fun z : Unit × (Int × Int × Int) => numF (vm 31) (vm 32 0).toInt 0 8 z.2.2.1) (hh24 wa) hgd hn45 ((okF.chk (by decide)).th (fun _ => okF.num)) (fun z hz => by have q2 : (o24_vm 34 0).toInt = z.2.2.1 := hz.2.1; rw [q2])) (fun q z hz => ⟨hz.2.2.1, by have q1 : (o24_vm 35 0).toInt = z.1.2.1 := hz.1.1; have q3 : (o45_vm 35 0).toInt = z.2.1 := hz.2.1; rw [← q1, ← q3]; exact hSM45⟩)) (by first | exact hT24 | exact hT45) (lv_sub hl [2, 1, 0] rfl)
end
