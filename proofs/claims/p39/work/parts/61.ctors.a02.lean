def rm_X2_init : Room := { frames := 1, cells := 0, slots := 0, locals := 20 }
set_option maxHeartbeats 8000000 in
set_option maxRecDepth 100000 in
theorem c_X2_init (l : Launch) (E : Ev) (sz : Nat) (q : Nat) : Met l yX2_init wsX2_init rm_X2_init (CtP E sz [.ref q] [(q, .inr (2, [.null, .int 0, .int 0, .null, .int 0, .int 0, .int 0, .int 0, .int 0]))]) (va_Qv (fun (u : Unit) => True) (MtB E (va_A [(q, .inr (2, [.null, .int 0, .int 0, .null, .int 0, .int 0, .int 0, .int 0, .int 0]))] sz) (fun u => [(q, .inr (2, [.null, .int 0, .int 0, .null, .int 0, .int 0, .int 0, .int 0, .int 0]))])) (va_A [(q, .inr (2, [.null, .int 0, .int 0, .null, .int 0, .int 0, .int 0, .int 0, .int 0]))] sz)) 0 0 (va_A [(q, .inr (2, [.null, .int 0, .int 0, .null, .int 0, .int 0, .int 0, .int 0, .int 0]))] sz) := by
  refine Met.ofW (cc := cX2_init) (maxL := 1) (ret := none) (by decide) rfl ?_
  intro p e s m args below meth c s₁ B hml hv
  obtain ⟨rfl, hsz, hC, hP, hD0⟩ := hv
  subst hsz
  have hD := hD0.self (sz := s.heap.size)
  generalize hAe : va_A [(q, .inr (2, [.null, .int 0, .int 0, .null, .int 0, .int 0, .int 0, .int 0, .int 0]))] s.heap.size = A at hD hC ⊢
  have hA : ∀ q : Nat, s.heap.size ≤ q → A q := fun q h => by rw [← hAe]; exact Or.inr h
  have hS : va_S A s.heap s.heap [] := va_S.rf
  have hx := B.exec
  have hb := B.bytes
  have hr := B.returns
  have hts := atoms_spec (ws := wsX2_init) B.pre
  have hown : s.vm.findClass RX2 = some m.cls := findClass_of_methodNamed B.named
  have hlocks := B.notSynchronized
  have hin : meth.name = "<init>" := (name_of_methodNamed B.named B.method).1
  have hE := hC.1
  have hK := hE.1
  replace hP : va_P (eD E) vwCl [(q, .inr (2, [.null, .int 0, .int 0, .null, .int 0, .int 0, .int 0, .int 0, .int 0]))] s.heap := hP
  have lk0 := hts (.methodLink RX2 3 objectInit) (by decide +kernel)
  have lk1 := hts (.instanceMethod objectInit) (by decide +kernel)
  have lk2 := hts (.code objectInit ⟨#[0xb1]⟩ 1 none) (by decide +kernel)
  have hl := lv_entry ([.ref q]) (n := 1) (Nat.le_of_ble_eq_true rfl)
  rw [lg_entry_eq]
  generalize (lg_sl ([.ref q]) ++ List.replicate (1 - (lg_sl ([.ref q])).length) Slot.unset).toArray = ls at hl ⊢
  have hl : lv_has ls 1 [(0, .ref q)] := hl
  refine W_abs (fun Q hQ => ?_)
  refine lv_aload_n hx hb dX2_init_0 rfl (lv_at hl 0 rfl) ?_
  refine W.objInit hx hb hown lk0 lk1 lk2 rfl (by rw [hml]; exact hl.1) rfl dX2_init_1 (Nat.le_of_ble_eq_true rfl) (Nat.le_of_ble_eq_true rfl) ?_
  refine W.eq (g2 := F0 m 4 ls []) rfl ?_
  have hP9 : va_P (eD E) vwCl ([(q, .inr (2, [.null, .int 0, .int 0, .null, .int 0, .int 0, .int 0, .int 0, .int 0]))]) s.heap := hP.sub [0] rfl
  have hD9 : va_D A ([(q, .inr (2, [.null, .int 0, .int 0, .null, .int 0, .int 0, .int 0, .int 0, .int 0]))]) := hD.sub [0] (by decide) rfl
  refine W.widen (k := 0) (n := 0) (Nat.le_of_ble_eq_true rfl) (Nat.le_of_ble_eq_true rfl) ?_
  subst hQ
  exact W.vret hx hb hr (fun t ht hW => ⟨⟨(), rfl, trivial, by rw [ht]; exact hP9, hD9⟩, hS.F ht⟩) hS.2.2 dX2_init_4
