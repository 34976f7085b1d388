def rm_X10_takeMoon : Room := { frames := 3, cells := 0, slots := 0, locals := 73 }
set_option maxHeartbeats 4000000 in
set_option maxRecDepth 100000 in
theorem c_X10_takeMoon (l : Launch) (E : Ev) (sz : Nat) (am : Nat → Nat) (vm : Vf) (hMI : MdI vm) (hat : atI vm) (hRd : RdM vm) (hw1 : 1 ≤ (vm 37 0).toInt) (hcn : (vm 43 0).toInt ≤ 2) : Met l yX10_takeMoon wsX10_takeMoon rm_X10_takeMoon (MtP E sz [.ref (am 0)] (mdL E am vm)) (va_Qi (fun (r : Int32) (u : Vf) => MdI u ∧ atI u ∧ (vm 34 0).toInt ≤ (u 34 0).toInt ∧ (0 ≤ r.toInt ∧ r.toInt ≤ 4) ∧ (r.toInt = 0 → RdM u)) (MtB E (va_A (mdL E am vm) sz) (fun u => mdL E am u)) (va_A (mdL E am vm) sz)) 0 0 (va_A (mdL E am vm) sz) := by
  sorry
