/-! ===== constructors: new rows, new objects ===== -/
theorem va_pin {D : va_G} {cl : List vw_C} {tys : List (ClassId × FieldType)} {U : State} {cA cI : ClassId} {ty : FieldType} (hK : va_K D cl (tys ++ [(cA, ty)]) U) (t0 : Nat) (ht : tys[t0]? = some (cI, ty)) : cA = cI := by
  have h1 := (hK.2 tys.length (cA, ty) (by simp)).2
  have h2 := (hK.2 t0 (cI, ty) (by rw [List.getElem?_append_left (List.getElem?_eq_some_iff.mp ht).1]; exact ht)).2
  cases ty <;> first | exact Option.some.inj (Eq.trans (Eq.symm h1) h2) | (obtain ⟨_, _, _, _, _, e1⟩ := h1; obtain ⟨_, _, _, _, _, e2⟩ := h2; exact Option.some.inj (e1.symm.trans e2))
def CtE (E : Ev) (A : Nat → Prop) (U : State) (H : Heap) : Prop := EN E A U H ∧ va_AO "TidedGround$Moon" U ∧ va_AO "TidedGround$State" U
abbrev CtP (E : Ev) (sz : Nat) (av : List Value) (ws : va_W) : Array Value → State → Prop := va_Pc av (fun U => U.heap.size = sz ∧ CtE E (va_A ws sz) U U.heap ∧ va_P (eD E) vwCl ws U.heap ∧ va_D (fun _ => True) ws)
theorem CtP.blind {E : Ev} {sz : Nat} {av : List Value} {ws : va_W} : FrameBlind (CtP E sz av ws) := fun a U g mk h => ⟨h.1, h.2.1, ⟨EN.calling h.2.2.1.1, va_AO.moved (Vm.Alike.refl U.vm) h.2.2.1.2.1, va_AO.moved (Vm.Alike.refl U.vm) h.2.2.1.2.2⟩, h.2.2.2⟩
theorem wd_re {E : Ev} {w : va_W} {H : Heap} {A : Nat → Prop} (_ : va_P (eD E) vwCl w H) (h : va_D A w) : va_D A w := h
section CT
variable {p : Program} {l : Launch} {e : Env} {R : Room} {s : State} {m : MethodId} {args : Array Value} {below : List Frame} {meth : Method} {c : Code} {H : Heap} {locs : List Loc} {cells slots : Nat} {Q : State → Prop}
variable {y : MethodName} {bytes cc : ByteArray} {maxL nL n index mc ms : Nat} {ws : List Cond} {rm : Room} {Ts : List Cond} {own host : String} {b : Addr} {As rest st0 : List Value} {pc : Nat} {ls : Array Slot} {E : Ev} {A : Nat → Prop} {w : va_W} {H0 : Heap}
theorem ct_newI (hexec : p.tables.exec = Jvm.exec) (hb : c.code = cc) (harr : (Cond.arrayClass .int).before args s = true) (hK : va_K (eD E) vwCl (eT E) s) (hP : va_P (eD E) vwCl w H) (hD : va_D A w) (hS : va_S A H0 H locs) (hA : ∀ q, H0.size ≤ q → A q)
    {n : Int32} (N : Nat) (hn : ¬ n < 0) (hN : n.toNatClampNeg = N) (hbytes : N * componentBytes .int ≤ 536870912) (hcells : cells + 1 ≤ R.cells) (hslots : slots + N ≤ R.slots) (hdg : decode cc pc = .ok (.newarray .int, 2))
    (kk : ∀ (q : Nat) (H1 : Heap), va_P (eD E) vwCl (w ++ [(q, .inl (eI E, N, .inl (fun _ => 0)))]) H1 → va_D A (w ++ [(q, .inl (eI E, N, .inl (fun _ => 0)))]) → va_S A H0 H1 locs → W p l e R s m args below meth c H1 locs (cells + 1) (slots + N) Q (F0 m (pc + 2) ls (.ref q :: rest))) : W p l e R s m args below meth c H locs cells slots Q (F0 m pc ls (.int n :: rest)) :=
  va_newa (atype := .int) (ty := .int) (a0 := (N, .inl (fun _ => 0))) hexec hb harr rfl hK hP hD hS hA (fun _ => rfl) hn hN hbytes hcells hslots hdg (fun q cA H1 hK1 hP1 hD1 hS1 => by
    have e1 := va_pin hK1 0 rfl
    subst e1
    exact kk q H1 hP1 hD1 hS1)
theorem ct_newZ (hexec : p.tables.exec = Jvm.exec) (hb : c.code = cc) (harr : (Cond.arrayClass .boolean).before args s = true) (hK : va_K (eD E) vwCl (eT E) s) (hP : va_P (eD E) vwCl w H) (hD : va_D A w) (hS : va_S A H0 H locs) (hA : ∀ q, H0.size ≤ q → A q)
    {n : Int32} (N : Nat) (hn : ¬ n < 0) (hN : n.toNatClampNeg = N) (hbytes : N * componentBytes .boolean ≤ 536870912) (hcells : cells + 1 ≤ R.cells) (hslots : slots + N ≤ R.slots) (hdg : decode cc pc = .ok (.newarray .boolean, 2))
    (kk : ∀ (q : Nat) (H1 : Heap), va_P (eD E) vwCl (w ++ [(q, .inl (eZ E, N, .inl (fun _ => 0)))]) H1 → va_D A (w ++ [(q, .inl (eZ E, N, .inl (fun _ => 0)))]) → va_S A H0 H1 locs → W p l e R s m args below meth c H1 locs (cells + 1) (slots + N) Q (F0 m (pc + 2) ls (.ref q :: rest))) : W p l e R s m args below meth c H locs cells slots Q (F0 m pc ls (.int n :: rest)) :=
  va_newa (atype := .boolean) (ty := .boolean) (a0 := (N, .inl (fun _ => 0))) hexec hb harr rfl hK hP hD hS hA (fun _ => rfl) hn hN hbytes hcells hslots hdg (fun q cA H1 hK1 hP1 hD1 hS1 => by
    have e1 := va_pin hK1 1 rfl
    subst e1
    exact kk q H1 hP1 hD1 hS1)
theorem ct_newM (hexec : p.tables.exec = Jvm.exec) (hb : c.code = cc) (hown : s.vm.findClass own = some m.cls) (hclink : (Cond.classLink own index "TidedGround$Moon").before args s = true) (hover : va_AO "TidedGround$Moon" s) (hK : va_K (eD E) vwCl (eT E) s) (hP : va_P (eD E) vwCl w H) (hD : va_D A w) (hS : va_S A H0 H locs) (hA : ∀ q, H0.size ≤ q → A q)
    {n : Int32} (N : Nat) (hn : ¬ n < 0) (hN : n.toNatClampNeg = N) (hbytes : N * 4 ≤ 536870912) (hcells : cells + 1 ≤ R.cells) (hslots : slots + N ≤ R.slots) (hdg : decode cc pc = .ok (.anewarray index, 3))
    (kk : ∀ (q : Nat) (H1 : Heap), va_P (eD E) vwCl (w ++ [(q, .inl (eM E, N, .inr (.inr (.inr (.inr (fun _ => none))))))]) H1 → va_D A (w ++ [(q, .inl (eM E, N, .inr (.inr (.inr (.inr (fun _ => none))))))]) → va_S A H0 H1 locs → W p l e R s m args below meth c H1 locs (cells + 1) (slots + N) Q (F0 m (pc + 3) ls (.ref q :: rest))) : W p l e R s m args below meth c H locs cells slots Q (F0 m pc ls (.int n :: rest)) :=
  va_newq hexec hb hown hclink hover hK hP hD hS hA hn hN hbytes hcells hslots hdg (fun q cA H1 hK1 hP1 hD1 hS1 => by
    have e1 := va_pin hK1 2 rfl
    subst e1
    exact kk q H1 hP1 hD1 hS1)
theorem ct_newS (hexec : p.tables.exec = Jvm.exec) (hb : c.code = cc) (hown : s.vm.findClass own = some m.cls) (hclink : (Cond.classLink own index "TidedGround$State").before args s = true) (hover : va_AO "TidedGround$State" s) (hK : va_K (eD E) vwCl (eT E) s) (hP : va_P (eD E) vwCl w H) (hD : va_D A w) (hS : va_S A H0 H locs) (hA : ∀ q, H0.size ≤ q → A q)
    {n : Int32} (N : Nat) (hn : ¬ n < 0) (hN : n.toNatClampNeg = N) (hbytes : N * 4 ≤ 536870912) (hcells : cells + 1 ≤ R.cells) (hslots : slots + N ≤ R.slots) (hdg : decode cc pc = .ok (.anewarray index, 3))
    (kk : ∀ (q : Nat) (H1 : Heap), va_P (eD E) vwCl (w ++ [(q, .inl (eS E, N, .inr (.inr (.inr (.inr (fun _ => none))))))]) H1 → va_D A (w ++ [(q, .inl (eS E, N, .inr (.inr (.inr (.inr (fun _ => none))))))]) → va_S A H0 H1 locs → W p l e R s m args below meth c H1 locs (cells + 1) (slots + N) Q (F0 m (pc + 3) ls (.ref q :: rest))) : W p l e R s m args below meth c H locs cells slots Q (F0 m pc ls (.int n :: rest)) :=
  va_newq hexec hb hown hclink hover hK hP hD hS hA hn hN hbytes hcells hslots hdg (fun q cA H1 hK1 hP1 hD1 hS1 => by
    have e1 := va_pin hK1 3 rfl
    subst e1
    exact kk q H1 hP1 hD1 hS1)
theorem ct_I {S : Type} {post : S → Prop} {w1 : S → va_W} {wc wr : va_W} (S0 : CallFix p m c cc nL s args Ts own)
    (hM : Met l y ws rm (CtP E H.size (.ref b :: As) wc) (va_Qv post (MtB E (va_A wc H.size) w1) (va_A wc H.size)) mc ms (va_A wc H.size)) (cw : CallB R s args own index y bytes maxL none ws rm mc ms n ∧ y.name = "<init>" ∧ (Cond.instanceMethod y).before args s = true)
    (hE : CtE E A s s.heap) (hS : va_S A s.heap H locs) (hA : ∀ q, s.heap.size ≤ q → A q) (hP : va_P (eD E) vwCl w H) (hD : va_D A w) (isC isR : List Nat) (hC : isC.map (fun i => w[i]?) = wc.map some) (hR : isR.map (fun i => w[i]?) = wr.map some) (hnC : va_nd isC = true) (hnR : va_nd isR = true) (hdis : ∀ i ∈ isR, i ∉ isC)
    (hn : As.length = n) (hsize : ls.size = nL) (hst : st0 = As.reverse ++ .ref b :: rest) (hW : (rest.map fun v => v.category).sum ≤ 8) (hdg : decode cc pc = .ok (.invokespecial index, 3)) (hf : cells + mc ≤ R.cells ∧ slots + ms ≤ R.slots)
    (kk : ∀ (u : S) (H1 : Heap) (locs1 : List Loc), post u → va_P (eD E) vwCl (wr ++ w1 u) H1 → va_D A (wr ++ w1 u) → va_S A s.heap H1 locs1 → W p l e R s m args below meth c H1 locs1 (cells + mc) (slots + ms) Q (F0 m (pc + 3) ls rest)) : W p l e R s m args below meth c H locs cells slots Q (F0 m pc ls st0) := by
  have hPc : va_P (eD E) vwCl wc H := hP.sub isC (fm_of_map hC)
  have hDc := hD.sub isC hnC hC
  have hFc := va_free hD hS hA isC hC
  refine va_callv (va_runI S0 hM cw ⟨CtP.blind, fun U hU hW => ⟨rfl, by rw [hU], ⟨by rw [hU]; exact EN.warm hW ((hE.1.kept hS.2.1).narrow hFc), va_AO.moved hW.alike hE.2.1, va_AO.moved hW.alike hE.2.2⟩, by rw [hU]; exact hPc, hDc.weaken (fun _ _ _ _ => trivial)⟩⟩ rfl hn hsize hst (lv_room hW) hdg hf) hS (fun q _ h => hFc q h) hFc (fun u t H1 locs1 ht hvm hw hB hz1 hk1 hS1 => ?_)
  obtain ⟨hP1, hD1⟩ := hB
  rw [ht] at hP1
  obtain ⟨hP2, hD2⟩ := va_join hP hD isC isR hC hR hnR hdis hk1 hFc hP1 hD1
  exact kk u H1 locs1 hw hP2 hD2 hS1
theorem ct_IN {S : Type} {post : S → Prop} {w1 : S → va_W} {wc wr : va_W} (S0 : CallFix p m c cc nL s args Ts own)
    (hM : Met l y ws rm (CtP E H.size (.ref b :: As) wc) (va_Qv post (MtB E (va_A wc H.size) w1) (va_A wc H.size)) mc ms (va_A wc H.size)) (cw : va_CN R s args own index y host bytes maxL none ws rm mc ms n ∧ y.name = "<init>" ∧ (Cond.instanceMethod y).before args s = true)
    (hE : CtE E A s s.heap) (hS : va_S A s.heap H locs) (hA : ∀ q, s.heap.size ≤ q → A q) (hP : va_P (eD E) vwCl w H) (hD : va_D A w) (isC isR : List Nat) (hC : isC.map (fun i => w[i]?) = wc.map some) (hR : isR.map (fun i => w[i]?) = wr.map some) (hnC : va_nd isC = true) (hnR : va_nd isR = true) (hdis : ∀ i ∈ isR, i ∉ isC)
    (hn : As.length = n) (hsize : ls.size = nL) (hst : st0 = As.reverse ++ .ref b :: rest) (hW : (rest.map fun v => v.category).sum ≤ 8) (hdg : decode cc pc = .ok (.invokespecial index, 3)) (hf : cells + mc ≤ R.cells ∧ slots + ms ≤ R.slots)
    (kk : ∀ (u : S) (H1 : Heap) (locs1 : List Loc), post u → va_P (eD E) vwCl (wr ++ w1 u) H1 → va_D A (wr ++ w1 u) → va_S A s.heap H1 locs1 → W p l e R s m args below meth c H1 locs1 (cells + mc) (slots + ms) Q (F0 m (pc + 3) ls rest)) : W p l e R s m args below meth c H locs cells slots Q (F0 m pc ls st0) := by
  have hPc : va_P (eD E) vwCl wc H := hP.sub isC (fm_of_map hC)
  have hDc := hD.sub isC hnC hC
  have hFc := va_free hD hS hA isC hC
  refine va_callv (va_runIN S0 hM cw ⟨CtP.blind, fun U hU hW => ⟨rfl, by rw [hU], ⟨by rw [hU]; exact EN.warm hW ((hE.1.kept hS.2.1).narrow hFc), va_AO.moved hW.alike hE.2.1, va_AO.moved hW.alike hE.2.2⟩, by rw [hU]; exact hPc, hDc.weaken (fun _ _ _ _ => trivial)⟩⟩ rfl hn hsize hst (lv_room hW) hdg hf) hS (fun q _ h => hFc q h) hFc (fun u t H1 locs1 ht hvm hw hB hz1 hk1 hS1 => ?_)
  obtain ⟨hP1, hD1⟩ := hB
  rw [ht] at hP1
  obtain ⟨hP2, hD2⟩ := va_join hP hD isC isR hC hR hnR hdis hk1 hFc hP1 hD1
  exact kk u H1 locs1 hw hP2 hD2 hS1
end CT
abbrev v00 : Vf := fun _ _ => 0
theorem pr_00 : PlanR v00 := by
  refine ⟨⟨?_, ?_⟩, ⟨?_, ?_⟩, ⟨?_, ?_⟩, ?_, ?_, ?_, ?_⟩ <;> intro j hj <;> first | exact (by decide : -9 ≤ (0 : Int32).toInt ∧ (0 : Int32).toInt ≤ 9) | exact (by decide : 0 ≤ (0 : Int32).toInt ∧ (0 : Int32).toInt ≤ 1000) | exact (by decide : 0 ≤ (0 : Int32).toInt ∧ (0 : Int32).toInt ≤ 23)
theorem st_00 : StateI (up2 v00 6 0 20) := ⟨(by decide : 0 ≤ (0 : Int32).toInt ∧ (0 : Int32).toInt ≤ 900100), (fun _ _ => (by decide : 0 ≤ (0 : Int32).toInt ∧ (0 : Int32).toInt ≤ 8)), (by decide : 0 ≤ (0 : Int32).toInt ∧ (0 : Int32).toInt ≤ 23)⟩
abbrev vtg : Vf := up2 (up2 v00 2 0 (-1)) 304 0 1
theorem tg_00 : TgI vtg ∧ SgI (vtg 401 0) (vtg 402) (vtg 403) (vtg 408 0) := ⟨⟨(by decide : 0 ≤ (0 : Int32).toInt ∧ (0 : Int32).toInt ≤ 250), (by decide : 0 ≤ (0 : Int32).toInt ∧ (0 : Int32).toInt ≤ 30)⟩, (by decide : 0 ≤ (0 : Int32).toInt ∧ (0 : Int32).toInt ≤ 12), (fun _ _ => (by decide : 0 ≤ (0 : Int32).toInt ∧ (0 : Int32).toInt ≤ 23)), (fun _ _ => (by decide : 0 ≤ (0 : Int32).toInt ∧ (0 : Int32).toInt ≤ 999)), (by decide : 0 ≤ (0 : Int32).toInt ∧ (0 : Int32).toInt ≤ 23)⟩
abbrev vmd : Vf := up2 (up2 (up2 (up2 (up2 v00 22 0 1) 29 0 20) 33 0 (-1)) 62 0 (-1)) 0 0 0
theorem im_00 (i : Nat) : imI (fun _ => 0) i := ⟨(fun _ _ => (by decide : 0 ≤ (0 : Int32).toInt ∧ (0 : Int32).toInt ≤ 90)), (fun _ _ => (by decide : 0 ≤ (0 : Int32).toInt ∧ (0 : Int32).toInt ≤ 999)), (by decide : 0 ≤ (0 : Int32).toInt ∧ (0 : Int32).toInt ≤ 900000), (by decide : 0 ≤ (0 : Int32).toInt ∧ (0 : Int32).toInt ≤ 23), (by decide : 0 ≤ (0 : Int32).toInt ∧ (0 : Int32).toInt ≤ 99), (by decide : 0 ≤ (0 : Int32).toInt)⟩
theorem bn_00 (n : Nat) (lo hi : Int) (h : lo ≤ 0 ∧ 0 ≤ hi) : bnd (fun _ => 0) n lo hi := fun _ _ => h
theorem md_00 : MdI vmd := by
  have z : (0 : Int32).toInt = 0 := by decide
  refine ⟨⟨⟨?_, ?_, ?_⟩, ⟨?_, ?_, ?_, ?_, ?_, ?_⟩, Or.inr ⟨z, z, z, z, z, z⟩, ⟨bn_00 3 0 9 (by decide), Or.inl z, (fun j hj => absurd (show (j : Int) < (0 : Int32).toInt from hj) (by rw [z]; omega)), bn_00 27 (-9) 9 (by decide)⟩, ⟨bn_00 6 0 23 (by decide), bn_00 6 0 23 (by decide), bn_00 5 0 23 (by decide), Or.inl z, (fun j hj => absurd (show (j : Int) < (0 : Int32).toInt from hj) (by rw [z]; omega))⟩, ⟨?_, bn_00 3 0 999 (by decide), bn_00 24 0 90 (by decide), ?_, ?_, ?_⟩, ⟨?_, ?_, bn_00 12 0 23 (by decide), bn_00 12 0 999 (by decide), ?_⟩⟩, rfl, im_00 0, im_00 40, bn_00 27 (-9) 9 (by decide), bn_00 6 0 23 (by decide), bn_00 6 0 23 (by decide), bn_00 5 0 23 (by decide)⟩
  · exact (by decide : 0 ≤ (0 : Int32).toInt ∧ (0 : Int32).toInt ≤ 6)
  · exact (by decide : 0 ≤ (0 : Int32).toInt ∧ (0 : Int32).toInt ≤ 6)
  · exact (by decide : (0 : Int32).toInt * (0 : Int32).toInt ≤ 24)
  · exact (by decide : 0 ≤ (0 : Int32).toInt ∧ (0 : Int32).toInt ≤ 3)
  · exact (by decide : 0 ≤ (0 : Int32).toInt ∧ (0 : Int32).toInt ≤ 6)
  · exact (by decide : 0 ≤ (0 : Int32).toInt ∧ (0 : Int32).toInt ≤ 6)
  · exact (by decide : 0 ≤ (0 : Int32).toInt ∧ (0 : Int32).toInt ≤ 5)
  · exact (by decide : 0 ≤ (0 : Int32).toInt ∧ (0 : Int32).toInt ≤ 4)
  · exact (by decide : 1 ≤ (1 : Int32).toInt ∧ (1 : Int32).toInt ≤ 729)
  · exact (by decide : 0 ≤ (0 : Int32).toInt ∧ (0 : Int32).toInt ≤ 900000)
  · exact (by decide : 0 ≤ (0 : Int32).toInt ∧ (0 : Int32).toInt ≤ 23)
  · exact (by decide : 0 ≤ (20 : Int32).toInt ∧ (20 : Int32).toInt ≤ 99)
  · exact (by decide : 0 ≤ (0 : Int32).toInt)
  · exact (by decide : 0 ≤ (0 : Int32).toInt ∧ (0 : Int32).toInt ≤ 250)
  · exact (by decide : 0 ≤ (0 : Int32).toInt ∧ (0 : Int32).toInt ≤ 12)
  · exact (by decide : 0 ≤ (0 : Int32).toInt ∧ (0 : Int32).toInt ≤ 30)
