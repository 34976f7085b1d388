/-! ===== least pushed: both sides' tables ===== -/
theorem go_bes {v : Vf} {c w t : Int32} (hG : mdG v) (hW : 1 ≤ (v 0 0).toInt) (hc : cW v c) (h : 0 ≤ (mGo v c w t).toInt) : mGo v c w t = mBes v c w := by
  have e : mGo v c w t = if w = 0 then c else if (mBes v c w).toInt < 0 then mBes v c w else if mBar v c (mBes v c w) t ≠ 0 ∨ v 29 0 < mH v (mBes v c w) t - mH v c t then -1 else mBes v c w := rfl
  by_cases q : w = 0
  · rw [e, if_pos q, q, bes_0 hG hW hc]
  · rw [e, if_neg q] at h
    rw [e, if_neg q]
    by_cases q2 : (mBes v c w).toInt < 0
    · rw [if_pos q2]
    · rw [if_neg q2] at h
      rw [if_neg q2]
      by_cases q3 : mBar v c (mBes v c w) t ≠ 0 ∨ v 29 0 < mH v (mBes v c w) t - mH v c t
      · rw [if_pos q3] at h
        exact absurd h (by decide)
      · rw [if_neg q3]
theorem rb_cg {v : Vf} {c w tm : Int32} {f g : Int32 → Int32} (hG : mdG v) (hc : cW v c) (h : ∀ x, cW v x → f x = g x) : rbV v c w tm f = rbV v c w tm g := by
  unfold rbV
  by_cases q : (mGo v c w tm).toInt < 0
  · rw [if_pos q, if_pos q]
  · rw [if_neg q, if_neg q, h _ (go_cW2 hG hc (by omega))]
theorem rs_goal {v : Vf} {b t : Int32} {N m : Nat} : rsV v b t N m b = 0 := by
  cases m with
  | zero => exact if_pos rfl
  | succ m => exact if_pos rfl
theorem rs_one {v : Vf} {b t c : Int32} {N : Nat} (h : (rsV v b t N 0 c).toInt < 1000000000) : c = b := by
  by_cases q : c = b
  · exact q
  · have e : rsV v b t N 0 c = 1000000000 := if_neg q
    rw [e] at h
    exact absurd h (by decide)
theorem ck_eq {v : Vf} {b t tm k c : Int32} {N : Nat} (hk : 0 ≤ k.toInt ∧ k.toInt < (N : Int)) (htm : tm = t + k + 1) (hne : c ≠ b) : ckV v b t N k.toNatClampNeg c = chV v c tm (rsV v b t N (N - (k.toNatClampNeg + 1))) 5 ∧ rsV v b t N (N - k.toNatClampNeg) c = mnV v c tm (rsV v b t N (N - (k.toNatClampNeg + 1))) 5 := by
  have hkn := i_nat hk.1
  have e : N - k.toNatClampNeg = (N - (k.toNatClampNeg + 1)) + 1 := by omega
  have e2 : N - ((N - (k.toNatClampNeg + 1)) + 1) = k.toNatClampNeg := by omega
  refine ⟨?_, ?_⟩
  · show (if c = b then (0 : Int32) else chV v c (t + Int32.ofNat k.toNatClampNeg + 1) (rsV v b t N (N - (k.toNatClampNeg + 1))) 5) = _
    rw [if_neg hne, i_ofN hk.1, htm]
  · rw [e]
    show (if c = b then (0 : Int32) else mnV v c (t + Int32.ofNat (N - ((N - (k.toNatClampNeg + 1)) + 1)) + 1) (rsV v b t N (N - (k.toNatClampNeg + 1))) 5) = _
    rw [if_neg hne, e2, i_ofN hk.1, htm]
/-- one step of the way: the chosen way is one that the cart can go -/
theorem ck_go {v : Vf} {b t tm k c : Int32} {N : Nat} (hH : MdH v) (hW : 1 ≤ (v 0 0).toInt) (hN : N ≤ 40) (ht : 0 ≤ t.toInt ∧ t.toInt ≤ 900000) (hk : 0 ≤ k.toInt ∧ k.toInt < (N : Int)) (htm : tm = t + k + 1) (hc : cW v c) (hne : c ≠ b) (hr : (rsV v b t N (N - k.toNatClampNeg) c).toInt < 1000000000) : (0 ≤ (ckV v b t N k.toNatClampNeg c).toInt ∧ (ckV v b t N k.toNatClampNeg c).toInt ≤ 4) ∧ 0 ≤ (mGo v c (ckV v b t N k.toNatClampNeg c) tm).toInt ∧ (rsV v b t N (N - (k.toNatClampNeg + 1)) (mGo v c (ckV v b t N k.toNatClampNeg c) tm)).toInt < 1000000000 := by
  have n1 : (1 : Int32).toInt = 1 := by decide
  have hkn := i_nat hk.1
  have t1 := i_add (z := t + k) rfl (by omega)
  have t2 := i_add (z := t + k + 1) rfl (by omega)
  have e := ck_eq (v := v) (b := b) (c := c) hk htm hne
  rw [e.2] at hr
  obtain ⟨⟨m, m1, m2, m3, -⟩, -⟩ := ch_first (v := v) (c := c) (tm := tm) (f := rsV v b t N (N - (k.toNatClampNeg + 1))) 5 (by omega) hr
  have o := ofN_t (n := m) (by omega)
  rw [e.1, m2]
  rw [← m3] at hr
  have z := (rb_b (j := N - (k.toNatClampNeg + 1)) hH hW (by omega) hc (by rw [htm]; omega) (rs_b hH hW hN ht (N - (k.toNatClampNeg + 1)) (by omega))).2.2 hr
  exact ⟨by omega, z.2.1, z.2.2.1⟩
/-- the class's step over the ways -/
theorem mn_cls {v : Vf} {c tm best bw way way2 x y there push gv : Int32} {f : Int32 → Int32} {j : Nat} (hH : MdH v) (hW : 1 ≤ (v 0 0).toInt) (hj : j ≤ 40) (hc : cW v c) (ht : 0 ≤ tm.toInt ∧ tm.toInt ≤ 2000000) (hf : rsB v j f) (h : best = mnV v c tm f way.toNatClampNeg ∧ bw = chV v c tm f way.toNatClampNeg) (h0 : 0 ≤ way.toInt) (h2 : way2.toInt = way.toInt + 1) (hp : PuP v c way there tm push) (hg : cW v there → gv = f there) (hz : (push.toInt = -1 ∧ x = best ∧ y = bw) ∨ (push.toInt ≠ -1 ∧ ¬ (push + gv).toInt < best.toInt ∧ x = best ∧ y = bw) ∨ (push.toInt ≠ -1 ∧ (push + gv).toInt < best.toInt ∧ x = push + gv ∧ y = way)) : x = mnV v c tm f way2.toNatClampNeg ∧ y = chV v c tm f way2.toNatClampNeg := by
  rw [i_nat1 h0 h2]
  have nf : (1000000000 : Int32).toInt = 1000000000 := by decide
  have bb := mn_b hH hW hj hc ht hf way.toNatClampNeg
  rw [← h.1] at bb
  have key : ((rbV v c way tm f).toInt < best.toInt ∧ push.toInt ≠ -1 ∧ rbV v c way tm f = push + gv ∧ (push + gv).toInt < best.toInt) ∨ (¬ (rbV v c way tm f).toInt < best.toInt ∧ (push.toInt = -1 ∨ ¬ (push + gv).toInt < best.toInt)) := by
    rcases hp with ⟨p1, p2⟩ | ⟨p1, p2, p3, p4⟩
    · have e : rbV v c way tm f = 1000000000 := if_pos (by omega)
      exact Or.inr ⟨by rw [e]; omega, Or.inl p2⟩
    · have g : cW v there := by
        rw [← p1]
        exact go_cW2 hH.1 hc (by rw [p1]; exact p2)
      have eg := hg g
      have b := hf there g
      have h24 := hH.1.2.2
      have g2 := g.2
      have c2 := hc.2
      have kk := mCost_b (a := c) (c := there) hH hW ⟨hc.1, by omega⟩ ⟨g.1, by omega⟩ ht
      rw [← p3] at kk
      rw [← eg] at b
      have s := i_add (z := push + gv) rfl (by omega)
      by_cases q : gv.toInt < 1000000000
      · have e : rbV v c way tm f = push + gv := by
          unfold rbV
          rw [p1, if_neg (by omega), ← eg, if_pos q, ← p3]
          exact Int32.add_comm _ _
        rw [e]
        by_cases q2 : (push + gv).toInt < best.toInt
        · exact Or.inl ⟨q2, by omega, rfl, q2⟩
        · exact Or.inr ⟨q2, Or.inr q2⟩
      · have e : rbV v c way tm f = 1000000000 := by
          unfold rbV
          rw [p1, if_neg (by omega), ← eg, if_neg q]
        exact Or.inr ⟨by rw [e]; omega, Or.inr (by omega)⟩
  show x = (if (rbV v c (Int32.ofNat way.toNatClampNeg) tm f).toInt < (mnV v c tm f way.toNatClampNeg).toInt then rbV v c (Int32.ofNat way.toNatClampNeg) tm f else mnV v c tm f way.toNatClampNeg) ∧ y = (if (rbV v c (Int32.ofNat way.toNatClampNeg) tm f).toInt < (mnV v c tm f way.toNatClampNeg).toInt then Int32.ofNat way.toNatClampNeg else chV v c tm f way.toNatClampNeg)
  rw [i_ofN h0, ← h.1, ← h.2]
  rcases key with ⟨k1, k2, k3, k4⟩ | ⟨k1, k2⟩
  · rw [if_pos k1, if_pos k1, k3]
    rcases hz with ⟨a, b, d⟩ | ⟨a, a2, b, d⟩ | ⟨a, a2, b, d⟩
    · exact absurd a k2
    · exact absurd k4 a2
    · exact ⟨b, d⟩
  · rw [if_neg k1, if_neg k1]
    rcases hz with ⟨a, b, d⟩ | ⟨a, a2, b, d⟩ | ⟨a, a2, b, d⟩
    · exact ⟨b, d⟩
    · exact ⟨b, d⟩
    · exact k2.elim (fun q => absurd q a) (fun q => absurd a2 q)
theorem ch_end {v : Vf} {k b tm best bw way bb : Int32} {f : Int32 → Int32} (h : best = mnV v k tm f way.toNatClampNeg ∧ bw = chV v k tm f way.toNatClampNeg) (hb : bb = if k = b then 0 else best) (hz : k.toInt = b.toInt → bw.toInt = 0) (hw : way.toInt = 5 ∨ k = b) : bb = (if k = b then 0 else mnV v k tm f 5) ∧ bw = (if k = b then 0 else chV v k tm f 5) := by
  by_cases q : k = b
  · rw [if_pos q] at hb
    rw [if_pos q, if_pos q]
    exact ⟨hb, i_eqr (hz (by rw [q]))⟩
  · rw [if_neg q] at hb
    rw [if_neg q, if_neg q]
    have w := hw.resolve_right q
    have e : way.toNatClampNeg = 5 := by
      show way.toInt.toNat = 5
      omega
    rw [e] at h
    exact ⟨hb.trans h.1, h.2⟩
/-! the class's tables -/
def TbA (v : Vf) (b t : Int32) (N m : Nat) (hi : Int) (g : Nat → Int32) : Prop := ∀ c : Int32, cW v c → c.toInt < hi → g c.toNatClampNeg = rsV v b t N m c
def TbC (v : Vf) (b t : Int32) (N : Nat) (i hi : Int) (g : Nat → Int32) : Prop := ∀ k : Nat, i ≤ (k : Int) → k < N → ∀ c : Int32, cW v c → (i < (k : Int) ∨ c.toInt < hi) → g (24 * k + c.toNatClampNeg) = ckV v b t N k c
theorem tb_zero {v : Vf} {b t z : Int32} {N m : Nat} {g : Nat → Int32} (h : z.toInt = 0) : TbA v b t N m z.toInt g := fun c hc q => absurd q (by have := hc.1; omega)
theorem cW_nat {v : Vf} {c d : Int32} (hc : 0 ≤ c.toInt) (hd : 0 ≤ d.toInt) (h : c ≠ d) : c.toNatClampNeg ≠ d.toNatClampNeg := fun q => h (i_eqr (by
  have a := i_nat hc
  have b := i_nat hd
  omega))
theorem tb_put0 {v : Vf} {b t k k2 cv : Int32} {N : Nat} {g g' : Nat → Int32} (h : TbA v b t N 0 k.toInt g) (h0 : 0 ≤ k.toInt) (h2 : k2.toInt = k.toInt + 1) (hv : cv = if k = b then (0 : Int32) else 1000000000) (eg : upd g k.toNatClampNeg cv = g') : TbA v b t N 0 k2.toInt g' := fun c hc q => by
  rw [← eg]
  by_cases e : c = k
  · rw [e, updA, hv]
    rfl
  · rw [updN (cW_nat (v := v) hc.1 h0 e)]
    exact h c hc (by have := i_ne e; omega)
theorem tb_wide {v : Vf} {b t : Int32} {N m : Nat} {hi lo : Int} {g : Nat → Int32} (h : TbA v b t N m hi g) (hh : (v 0 0).toInt * (v 1 0).toInt ≤ hi) : TbA v b t N m lo g := fun c hc _ => h c hc (by have := hc.2; omega)
theorem tb_widc {v : Vf} {b t : Int32} {N : Nat} {i hi lo : Int} {g : Nat → Int32} (h : TbC v b t N i hi g) (hh : (v 0 0).toInt * (v 1 0).toInt ≤ hi) : TbC v b t N i lo g := fun k a b' c hc _ => h k a b' c hc (Or.inr (by have := hc.2; omega))
theorem tb_down {v : Vf} {b t z : Int32} {N : Nat} {i : Int} {g : Nat → Int32} (h : TbC v b t N (i + 1) 24 g) (h24 : (v 0 0).toInt * (v 1 0).toInt ≤ 24) (hz : z.toInt = 0) : TbC v b t N i z.toInt g := fun k a b' c hc q => h k (by have := hc.1; omega) b' c hc (Or.inr (by have := hc.2; omega))
theorem tb_next {v : Vf} {b t tm i kk kk2 : Int32} {N : Nat} {g h g' h' : Nat → Int32} (hi : 0 ≤ i.toInt ∧ i.toInt < (N : Int)) (etm : tm = t + i + 1) (hk : 0 ≤ kk.toInt) (h2 : kk2.toInt = kk.toInt + 1) (h24 : (v 0 0).toInt * (v 1 0).toInt ≤ 24) (hkc : cW v kk) (hA : TbA v b t N (N - i.toInt.toNat) kk.toInt g) (hC : TbC v b t N i.toInt kk.toInt h)
    (e : g' = upd g kk.toNatClampNeg (if kk = b then 0 else mnV v kk tm (rsV v b t N (N - (i.toNatClampNeg + 1))) 5) ∧ h' = upd h (24 * i.toNatClampNeg + kk.toNatClampNeg) (if kk = b then 0 else chV v kk tm (rsV v b t N (N - (i.toNatClampNeg + 1))) 5)) : TbA v b t N (N - i.toInt.toNat) kk2.toInt g' ∧ TbC v b t N i.toInt kk2.toInt h' := by
  have hin := i_nat hi.1
  have ei : i.toInt.toNat = i.toNatClampNeg := rfl
  rw [ei] at hA ⊢
  refine ⟨fun c hc q => ?_, fun k a b' c hc q => ?_⟩
  · rw [e.1]
    by_cases z : c = kk
    · rw [z, updA]
      by_cases y : kk = b
      · rw [if_pos y, y, rs_goal]
      · rw [if_neg y, (ck_eq (v := v) hi etm y).2]
    · rw [updN (cW_nat (v := v) hc.1 hk z)]
      exact hA c hc (by have := i_ne z; omega)
  · rw [e.2]
    have c2 := hc.2
    have cn := i_nat hc.1
    have kn := i_nat hk
    have k2 := hkc.2
    by_cases z : k = i.toNatClampNeg ∧ c = kk
    · rw [z.1, z.2, updA]
      by_cases y : kk = b
      · rw [if_pos y]
        exact (if_pos y).symm
      · rw [if_neg y, (ck_eq (v := v) hi etm y).1]
    · have ne : 24 * k + c.toNatClampNeg ≠ 24 * i.toNatClampNeg + kk.toNatClampNeg := fun y => z ⟨by omega, i_eqr (by omega)⟩
      rw [updN ne]
      refine hC k a b' c hc ?_
      by_cases y : k = i.toNatClampNeg
      · have nz : c ≠ kk := fun u => z ⟨y, u⟩
        have := i_ne nz
        exact Or.inr (by omega)
      · exact Or.inl (by omega)
/-! the class's walk along the ways -/
def PcQ (v : Vf) (a b t : Int32) (N : Nat) (j k : Int32) : Prop := k = pcV v a b t N j.toNatClampNeg ∧ cW v k ∧ (∀ m, m < j.toNatClampNeg → pcV v a b t N m ≠ b) ∧ (rsV v b t N (N - j.toNatClampNeg) k).toInt < 1000000000
theorem pcq_0 {v : Vf} {a b t z : Int32} {N : Nat} (hc : cW v a) (hr : (rsV v b t N N a).toInt < 1000000000) (hz : z.toInt = 0) : PcQ v a b t N z a := by
  have e : z.toNatClampNeg = 0 := by
    show z.toInt.toNat = 0
    omega
  unfold PcQ
  rw [e]
  exact ⟨rfl, hc, fun m q => absurd q (Nat.not_lt_zero _), hr⟩
theorem pcq_go {v : Vf} {a b t j k j2 w : Int32} {N : Nat} (hH : MdH v) (hW : 1 ≤ (v 0 0).toInt) (hN : N ≤ 40) (ht : 0 ≤ t.toInt ∧ t.toInt ≤ 900000) (hQ : PcQ v a b t N j k) (hj : 0 ≤ j.toInt ∧ j.toInt < (N : Int)) (hne : k ≠ b) (ew : w = ckV v b t N j.toNatClampNeg k) (h2 : j2.toInt = j.toInt + 1) : (0 ≤ w.toInt ∧ w.toInt ≤ 4) ∧ 0 ≤ (mGo v k w (t + j + 1)).toInt ∧ PcQ v a b t N j2 (mGo v k w (t + j + 1)) := by
  obtain ⟨q1, q2, q3, q4⟩ := hQ
  have g := ck_go hH hW hN ht hj (tm := t + j + 1) rfl q2 hne q4
  rw [← ew] at g
  refine ⟨g.1, g.2.1, ?_⟩
  unfold PcQ
  rw [i_nat1 hj.1 h2]
  refine ⟨?_, go_cW2 hH.1 q2 g.2.1, fun m hm => ?_, g.2.2⟩
  · show _ = mGo v (pcV v a b t N j.toNatClampNeg) (ckV v b t N j.toNatClampNeg (pcV v a b t N j.toNatClampNeg)) (t + Int32.ofNat j.toNatClampNeg + 1)
    rw [← q1, ← ew, i_ofN hj.1]
  · by_cases y : m = j.toNatClampNeg
    · rw [y, ← q1]
      exact hne
    · exact q3 m (by omega)
theorem pcq_next {v : Vf} {a b t j k j2 w there : Int32} {N : Nat} {g : Nat → Int32} (hH : MdH v) (hW : 1 ≤ (v 0 0).toInt) (hN : N ≤ 40) (ht : 0 ≤ t.toInt ∧ t.toInt ≤ 900000) (hQ : PcQ v a b t N j k) (hT : TbC v b t N 0 24 g) (hj : 0 ≤ j.toInt ∧ j.toInt < (N : Int)) (hne : k ≠ b) (ew : w = g (24 * j.toNatClampNeg + k.toNatClampNeg)) (hb : 0 ≤ w.toInt ∧ w.toInt ≤ 4 → there = mBes v k w) (h2 : j2.toInt = j.toInt + 1) : PcQ v a b t N j2 there := by
  have jn := i_nat hj.1
  have h24 := hH.1.2.2
  have kc := hQ.2.1
  have k2 := kc.2
  have e := ew.trans (hT j.toNatClampNeg (by omega) (by omega) k kc (Or.inr (by omega)))
  have z := pcq_go hH hW hN ht hQ hj hne e h2
  rw [hb z.1, ← go_bes hH.1 hW kc z.2.1]
  exact z.2.2
theorem way_none {v : Vf} {a b t i j k r : Int32} {N : Nat} (hQ : PcQ v a b t N j k) (hj : 0 ≤ j.toInt ∧ j.toInt ≤ (N : Int)) (hi : i.toInt < 0 ∨ j.toInt ≤ i.toInt) (hz : (N : Int) ≤ j.toInt ∨ k = b ∨ k.toInt = -1) (hr : r.toInt = -1) : WayR v a b t N i r := by
  obtain ⟨q1, q2, q3, q4⟩ := hQ
  have jn := i_nat hj.1
  have kb : k = b := by
    rcases hz with z | z | z
    · have e : N - j.toNatClampNeg = 0 := by omega
      rw [e] at q4
      exact rs_one q4
    · exact z
    · have := q2.1
      omega
  by_cases y : i.toInt < 0
  · exact Or.inl ⟨y, hr⟩
  · have i1 := i_nat (x := i) (by omega)
    exact Or.inr (Or.inl ⟨by omega, ⟨j.toNatClampNeg, by omega, by rw [← q1]; exact kb, q3⟩, hr⟩)
theorem way_at {v : Vf} {a b t i j k w : Int32} {N : Nat} {g : Nat → Int32} (h24 : (v 0 0).toInt * (v 1 0).toInt ≤ 24) (hQ : PcQ v a b t N j k) (hT : TbC v b t N 0 24 g) (hj : 0 ≤ j.toInt ∧ j.toInt < (N : Int)) (hne : k ≠ b) (ew : w = g (24 * j.toNatClampNeg + k.toNatClampNeg)) (e : j = i) : WayR v a b t N i w := by
  obtain ⟨q1, q2, q3, q4⟩ := hQ
  have jn := i_nat hj.1
  have k2 := q2.2
  rw [← e]
  refine Or.inr (Or.inr ⟨hj.1, fun m hm => ?_, ?_⟩)
  · by_cases y : m = j.toNatClampNeg
    · rw [y, ← q1]
      exact hne
    · exact q3 m (by omega)
  · rw [← q1]
    exact ew.trans (hT j.toNatClampNeg (by omega) (by omega) k q2 (Or.inr (by omega)))
/-! the reference -/
theorem go_r {v w : Vf} {c way t : Int32} (h : ∀ t, t ≠ 63 → w t = v t) : mGo w c way t = mGo v c way t := by rw [mGo_c h]
theorem mrb_rb {v w : Vf} {k c way t : Int32} (hs : ∀ t, t ≠ 63 → w t = v t) (hG : mdG v) (hk : 0 ≤ k.toInt ∧ k.toInt ≤ 39) (hc : cW v c) : mRB w k c way t = rbV v c way (t + k + 1) (fun x => w 63 (24 * (k.toNatClampNeg + 1) + x.toNatClampNeg)) := by
  have n0 : (0 : Int32).toInt = 0 := by decide
  have nf : (1000000000 : Int32).toInt = 1000000000 := by decide
  unfold mRB rbV
  rw [mGo_c hs]
  by_cases q : (mGo v c way (t + k + 1)).toInt < 0
  · rw [if_pos q, if_pos (Int32.lt_iff_toInt_lt.mpr (by omega))]
  · have g := go_cW2 hG hc (show 0 ≤ (mGo v c way (t + k + 1)).toInt by omega)
    have g2 := g.2
    have h24 := hG.2.2
    rw [if_neg q, if_neg (fun z => q (by have := i_lt z; omega)), idx25 hk ⟨g.1, by omega⟩, mCost_c hs]
    by_cases y : (w 63 (24 * (k.toNatClampNeg + 1) + (mGo v c way (t + k + 1)).toNatClampNeg)).toInt < 1000000000
    · rw [if_pos (Int32.lt_iff_toInt_lt.mpr (by omega)), if_pos y]
    · rw [if_neg (fun z => y (by have := i_lt z; omega)), if_neg y]
def RsM (v : Vf) (b t : Int32) (N : Nat) (k hi : Int) (g : Nat → Int32) : Prop := ∀ m : Nat, m ≤ N → ∀ c : Int32, cW v c → (k < (m : Int) ∨ ((m : Int) = k ∧ c.toInt < hi)) → g (24 * m + c.toNatClampNeg) = rsV v b t N (N - m) c
theorem rb_tab {v w : Vf} {b t k c way : Int32} {N : Nat} {hi : Int} (hs : ∀ t, t ≠ 63 → w t = v t) (hG : mdG v) (hk : 0 ≤ k.toInt ∧ k.toInt < (N : Int)) (hN : N ≤ 40) (hc : cW v c) (h : RsM v b t N k.toInt hi (w 63)) : mRB w k c way t = rbV v c way (t + k + 1) (rsV v b t N (N - (k.toNatClampNeg + 1))) := by
  have kn := i_nat hk.1
  rw [mrb_rb hs hG ⟨hk.1, by omega⟩ hc]
  exact rb_cg hG hc (fun x hx => h (k.toNatClampNeg + 1) (by omega) x hx (Or.inl (by omega)))
theorem rsm_0 {v : Vf} {b t n z : Int32} {g : Nat → Int32} (hn : 0 ≤ n.toInt) (hz : z.toInt = 0) : RsM v b t n.toNatClampNeg n.toInt z.toInt g := fun m hm c hc q => by
  have nn := i_nat hn
  have := hc.1
  omega
theorem rsm_down {v : Vf} {b t k k2 z : Int32} {N : Nat} {hi : Int} {g : Nat → Int32} (h : RsM v b t N k.toInt hi g) (hh : (v 0 0).toInt * (v 1 0).toInt ≤ hi) (h2 : k2.toInt = k.toInt - 1) (hz : z.toInt = 0) : RsM v b t N k2.toInt z.toInt g := fun m hm c hc q => h m hm c hc (by
  have c1 := hc.1
  have c2 := hc.2
  by_cases y : k.toInt < (m : Int)
  · exact Or.inl y
  · exact Or.inr ⟨by omega, by omega⟩)
/-- what the reference's inner loop has found of a cell's rest -/
def RsI (v : Vf) (b t : Int32) (n k c way x : Int32) : Prop := ((k.toInt < n.toInt ∧ c ≠ b) ∧ x = mnV v c (t + k + 1) (rsV v b t n.toNatClampNeg (n.toNatClampNeg - (k.toNatClampNeg + 1))) way.toNatClampNeg) ∨ (¬ (k.toInt < n.toInt ∧ c ≠ b) ∧ x = if c = b then 0 else 1000000000)
theorem rsi_0 {v : Vf} {b t n k c z x : Int32} (hz : z.toInt = 0) (hx : x = if c = b then 0 else 1000000000) : RsI v b t n k c z x := by
  have e : z.toNatClampNeg = 0 := by
    show z.toInt.toNat = 0
    omega
  by_cases q : k.toInt < n.toInt ∧ c ≠ b
  · refine Or.inl ⟨q, ?_⟩
    rw [e, hx, if_neg q.2]
    rfl
  · exact Or.inr ⟨q, hx⟩
theorem rsi_next {v w : Vf} {b t n k c way way2 x y r : Int32} {hi : Int} (hs : ∀ t, t ≠ 63 → w t = v t) (hG : mdG v) (hk : 0 ≤ k.toInt) (hn : n.toInt ≤ 40) (hc : cW v c) (hM : RsM v b t n.toNatClampNeg k.toInt hi (w 63)) (h : RsI v b t n k c way x) (hkn : k.toInt < n.toInt) (hne : c ≠ b) (h0 : 0 ≤ way.toInt) (h2 : way2.toInt = way.toInt + 1) (hr : r = mRB w k c way t) (hy : y = if r.toInt < x.toInt then r else x) : RsI v b t n k c way2 y := by
  have nn := i_nat (x := n) (by omega)
  have e := h.elim (fun q => q.2) (fun q => absurd ⟨hkn, hne⟩ q.1)
  rw [rb_tab hs hG ⟨hk, by omega⟩ (by omega) hc hM] at hr
  refine Or.inl ⟨⟨hkn, hne⟩, ?_⟩
  rw [i_nat1 h0 h2]
  show y = if (rbV v c (Int32.ofNat way.toNatClampNeg) (t + k + 1) (rsV v b t n.toNatClampNeg (n.toNatClampNeg - (k.toNatClampNeg + 1)))).toInt < (mnV v c (t + k + 1) (rsV v b t n.toNatClampNeg (n.toNatClampNeg - (k.toNatClampNeg + 1))) way.toNatClampNeg).toInt then rbV v c (Int32.ofNat way.toNatClampNeg) (t + k + 1) (rsV v b t n.toNatClampNeg (n.toNatClampNeg - (k.toNatClampNeg + 1))) else mnV v c (t + k + 1) (rsV v b t n.toNatClampNeg (n.toNatClampNeg - (k.toNatClampNeg + 1))) way.toNatClampNeg
  rw [i_ofN h0, ← hr, ← e]
  exact hy
theorem rsm_put {v : Vf} {b t n k c c2 way x : Int32} {g : Nat → Int32} (hG : mdG v) (hk : 0 ≤ k.toInt ∧ k.toInt ≤ n.toInt) (hc : cW v c) (h2 : c2.toInt = c.toInt + 1) (hM : RsM v b t n.toNatClampNeg k.toInt c.toInt g) (h : RsI v b t n k c way x) (hw : way.toInt = 5 ∨ ¬ k.toInt < n.toInt ∨ c = b) : RsM v b t n.toNatClampNeg k.toInt c2.toInt (upd g (24 * k.toNatClampNeg + c.toNatClampNeg) x) := fun m hm d hd q => by
  have kn := i_nat hk.1
  have nn := i_nat (x := n) (by omega)
  have cn := i_nat hc.1
  have dn := i_nat hd.1
  have c3 := hc.2
  have d3 := hd.2
  have h24 := hG.2.2
  by_cases z : m = k.toNatClampNeg ∧ d = c
  · rw [z.1, z.2, updA]
    rcases h with ⟨⟨a1, a2⟩, a3⟩ | ⟨a1, a2⟩
    · have w : way.toInt = 5 := by
        rcases hw with w | w | w
        · exact w
        · exact absurd a1 w
        · exact absurd w a2
      have e : way.toNatClampNeg = 5 := by
        show way.toInt.toNat = 5
        omega
      rw [e] at a3
      rw [(ck_eq (v := v) ⟨hk.1, by omega⟩ rfl a2).2]
      exact a3
    · by_cases y : c = b
      · rw [y, rs_goal, a2, if_pos y]
      · have e : n.toNatClampNeg - k.toNatClampNeg = 0 := by
          by_cases u : k.toInt < n.toInt
          · exact absurd ⟨u, y⟩ a1
          · omega
        rw [e, a2]
        rfl
  · have ne : 24 * m + d.toNatClampNeg ≠ 24 * k.toNatClampNeg + c.toNatClampNeg := fun y => z ⟨by omega, i_eqr (by omega)⟩
    rw [updN ne]
    refine hM m hm d hd ?_
    by_cases y : m = k.toNatClampNeg
    · have nz : d ≠ c := fun u => z ⟨y, u⟩
      have := i_ne nz
      exact Or.inr ⟨by omega, by omega⟩
    · exact Or.inl (by omega)
theorem ch_at {v : Vf} {b t tm k c way : Int32} {N : Nat} (hk : 0 ≤ k.toInt ∧ k.toInt < (N : Int)) (htm : tm = t + k + 1) (hne : c ≠ b) (hr : (rsV v b t N (N - k.toNatClampNeg) c).toInt < 1000000000) (hw : 0 ≤ way.toInt ∧ way.toInt ≤ 4) (hno : ∀ u : Nat, (u : Int) < way.toInt → rbV v c (Int32.ofNat u) tm (rsV v b t N (N - (k.toNatClampNeg + 1))) ≠ rsV v b t N (N - k.toNatClampNeg) c) (he : rbV v c way tm (rsV v b t N (N - (k.toNatClampNeg + 1))) = rsV v b t N (N - k.toNatClampNeg) c) : way = ckV v b t N k.toNatClampNeg c := by
  have e := ck_eq (v := v) (b := b) (c := c) hk htm hne
  rw [e.2] at hr he hno
  obtain ⟨⟨m, m1, m2, m3, m4⟩, -⟩ := ch_first (v := v) (c := c) (tm := tm) (f := rsV v b t N (N - (k.toNatClampNeg + 1))) 5 (by omega) hr
  have wn := i_nat hw.1
  rw [e.1, m2]
  by_cases y : way.toNatClampNeg < m
  · have z := m4 _ y
    rw [i_ofN hw.1, he] at z
    omega
  · by_cases y2 : m < way.toNatClampNeg
    · exact absurd m3 (hno m (by omega))
    · rw [show m = way.toNatClampNeg by omega, i_ofN hw.1]
theorem lea_nn {v : Vf} {b t a r : Int32} {N : Nat} (hH : MdH v) (hc : cW v a) (hN : N ≤ 40) (ht : 0 ≤ t.toInt ∧ t.toInt ≤ 900000) (e : r = rsV v b t N N a) : r.toInt ≠ -1 := by
  have hW := wd_pos hH.1.1.1 (show 1 ≤ (v 0 0).toInt * (v 1 0).toInt by have z1 := hc.1; have z2 := hc.2; omega)
  have q := (rs_b (b := b) hH hW hN ht N (Nat.le_refl _) a hc).1
  rw [← e] at q
  omega
