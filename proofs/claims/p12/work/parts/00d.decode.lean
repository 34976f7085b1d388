/-! what decodes, from the bytes -/
def bq (c : ByteArray) (p o : Nat) : Bool := match c.data.toList[p]? with
  | some b => Nat.beq b.toNat o
  | none => false
noncomputable def dr (l : List UInt8) : Nat → List UInt8 := List.rec (motive := fun _ => Nat → List UInt8) (fun _ => []) (fun a l ih n => Nat.rec (motive := fun _ => List UInt8) (a :: l) (fun m _ => ih m) n) l
theorem dr_drop (l : List UInt8) : ∀ p, dr l p = l.drop p := by
  induction l with
  | nil => intro p; cases p <;> rfl
  | cons a l ih =>
    intro p
    cases p with
    | zero => rfl
    | succ m => exact ih m
theorem dr_at {l r : List UInt8} {p : Nat} (h : dr l p = r) (k : Nat) : l[p + k]? = r[k]? := by rw [← h, dr_drop, List.getElem?_drop]
def c1 (r : List UInt8) (o : Nat) : Bool := match r with
  | a :: _ => Nat.beq a.toNat o
  | _ => false
def c2 (r : List UInt8) (o n : Nat) : Bool := match r with
  | a :: b :: _ => Nat.beq a.toNat o && Nat.beq b.toNat n
  | _ => false
def c2s (r : List UInt8) (o : Nat) (n : Int) : Bool := match r with
  | a :: b :: _ => Nat.beq a.toNat o && decide (Reader.signed 8 b.toNat = n)
  | _ => false
def c3 (r : List UInt8) (o n : Nat) : Bool := match r with
  | a :: b :: d :: _ => Nat.beq a.toNat o && Nat.beq (b.toNat * 256 + d.toNat) n
  | _ => false
def c3s (r : List UInt8) (o : Nat) (n : Int) : Bool := match r with
  | a :: b :: d :: _ => Nat.beq a.toNat o && decide (Reader.signed 16 (b.toNat * 256 + d.toNat) = n)
  | _ => false
def c3b (r : List UInt8) (o n : Nat) (z : Int) : Bool := match r with
  | a :: b :: d :: _ => Nat.beq a.toNat o && (Nat.beq b.toNat n && decide (Reader.signed 8 d.toNat = z))
  | _ => false
theorem bq_some {c : ByteArray} {p : Nat} {b : UInt8} (h : c.data.toList[p]? = some b) : bq c p b.toNat = true := by
  show (match c.data.toList[p]? with | some x => Nat.beq x.toNat b.toNat | none => false) = true
  rw [h]; exact Nat.beq_refl _
theorem bq_at {c : ByteArray} {p o : Nat} (h : bq c p o = true) : ∃ hp : p < c.size, (c[p]'hp).toNat = o := by
  cases c with
  | mk d =>
    cases d with
    | mk l =>
      have h : (match l[p]? with | some b => Nat.beq b.toNat o | none => false) = true := h
      split at h
      · rename_i b hb
        obtain ⟨hl, he⟩ := List.getElem?_eq_some_iff.mp hb
        refine ⟨hl, ?_⟩
        have hz : (l[p]'hl).toNat = o := by rw [he]; exact Nat.eq_of_beq_eq_true h
        exact hz
      · exact absurd h Bool.false_ne_true
theorem run_u1 {c : ByteArray} {p o : Nat} (h : bq c p o = true) : Reader.runAt (Reader.u1 : Decoder Nat) c p = .ok (o, p + 1) := by
  obtain ⟨hp, he⟩ := bq_at h
  show (dite (p < c.size) (fun h => (do set (p + 1); Pure.pure (c[p]'h).toNat : Decoder Nat)) (fun _ => throw (HasTruncated.truncated p))) c p = _
  rw [dif_pos hp]
  show Except.ok ((c[p]'hp).toNat, p + 1) = _
  rw [he]
theorem run_bind {α β : Type} {m : Decoder α} {c : ByteArray} {p a q : _} (h : Reader.runAt m c p = .ok (a, q)) (f : α → Decoder β) : Reader.runAt (m >>= f) c p = Reader.runAt (f a) c q := by
  have h : m c p = .ok (a, q) := h
  show Except.bind (m c p) (fun x => f x.1 c x.2) = f a c q
  rw [h]; rfl
theorem run_map {α β : Type} {m : Decoder α} {c : ByteArray} {p a q : _} (h : Reader.runAt m c p = .ok (a, q)) (g : α → β) : Reader.runAt (g <$> m) c p = .ok (g a, q) := by
  have h : m c p = .ok (a, q) := h
  show Except.bind (m c p) (fun x => Except.ok (g x.1, x.2)) = _
  rw [h]; rfl
theorem run_u2 {c : ByteArray} {p x y : Nat} (h1 : bq c p x = true) (h2 : bq c (p + 1) y = true) : Reader.runAt (Reader.u2 : Decoder Nat) c p = .ok (x * 256 + y, p + 2) :=
  (run_bind (run_u1 h1) _).trans ((run_bind (run_u1 h2) _).trans rfl)
theorem run_s1 {c : ByteArray} {p x : Nat} (h : bq c p x = true) : Reader.runAt (Reader.s1 : Decoder Int) c p = .ok (Reader.signed 8 x, p + 1) := run_map (run_u1 h) _
theorem run_s2 {c : ByteArray} {p x y : Nat} (h1 : bq c p x = true) (h2 : bq c (p + 1) y = true) : Reader.runAt (Reader.s2 : Decoder Int) c p = .ok (Reader.signed 16 (x * 256 + y), p + 2) := run_map (run_u2 h1 h2) _
theorem of_c1 {c : ByteArray} {p o : Nat} (h : c1 (dr c.data.toList p) o = true) : bq c p o = true := by
  unfold c1 at h; split at h
  · rename_i a t e
    exact (Nat.eq_of_beq_eq_true h) ▸ bq_some (dr_at e 0)
  · exact absurd h Bool.false_ne_true
theorem of_c2 {c : ByteArray} {p o n : Nat} (h : c2 (dr c.data.toList p) o n = true) : bq c p o = true ∧ bq c (p + 1) n = true := by
  unfold c2 at h; split at h
  · rename_i a b t e
    obtain ⟨h1, h2⟩ := (Bool.and_eq_true _ _).mp h
    exact ⟨(Nat.eq_of_beq_eq_true h1) ▸ bq_some (dr_at e 0), (Nat.eq_of_beq_eq_true h2) ▸ bq_some (dr_at e 1)⟩
  · exact absurd h Bool.false_ne_true
theorem of_c2s {c : ByteArray} {p o : Nat} {n : Int} (h : c2s (dr c.data.toList p) o n = true) : bq c p o = true ∧ ∃ x, bq c (p + 1) x = true ∧ Reader.signed 8 x = n := by
  unfold c2s at h; split at h
  · rename_i a b t e
    obtain ⟨h1, h2⟩ := (Bool.and_eq_true _ _).mp h
    exact ⟨(Nat.eq_of_beq_eq_true h1) ▸ bq_some (dr_at e 0), _, bq_some (dr_at e 1), of_decide_eq_true h2⟩
  · exact absurd h Bool.false_ne_true
theorem of_c3 {c : ByteArray} {p o n : Nat} (h : c3 (dr c.data.toList p) o n = true) : bq c p o = true ∧ ∃ x y, bq c (p + 1) x = true ∧ bq c (p + 1 + 1) y = true ∧ x * 256 + y = n := by
  unfold c3 at h; split at h
  · rename_i a b d t e
    obtain ⟨h1, h2⟩ := (Bool.and_eq_true _ _).mp h
    exact ⟨(Nat.eq_of_beq_eq_true h1) ▸ bq_some (dr_at e 0), _, _, bq_some (dr_at e 1), bq_some (dr_at e 2), Nat.eq_of_beq_eq_true h2⟩
  · exact absurd h Bool.false_ne_true
theorem of_c3s {c : ByteArray} {p o : Nat} {n : Int} (h : c3s (dr c.data.toList p) o n = true) : bq c p o = true ∧ ∃ x y, bq c (p + 1) x = true ∧ bq c (p + 1 + 1) y = true ∧ Reader.signed 16 (x * 256 + y) = n := by
  unfold c3s at h; split at h
  · rename_i a b d t e
    obtain ⟨h1, h2⟩ := (Bool.and_eq_true _ _).mp h
    exact ⟨(Nat.eq_of_beq_eq_true h1) ▸ bq_some (dr_at e 0), _, _, bq_some (dr_at e 1), bq_some (dr_at e 2), of_decide_eq_true h2⟩
  · exact absurd h Bool.false_ne_true
theorem of_c3b {c : ByteArray} {p o n : Nat} {z : Int} (h : c3b (dr c.data.toList p) o n z = true) : bq c p o = true ∧ bq c (p + 1) n = true ∧ ∃ x, bq c (p + 2) x = true ∧ Reader.signed 8 x = z := by
  unfold c3b at h; split at h
  · rename_i a b d t e
    obtain ⟨h1, h2⟩ := (Bool.and_eq_true _ _).mp h
    obtain ⟨h2, h3⟩ := (Bool.and_eq_true _ _).mp h2
    exact ⟨(Nat.eq_of_beq_eq_true h1) ▸ bq_some (dr_at e 0), (Nat.eq_of_beq_eq_true h2) ▸ bq_some (dr_at e 1), _, bq_some (dr_at e 2), of_decide_eq_true h3⟩
  · exact absurd h Bool.false_ne_true
theorem dec_of {c : ByteArray} {p o q n : Nat} {f : Nat → Decoder Instr} {i : Instr} (h : bq c p o = true) (e : Decoder.instr p = Reader.u1 >>= f) (g : Reader.runAt (f o) c (p + 1) = .ok (i, q)) (hn : q - p = n) : decode c p = .ok (i, n) := by
  have h1 : Reader.runAt (Decoder.instr p) c p = .ok (i, q) := by rw [e]; exact (run_bind (run_u1 h) f).trans g
  show Except.bind (Reader.runAt (Decoder.instr p) c p) (fun x => Except.ok (x.1, x.2 - p)) = _
  rw [h1]; show Except.ok (i, q - p) = _; rw [hn]
noncomputable def dkS : { f : Nat → Nat → Decoder Instr // ∀ p, Decoder.instr p = Reader.u1 >>= f p } := ⟨_, fun _ => rfl⟩
theorem dec0 {c : ByteArray} {p o : Nat} {f : Nat → Decoder Instr} {i : Instr} (e : Decoder.instr p = Reader.u1 >>= f) (g : f o = Pure.pure i) (h : c1 (dr c.data.toList p) o = true) : decode c p = .ok (i, 1) :=
  dec_of (of_c1 h) e (by rw [g]; rfl) (Nat.add_sub_cancel_left p 1)
theorem dec_u1 {c : ByteArray} {p o n : Nat} {f : Nat → Decoder Instr} {k : Nat → Instr} (e : Decoder.instr p = Reader.u1 >>= f) (g : f o = Reader.u1 >>= fun x => Pure.pure (k x)) (h : c2 (dr c.data.toList p) o n = true) : decode c p = .ok (k n, 2) := by
  obtain ⟨h1, h2⟩ := of_c2 h
  exact dec_of h1 e (by rw [g]; exact run_bind (run_u1 h2) _) (by show p + 1 + 1 - p = 2; omega)
theorem dec_s1 {c : ByteArray} {p o : Nat} {n : Int} {f : Nat → Decoder Instr} {k : Int → Instr} (e : Decoder.instr p = Reader.u1 >>= f) (g : f o = Reader.s1 >>= fun x => Pure.pure (k x)) (h : c2s (dr c.data.toList p) o n = true) : decode c p = .ok (k n, 2) := by
  obtain ⟨h1, x, h2, rfl⟩ := of_c2s h
  exact dec_of h1 e (by rw [g]; exact run_bind (run_s1 h2) _) (by show p + 1 + 1 - p = 2; omega)
theorem dec_u2 {c : ByteArray} {p o n : Nat} {f : Nat → Decoder Instr} {k : Nat → Instr} (e : Decoder.instr p = Reader.u1 >>= f) (g : f o = Reader.u2 >>= fun x => Pure.pure (k x)) (h : c3 (dr c.data.toList p) o n = true) : decode c p = .ok (k n, 3) := by
  obtain ⟨h1, x, y, h2, h3, rfl⟩ := of_c3 h
  exact dec_of h1 e (by rw [g]; exact run_bind (run_u2 h2 h3) _) (by show p + 1 + 2 - p = 3; omega)
theorem dec_s2 {c : ByteArray} {p o : Nat} {n : Int} {f : Nat → Decoder Instr} {k : Int → Instr} (e : Decoder.instr p = Reader.u1 >>= f) (g : f o = Reader.s2 >>= fun x => Pure.pure (k x)) (h : c3s (dr c.data.toList p) o n = true) : decode c p = .ok (k n, 3) := by
  obtain ⟨h1, x, y, h2, h3, rfl⟩ := of_c3s h
  exact dec_of h1 e (by rw [g]; exact run_bind (run_s2 h2 h3) _) (by show p + 1 + 2 - p = 3; omega)
theorem dec_us {c : ByteArray} {p o n : Nat} {z : Int} {f : Nat → Decoder Instr} {k : Nat → Int → Instr} (e : Decoder.instr p = Reader.u1 >>= f) (g : f o = Reader.u1 >>= fun x => Reader.s1 >>= fun y => Pure.pure (k x y)) (h : c3b (dr c.data.toList p) o n z = true) : decode c p = .ok (k n z, 3) := by
  obtain ⟨h1, h2, x, h3, rfl⟩ := of_c3b h
  exact dec_of h1 e (by rw [g]; exact (run_bind (run_u1 h2) _).trans (run_bind (run_s1 h3) _)) (by show p + 2 + 1 - p = 3; omega)
theorem dq_2 {c : ByteArray} {p : Nat} : c1 (dr c.data.toList p) 2 = true → decode c p = .ok ((.iconst (-1)), 1) := dec0 (dkS.2 p) rfl
theorem dq_3 {c : ByteArray} {p : Nat} : c1 (dr c.data.toList p) 3 = true → decode c p = .ok ((.iconst 0), 1) := dec0 (dkS.2 p) rfl
theorem dq_4 {c : ByteArray} {p : Nat} : c1 (dr c.data.toList p) 4 = true → decode c p = .ok ((.iconst 1), 1) := dec0 (dkS.2 p) rfl
theorem dq_5 {c : ByteArray} {p : Nat} : c1 (dr c.data.toList p) 5 = true → decode c p = .ok ((.iconst 2), 1) := dec0 (dkS.2 p) rfl
theorem dq_6 {c : ByteArray} {p : Nat} : c1 (dr c.data.toList p) 6 = true → decode c p = .ok ((.iconst 3), 1) := dec0 (dkS.2 p) rfl
theorem dq_7 {c : ByteArray} {p : Nat} : c1 (dr c.data.toList p) 7 = true → decode c p = .ok ((.iconst 4), 1) := dec0 (dkS.2 p) rfl
theorem dq_8 {c : ByteArray} {p : Nat} : c1 (dr c.data.toList p) 8 = true → decode c p = .ok ((.iconst 5), 1) := dec0 (dkS.2 p) rfl
theorem dq_9 {c : ByteArray} {p : Nat} : c1 (dr c.data.toList p) 9 = true → decode c p = .ok ((.lconst 0), 1) := dec0 (dkS.2 p) rfl
theorem dq_10 {c : ByteArray} {p : Nat} : c1 (dr c.data.toList p) 10 = true → decode c p = .ok ((.lconst 1), 1) := dec0 (dkS.2 p) rfl
theorem dq_16 {c : ByteArray} {p : Nat} {n : Int} : c2s (dr c.data.toList p) 16 n = true → decode c p = .ok (.bipush n, 2) := dec_s1 (k := Instr.bipush) (dkS.2 p) rfl
theorem dq_17 {c : ByteArray} {p : Nat} {n : Int} : c3s (dr c.data.toList p) 17 n = true → decode c p = .ok (.sipush n, 3) := dec_s2 (k := Instr.sipush) (dkS.2 p) rfl
theorem dq_18 {c : ByteArray} {p n : Nat} : c2 (dr c.data.toList p) 18 n = true → decode c p = .ok (.ldc n, 2) := dec_u1 (k := Instr.ldc) (dkS.2 p) rfl
theorem dq_19 {c : ByteArray} {p n : Nat} : c3 (dr c.data.toList p) 19 n = true → decode c p = .ok (.ldc_w n, 3) := dec_u2 (k := Instr.ldc_w) (dkS.2 p) rfl
theorem dq_20 {c : ByteArray} {p n : Nat} : c3 (dr c.data.toList p) 20 n = true → decode c p = .ok (.ldc2_w n, 3) := dec_u2 (k := Instr.ldc2_w) (dkS.2 p) rfl
theorem dq_21 {c : ByteArray} {p n : Nat} : c2 (dr c.data.toList p) 21 n = true → decode c p = .ok (.iload n, 2) := dec_u1 (k := Instr.iload) (dkS.2 p) rfl
theorem dq_22 {c : ByteArray} {p n : Nat} : c2 (dr c.data.toList p) 22 n = true → decode c p = .ok (.lload n, 2) := dec_u1 (k := Instr.lload) (dkS.2 p) rfl
theorem dq_25 {c : ByteArray} {p n : Nat} : c2 (dr c.data.toList p) 25 n = true → decode c p = .ok (.aload n, 2) := dec_u1 (k := Instr.aload) (dkS.2 p) rfl
theorem dq_26 {c : ByteArray} {p : Nat} : c1 (dr c.data.toList p) 26 = true → decode c p = .ok ((.iload_n 0), 1) := dec0 (dkS.2 p) rfl
theorem dq_27 {c : ByteArray} {p : Nat} : c1 (dr c.data.toList p) 27 = true → decode c p = .ok ((.iload_n 1), 1) := dec0 (dkS.2 p) rfl
theorem dq_28 {c : ByteArray} {p : Nat} : c1 (dr c.data.toList p) 28 = true → decode c p = .ok ((.iload_n 2), 1) := dec0 (dkS.2 p) rfl
theorem dq_29 {c : ByteArray} {p : Nat} : c1 (dr c.data.toList p) 29 = true → decode c p = .ok ((.iload_n 3), 1) := dec0 (dkS.2 p) rfl
theorem dq_30 {c : ByteArray} {p : Nat} : c1 (dr c.data.toList p) 30 = true → decode c p = .ok ((.lload_n 0), 1) := dec0 (dkS.2 p) rfl
theorem dq_32 {c : ByteArray} {p : Nat} : c1 (dr c.data.toList p) 32 = true → decode c p = .ok ((.lload_n 2), 1) := dec0 (dkS.2 p) rfl
theorem dq_42 {c : ByteArray} {p : Nat} : c1 (dr c.data.toList p) 42 = true → decode c p = .ok ((.aload_n 0), 1) := dec0 (dkS.2 p) rfl
theorem dq_43 {c : ByteArray} {p : Nat} : c1 (dr c.data.toList p) 43 = true → decode c p = .ok ((.aload_n 1), 1) := dec0 (dkS.2 p) rfl
theorem dq_44 {c : ByteArray} {p : Nat} : c1 (dr c.data.toList p) 44 = true → decode c p = .ok ((.aload_n 2), 1) := dec0 (dkS.2 p) rfl
theorem dq_45 {c : ByteArray} {p : Nat} : c1 (dr c.data.toList p) 45 = true → decode c p = .ok ((.aload_n 3), 1) := dec0 (dkS.2 p) rfl
theorem dq_46 {c : ByteArray} {p : Nat} : c1 (dr c.data.toList p) 46 = true → decode c p = .ok (.iaload, 1) := dec0 (dkS.2 p) rfl
theorem dq_50 {c : ByteArray} {p : Nat} : c1 (dr c.data.toList p) 50 = true → decode c p = .ok (.aaload, 1) := dec0 (dkS.2 p) rfl
theorem dq_51 {c : ByteArray} {p : Nat} : c1 (dr c.data.toList p) 51 = true → decode c p = .ok (.baload, 1) := dec0 (dkS.2 p) rfl
theorem dq_54 {c : ByteArray} {p n : Nat} : c2 (dr c.data.toList p) 54 n = true → decode c p = .ok (.istore n, 2) := dec_u1 (k := Instr.istore) (dkS.2 p) rfl
theorem dq_58 {c : ByteArray} {p n : Nat} : c2 (dr c.data.toList p) 58 n = true → decode c p = .ok (.astore n, 2) := dec_u1 (k := Instr.astore) (dkS.2 p) rfl
theorem dq_59 {c : ByteArray} {p : Nat} : c1 (dr c.data.toList p) 59 = true → decode c p = .ok ((.istore_n 0), 1) := dec0 (dkS.2 p) rfl
theorem dq_60 {c : ByteArray} {p : Nat} : c1 (dr c.data.toList p) 60 = true → decode c p = .ok ((.istore_n 1), 1) := dec0 (dkS.2 p) rfl
theorem dq_61 {c : ByteArray} {p : Nat} : c1 (dr c.data.toList p) 61 = true → decode c p = .ok ((.istore_n 2), 1) := dec0 (dkS.2 p) rfl
theorem dq_62 {c : ByteArray} {p : Nat} : c1 (dr c.data.toList p) 62 = true → decode c p = .ok ((.istore_n 3), 1) := dec0 (dkS.2 p) rfl
theorem dq_75 {c : ByteArray} {p : Nat} : c1 (dr c.data.toList p) 75 = true → decode c p = .ok ((.astore_n 0), 1) := dec0 (dkS.2 p) rfl
theorem dq_76 {c : ByteArray} {p : Nat} : c1 (dr c.data.toList p) 76 = true → decode c p = .ok ((.astore_n 1), 1) := dec0 (dkS.2 p) rfl
theorem dq_77 {c : ByteArray} {p : Nat} : c1 (dr c.data.toList p) 77 = true → decode c p = .ok ((.astore_n 2), 1) := dec0 (dkS.2 p) rfl
theorem dq_78 {c : ByteArray} {p : Nat} : c1 (dr c.data.toList p) 78 = true → decode c p = .ok ((.astore_n 3), 1) := dec0 (dkS.2 p) rfl
theorem dq_79 {c : ByteArray} {p : Nat} : c1 (dr c.data.toList p) 79 = true → decode c p = .ok (.iastore, 1) := dec0 (dkS.2 p) rfl
theorem dq_83 {c : ByteArray} {p : Nat} : c1 (dr c.data.toList p) 83 = true → decode c p = .ok (.aastore, 1) := dec0 (dkS.2 p) rfl
theorem dq_84 {c : ByteArray} {p : Nat} : c1 (dr c.data.toList p) 84 = true → decode c p = .ok (.bastore, 1) := dec0 (dkS.2 p) rfl
theorem dq_87 {c : ByteArray} {p : Nat} : c1 (dr c.data.toList p) 87 = true → decode c p = .ok (.pop, 1) := dec0 (dkS.2 p) rfl
theorem dq_89 {c : ByteArray} {p : Nat} : c1 (dr c.data.toList p) 89 = true → decode c p = .ok (.dup, 1) := dec0 (dkS.2 p) rfl
theorem dq_92 {c : ByteArray} {p : Nat} : c1 (dr c.data.toList p) 92 = true → decode c p = .ok (.dup2, 1) := dec0 (dkS.2 p) rfl
theorem dq_96 {c : ByteArray} {p : Nat} : c1 (dr c.data.toList p) 96 = true → decode c p = .ok (.iadd, 1) := dec0 (dkS.2 p) rfl
theorem dq_97 {c : ByteArray} {p : Nat} : c1 (dr c.data.toList p) 97 = true → decode c p = .ok (.ladd, 1) := dec0 (dkS.2 p) rfl
theorem dq_100 {c : ByteArray} {p : Nat} : c1 (dr c.data.toList p) 100 = true → decode c p = .ok (.isub, 1) := dec0 (dkS.2 p) rfl
theorem dq_104 {c : ByteArray} {p : Nat} : c1 (dr c.data.toList p) 104 = true → decode c p = .ok (.imul, 1) := dec0 (dkS.2 p) rfl
theorem dq_105 {c : ByteArray} {p : Nat} : c1 (dr c.data.toList p) 105 = true → decode c p = .ok (.lmul, 1) := dec0 (dkS.2 p) rfl
theorem dq_108 {c : ByteArray} {p : Nat} : c1 (dr c.data.toList p) 108 = true → decode c p = .ok (.idiv, 1) := dec0 (dkS.2 p) rfl
theorem dq_112 {c : ByteArray} {p : Nat} : c1 (dr c.data.toList p) 112 = true → decode c p = .ok (.irem, 1) := dec0 (dkS.2 p) rfl
theorem dq_113 {c : ByteArray} {p : Nat} : c1 (dr c.data.toList p) 113 = true → decode c p = .ok (.lrem, 1) := dec0 (dkS.2 p) rfl
theorem dq_116 {c : ByteArray} {p : Nat} : c1 (dr c.data.toList p) 116 = true → decode c p = .ok (.ineg, 1) := dec0 (dkS.2 p) rfl
theorem dq_120 {c : ByteArray} {p : Nat} : c1 (dr c.data.toList p) 120 = true → decode c p = .ok (.ishl, 1) := dec0 (dkS.2 p) rfl
theorem dq_122 {c : ByteArray} {p : Nat} : c1 (dr c.data.toList p) 122 = true → decode c p = .ok (.ishr, 1) := dec0 (dkS.2 p) rfl
theorem dq_126 {c : ByteArray} {p : Nat} : c1 (dr c.data.toList p) 126 = true → decode c p = .ok (.iand, 1) := dec0 (dkS.2 p) rfl
theorem dq_128 {c : ByteArray} {p : Nat} : c1 (dr c.data.toList p) 128 = true → decode c p = .ok (.ior, 1) := dec0 (dkS.2 p) rfl
theorem dq_132 {c : ByteArray} {p n : Nat} {z : Int} : c3b (dr c.data.toList p) 132 n z = true → decode c p = .ok (.iinc n z, 3) := dec_us (k := Instr.iinc) (dkS.2 p) rfl
theorem dq_133 {c : ByteArray} {p : Nat} : c1 (dr c.data.toList p) 133 = true → decode c p = .ok (.i2l, 1) := dec0 (dkS.2 p) rfl
theorem dq_136 {c : ByteArray} {p : Nat} : c1 (dr c.data.toList p) 136 = true → decode c p = .ok (.l2i, 1) := dec0 (dkS.2 p) rfl
theorem dq_148 {c : ByteArray} {p : Nat} : c1 (dr c.data.toList p) 148 = true → decode c p = .ok (.lcmp, 1) := dec0 (dkS.2 p) rfl
theorem dq_153 {c : ByteArray} {p : Nat} {n : Int} : c3s (dr c.data.toList p) 153 n = true → decode c p = .ok (.ifCond .eq n, 3) := dec_s2 (k := (Instr.ifCond .eq)) (dkS.2 p) rfl
theorem dq_154 {c : ByteArray} {p : Nat} {n : Int} : c3s (dr c.data.toList p) 154 n = true → decode c p = .ok (.ifCond .ne n, 3) := dec_s2 (k := (Instr.ifCond .ne)) (dkS.2 p) rfl
theorem dq_155 {c : ByteArray} {p : Nat} {n : Int} : c3s (dr c.data.toList p) 155 n = true → decode c p = .ok (.ifCond .lt n, 3) := dec_s2 (k := (Instr.ifCond .lt)) (dkS.2 p) rfl
theorem dq_156 {c : ByteArray} {p : Nat} {n : Int} : c3s (dr c.data.toList p) 156 n = true → decode c p = .ok (.ifCond .ge n, 3) := dec_s2 (k := (Instr.ifCond .ge)) (dkS.2 p) rfl
theorem dq_157 {c : ByteArray} {p : Nat} {n : Int} : c3s (dr c.data.toList p) 157 n = true → decode c p = .ok (.ifCond .gt n, 3) := dec_s2 (k := (Instr.ifCond .gt)) (dkS.2 p) rfl
theorem dq_158 {c : ByteArray} {p : Nat} {n : Int} : c3s (dr c.data.toList p) 158 n = true → decode c p = .ok (.ifCond .le n, 3) := dec_s2 (k := (Instr.ifCond .le)) (dkS.2 p) rfl
theorem dq_159 {c : ByteArray} {p : Nat} {n : Int} : c3s (dr c.data.toList p) 159 n = true → decode c p = .ok (.if_icmp .eq n, 3) := dec_s2 (k := (Instr.if_icmp .eq)) (dkS.2 p) rfl
theorem dq_160 {c : ByteArray} {p : Nat} {n : Int} : c3s (dr c.data.toList p) 160 n = true → decode c p = .ok (.if_icmp .ne n, 3) := dec_s2 (k := (Instr.if_icmp .ne)) (dkS.2 p) rfl
theorem dq_161 {c : ByteArray} {p : Nat} {n : Int} : c3s (dr c.data.toList p) 161 n = true → decode c p = .ok (.if_icmp .lt n, 3) := dec_s2 (k := (Instr.if_icmp .lt)) (dkS.2 p) rfl
theorem dq_162 {c : ByteArray} {p : Nat} {n : Int} : c3s (dr c.data.toList p) 162 n = true → decode c p = .ok (.if_icmp .ge n, 3) := dec_s2 (k := (Instr.if_icmp .ge)) (dkS.2 p) rfl
theorem dq_163 {c : ByteArray} {p : Nat} {n : Int} : c3s (dr c.data.toList p) 163 n = true → decode c p = .ok (.if_icmp .gt n, 3) := dec_s2 (k := (Instr.if_icmp .gt)) (dkS.2 p) rfl
theorem dq_164 {c : ByteArray} {p : Nat} {n : Int} : c3s (dr c.data.toList p) 164 n = true → decode c p = .ok (.if_icmp .le n, 3) := dec_s2 (k := (Instr.if_icmp .le)) (dkS.2 p) rfl
theorem dq_167 {c : ByteArray} {p : Nat} {n : Int} : c3s (dr c.data.toList p) 167 n = true → decode c p = .ok (.goto n, 3) := dec_s2 (k := Instr.goto) (dkS.2 p) rfl
theorem dq_172 {c : ByteArray} {p : Nat} : c1 (dr c.data.toList p) 172 = true → decode c p = .ok (.ireturn, 1) := dec0 (dkS.2 p) rfl
theorem dq_177 {c : ByteArray} {p : Nat} : c1 (dr c.data.toList p) 177 = true → decode c p = .ok (.return_, 1) := dec0 (dkS.2 p) rfl
theorem dq_178 {c : ByteArray} {p n : Nat} : c3 (dr c.data.toList p) 178 n = true → decode c p = .ok (.getstatic n, 3) := dec_u2 (k := Instr.getstatic) (dkS.2 p) rfl
theorem dq_180 {c : ByteArray} {p n : Nat} : c3 (dr c.data.toList p) 180 n = true → decode c p = .ok (.getfield n, 3) := dec_u2 (k := Instr.getfield) (dkS.2 p) rfl
theorem dq_181 {c : ByteArray} {p n : Nat} : c3 (dr c.data.toList p) 181 n = true → decode c p = .ok (.putfield n, 3) := dec_u2 (k := Instr.putfield) (dkS.2 p) rfl
theorem dq_182 {c : ByteArray} {p n : Nat} : c3 (dr c.data.toList p) 182 n = true → decode c p = .ok (.invokevirtual n, 3) := dec_u2 (k := Instr.invokevirtual) (dkS.2 p) rfl
theorem dq_183 {c : ByteArray} {p n : Nat} : c3 (dr c.data.toList p) 183 n = true → decode c p = .ok (.invokespecial n, 3) := dec_u2 (k := Instr.invokespecial) (dkS.2 p) rfl
theorem dq_184 {c : ByteArray} {p n : Nat} : c3 (dr c.data.toList p) 184 n = true → decode c p = .ok (.invokestatic n, 3) := dec_u2 (k := Instr.invokestatic) (dkS.2 p) rfl
theorem dq_187 {c : ByteArray} {p n : Nat} : c3 (dr c.data.toList p) 187 n = true → decode c p = .ok (.new n, 3) := dec_u2 (k := Instr.new) (dkS.2 p) rfl
theorem dq_189 {c : ByteArray} {p n : Nat} : c3 (dr c.data.toList p) 189 n = true → decode c p = .ok (.anewarray n, 3) := dec_u2 (k := Instr.anewarray) (dkS.2 p) rfl
theorem dq_190 {c : ByteArray} {p : Nat} : c1 (dr c.data.toList p) 190 = true → decode c p = .ok (.arraylength, 1) := dec0 (dkS.2 p) rfl
