abbrev tgPos : List Nat := [0, 2, 5, 8, 12, 18, 19, 20, 21, 22, 23, 24, 25, 26, 27, 28, 29, 30, 31, 32, 33, 34, 35, 36, 37, 38, 39, 40, 41, 42, 43, 44, 45, 46, 47, 48, 49, 50, 51]
theorem t_X9_feed (l : Launch) (E : Ev) (q : Nat) (z0 : Int32) : CalM l yX9_feed wsX9_feed rm_X9_feed E q 9 [.int z0] (TgW E q) (fun (X : TgX) (r : Int32) (X' : TgX) => FeedR z0 (X.1 0) (X.1 1 0) (X'.1 0) (X'.1 1 0) ∧ KpV [0, 1] X X') := by
  rintro sz ⟨v, vp, vs, vi, vj⟩ _ ⟨a, cz0, cz1, rt, rp, aq, vq, ap, as_, ai, bi, rfl, rfl, hTA⟩
  exact ⟨⟨_, rfl⟩, _, _, _, c_X9_feed l E sz a v cz0 cz1 rt rp aq vq ap vp as_ vs ai vi bi vj z0 hTA, fun r u h => ⟨(_, _, _, _, _), ⟨_, _, _, _, _, _, _, _, _, _, _, rfl, rfl, h.1.1.1⟩, ⟨h.2, h.1.2, rfl⟩⟩⟩
theorem t_X10_feed (l : Launch) (E : Ev) (q : Nat) (z0 : Int32) : CalM l yX10_feed wsX10_feed rm_X10_feed E q 10 [.int z0] (MdW E q) (fun (vm : Vf) (r : Int32) (vm' : Vf) => FeedR z0 (vm 31) (vm 32 0) (vm' 31) (vm' 32 0) ∧ fr [31, 32] vm vm') := by
  rintro sz vm _ ⟨am, rfl, rfl, hMI⟩
  exact ⟨⟨_, rfl⟩, _, _, _, c_X10_feed l E sz am vm z0 hMI, fun r u h => ⟨_, ⟨_, rfl, rfl, h.1.1.1⟩, ⟨h.2, h.1.2⟩⟩⟩
theorem t_X9_ground (l : Launch) (E : Ev) (q : Nat) (S0 : St0) (hZ0 : Z0 S0) : CalM l yX9_ground wsX9_ground rm_X9_ground E q 9 [] (TgW E q) (fun (X : TgX) (r : Int32) (X' : TgX) => (GrM (textF (X.1 0) (X.1 1 0).toInt 251 0 S0) r.toInt (X'.1 2 0).toInt (fun S => ∃ cx ck, Rp S X'.2.1 cx ck) ∧ X'.1 0 = X.1 0 ∧ (X'.1 1 0).toInt = 0) ∧ GrC r X.1 X.2.1 X.2.2.1 X.2.2.2.1 X.2.2.2.2 X'.1 X'.2.1 X'.2.2.1 X'.2.2.2.1 X'.2.2.2.2) := by
  rintro sz ⟨v, vp, vs, vi, vj⟩ _ ⟨a, cz0, cz1, rt, rp, aq, vq, ap, as_, ai, bi, rfl, rfl, hTA⟩
  exact ⟨⟨_, rfl⟩, _, _, _, c_X9_ground l E sz a v cz0 cz1 rt rp aq vq ap vp as_ vs ai vi bi vj S0 hTA hZ0, fun r u h => ⟨(_, _, _, _, _), ⟨_, _, _, _, _, _, _, _, _, _, _, rfl, rfl, h.1.1⟩, ⟨⟨h.2.1.1, h.2.1.2, h.1.2⟩, h.2.2⟩⟩⟩
theorem t_X10_ground (l : Launch) (E : Ev) (q : Nat) : CalM l yX10_ground wsX10_ground rm_X10_ground E q 10 [] (MdW E q) (fun (vm : Vf) (r : Int32) (vm' : Vf) => (((∀ j : Nat, (j : Int) < (vm 32 0).toInt → 0 ≤ (vm 31 j).toInt) → GrM (textF (vm 31) (vm 32 0).toInt 251 0 (SI (gr0 vm))) r.toInt (vm' 33 0).toInt (fun S => RpMF S vm')) ∧ vm' 31 = vm 31 ∧ (vm' 32 0).toInt = 0) ∧ GrD r vm vm' ∧ vm' 30 = vm 30) := by
  rintro sz vm _ ⟨am, rfl, rfl, hMI⟩
  exact ⟨⟨_, rfl⟩, _, _, _, c_X10_ground l E sz am vm  hMI, fun r u h => ⟨_, ⟨_, rfl, rfl, h.1.1.1⟩, ⟨⟨h.2.1, h.1.2 31 (by decide), h.1.1.2⟩, h.2.2, h.1.2 30 (by decide)⟩⟩⟩
theorem t_X9_fault (l : Launch) (E : Ev) (A : Nat → Prop) (q : Nat) : CalR l yX9_fault wsX9_fault rm_X9_fault E A q 9 [] (TgW E q) (fun _ _ => True) := by
  rintro ⟨v, vp, vs, vi, vj⟩ _ ⟨a, cz0, cz1, rt, rp, aq, vq, ap, as_, ai, bi, rfl, rfl, hTA⟩
  exact ⟨tgsL E (up1 (up1 a 201 cz0) 202 cz1) v aq ap vp as_ vs, tgPos, _, _, rfl, rfl, c_X9_fault l E A (up1 (up1 a 201 cz0) 202 cz1) v aq ap vp as_ vs  hTA.2.2.1 hTA.2.2.2.2.1 hTA.1, fun _ _ => trivial⟩
theorem t_X10_fault (l : Launch) (E : Ev) (A : Nat → Prop) (q : Nat) : CalR l yX10_fault wsX10_fault rm_X10_fault E A q 10 [] (MdW E q) (fun _ _ => True) := by
  rintro vm _ ⟨am, rfl, rfl, hMI⟩
  exact ⟨mdL E am vm, List.range 46, _, _, rfl, rfl, c_X10_fault l E A am vm  hMI.1, fun _ _ => trivial⟩
theorem t_X9_told (l : Launch) (E : Ev) (A : Nat → Prop) (q : Nat) (z0 : Int32) : CalR l yX9_told wsX9_told rm_X9_told E A q 9 [.int z0] (TgW E q) (fun _ _ => True) := by
  rintro ⟨v, vp, vs, vi, vj⟩ _ ⟨a, cz0, cz1, rt, rp, aq, vq, ap, as_, ai, bi, rfl, rfl, hTA⟩
  exact ⟨tgsL E (up1 (up1 a 201 cz0) 202 cz1) v aq ap vp as_ vs, tgPos, _, _, rfl, rfl, c_X9_told l E A (up1 (up1 a 201 cz0) 202 cz1) v aq ap vp as_ vs z0 hTA.2.2.1 hTA.2.2.2.2.1 hTA.1, fun _ _ => trivial⟩
theorem t_X10_told (l : Launch) (E : Ev) (A : Nat → Prop) (q : Nat) (z0 : Int32) : CalR l yX10_told wsX10_told rm_X10_told E A q 10 [.int z0] (MdW E q) (fun _ _ => True) := by
  rintro vm _ ⟨am, rfl, rfl, hMI⟩
  exact ⟨mdL E am vm, List.range 46, _, _, rfl, rfl, c_X10_told l E A am vm z0 hMI.1, fun _ _ => trivial⟩
theorem t_X9_cell (l : Launch) (E : Ev) (A : Nat → Prop) (q : Nat) (z0 : Int32) (z1 : Int32) (z2 : Int32) : CalR l yX9_cell wsX9_cell rm_X9_cell E A q 9 [.int z0, .int z1, .int z2] (TgW E q) (fun _ _ => True) := by
  rintro ⟨v, vp, vs, vi, vj⟩ _ ⟨a, cz0, cz1, rt, rp, aq, vq, ap, as_, ai, bi, rfl, rfl, hTA⟩
  exact ⟨tgsL E (up1 (up1 a 201 cz0) 202 cz1) v aq ap vp as_ vs, tgPos, _, _, rfl, rfl, c_X9_cell l E A (up1 (up1 a 201 cz0) 202 cz1) v aq ap vp as_ vs z0 z1 z2 hTA.2.2.1 hTA.2.2.2.2.1 hTA.1, fun _ _ => trivial⟩
theorem t_X10_cell (l : Launch) (E : Ev) (A : Nat → Prop) (q : Nat) (z0 : Int32) (z1 : Int32) (z2 : Int32) : CalR l yX10_cell wsX10_cell rm_X10_cell E A q 10 [.int z0, .int z1, .int z2] (MdW E q) (fun _ _ => True) := by
  rintro vm _ ⟨am, rfl, rfl, hMI⟩
  exact ⟨mdL E am vm, List.range 46, _, _, rfl, rfl, c_X10_cell l E A am vm z0 z1 z2 hMI.1, fun _ _ => trivial⟩
theorem t_X9_height (l : Launch) (E : Ev) (A : Nat → Prop) (q : Nat) (z0 : Int32) (z1 : Int32) (z2 : Int32) : CalR l yX9_height wsX9_height rm_X9_height E A q 9 [.int z0, .int z1, .int z2] (TgW E q) (fun _ _ => True) := by
  rintro ⟨v, vp, vs, vi, vj⟩ _ ⟨a, cz0, cz1, rt, rp, aq, vq, ap, as_, ai, bi, rfl, rfl, hTA⟩
  exact ⟨tgsL E (up1 (up1 a 201 cz0) 202 cz1) v aq ap vp as_ vs, tgPos, _, _, rfl, rfl, c_X9_height l E A (up1 (up1 a 201 cz0) 202 cz1) v aq ap vp as_ vs z0 z1 z2 hTA.2.2.1 hTA.2.2.2.2.1 hTA.1, fun _ _ => trivial⟩
theorem t_X10_height (l : Launch) (E : Ev) (A : Nat → Prop) (q : Nat) (z0 : Int32) (z1 : Int32) (z2 : Int32) : CalR l yX10_height wsX10_height rm_X10_height E A q 10 [.int z0, .int z1, .int z2] (MdW E q) (fun _ _ => True) := by
  rintro vm _ ⟨am, rfl, rfl, hMI⟩
  exact ⟨mdL E am vm, List.range 46, _, _, rfl, rfl, c_X10_height l E A am vm z0 z1 z2 hMI.1, fun _ _ => trivial⟩
theorem t_X9_moon (l : Launch) (E : Ev) (A : Nat → Prop) (q : Nat) (z0 : Int32) (z1 : Int32) : CalR l yX9_moon wsX9_moon rm_X9_moon E A q 9 [.int z0, .int z1] (TgW E q) (fun _ _ => True) := by
  rintro ⟨v, vp, vs, vi, vj⟩ _ ⟨a, cz0, cz1, rt, rp, aq, vq, ap, as_, ai, bi, rfl, rfl, hTA⟩
  exact ⟨tgsL E (up1 (up1 a 201 cz0) 202 cz1) v aq ap vp as_ vs, tgPos, _, _, rfl, rfl, c_X9_moon l E A (up1 (up1 a 201 cz0) 202 cz1) v aq ap vp as_ vs z0 z1 hTA.2.2.1 hTA.2.2.2.2.1 hTA.1, fun _ _ => trivial⟩
theorem t_X10_moon (l : Launch) (E : Ev) (A : Nat → Prop) (q : Nat) (z0 : Int32) (z1 : Int32) : CalR l yX10_moon wsX10_moon rm_X10_moon E A q 10 [.int z0, .int z1] (MdW E q) (fun _ _ => True) := by
  rintro vm _ ⟨am, rfl, rfl, hMI⟩
  exact ⟨mdL E am vm, List.range 46, _, _, rfl, rfl, c_X10_moon l E A am vm z0 z1 hMI.1, fun _ _ => trivial⟩
theorem t_X9_house (l : Launch) (E : Ev) (A : Nat → Prop) (q : Nat) (z0 : Int32) (z1 : Int32) : CalR l yX9_house wsX9_house rm_X9_house E A q 9 [.int z0, .int z1] (TgW E q) (fun _ _ => True) := by
  rintro ⟨v, vp, vs, vi, vj⟩ _ ⟨a, cz0, cz1, rt, rp, aq, vq, ap, as_, ai, bi, rfl, rfl, hTA⟩
  exact ⟨tgsL E (up1 (up1 a 201 cz0) 202 cz1) v aq ap vp as_ vs, tgPos, _, _, rfl, rfl, c_X9_house l E A (up1 (up1 a 201 cz0) 202 cz1) v aq ap vp as_ vs z0 z1 hTA.2.2.1 hTA.2.2.2.2.1 hTA.1, fun _ _ => trivial⟩
theorem t_X10_house (l : Launch) (E : Ev) (A : Nat → Prop) (q : Nat) (z0 : Int32) (z1 : Int32) : CalR l yX10_house wsX10_house rm_X10_house E A q 10 [.int z0, .int z1] (MdW E q) (fun _ _ => True) := by
  rintro vm _ ⟨am, rfl, rfl, hMI⟩
  exact ⟨mdL E am vm, List.range 46, _, _, rfl, rfl, c_X10_house l E A am vm z0 z1 hMI.1, fun _ _ => trivial⟩
theorem t_X9_crack (l : Launch) (E : Ev) (A : Nat → Prop) (q : Nat) (z0 : Int32) (z1 : Int32) : CalR l yX9_crack wsX9_crack rm_X9_crack E A q 9 [.int z0, .int z1] (TgW E q) (fun _ _ => True) := by
  rintro ⟨v, vp, vs, vi, vj⟩ _ ⟨a, cz0, cz1, rt, rp, aq, vq, ap, as_, ai, bi, rfl, rfl, hTA⟩
  exact ⟨tgsL E (up1 (up1 a 201 cz0) 202 cz1) v aq ap vp as_ vs, tgPos, _, _, rfl, rfl, c_X9_crack l E A (up1 (up1 a 201 cz0) 202 cz1) v aq ap vp as_ vs z0 z1 hTA.2.2.1 hTA.2.2.2.2.1 hTA.1, fun _ _ => trivial⟩
theorem t_X10_crack (l : Launch) (E : Ev) (A : Nat → Prop) (q : Nat) (z0 : Int32) (z1 : Int32) : CalR l yX10_crack wsX10_crack rm_X10_crack E A q 10 [.int z0, .int z1] (MdW E q) (fun _ _ => True) := by
  rintro vm _ ⟨am, rfl, rfl, hMI⟩
  exact ⟨mdL E am vm, List.range 46, _, _, rfl, rfl, c_X10_crack l E A am vm z0 z1 hMI.1, fun _ _ => trivial⟩
theorem t_X9_pass (l : Launch) (E : Ev) (q : Nat) (z0 : Int32) : CalM l yX9_pass wsX9_pass rm_X9_pass E q 9 [.int z0] (TgW E q) (fun (X : TgX) (r : Int32) (X' : TgX) => (PassP z0 (X.2.2.1 0 0) r (X'.2.2.1 0 0)) ∧ KpS [0] X X') := by
  rintro sz ⟨v, vp, vs, vi, vj⟩ _ ⟨a, cz0, cz1, rt, rp, aq, vq, ap, as_, ai, bi, rfl, rfl, hTA⟩
  exact ⟨⟨_, rfl⟩, _, _, _, c_X9_pass l E sz a v cz0 cz1 rt rp aq vq ap vp as_ vs ai vi bi vj z0 hTA, fun r u h => ⟨(_, _, _, _, _), ⟨_, _, _, _, _, _, _, _, _, _, _, rfl, rfl, h.1.1⟩, ⟨h.2, h.1.2, rfl, rfl, rfl⟩⟩⟩
theorem t_X10_pass (l : Launch) (E : Ev) (q : Nat) (z0 : Int32) : CalM l yX10_pass wsX10_pass rm_X10_pass E q 10 [.int z0] (MdW E q) (fun (vm : Vf) (r : Int32) (vm' : Vf) => (PassP z0 (vm 23 0) r (vm' 23 0)) ∧ fr [23] vm vm') := by
  rintro sz vm _ ⟨am, rfl, rfl, hMI⟩
  exact ⟨⟨_, rfl⟩, _, _, _, c_X10_pass l E sz am vm z0 hMI, fun r u h => ⟨_, ⟨_, rfl, rfl, h.1.1⟩, ⟨h.2, h.1.2⟩⟩⟩
theorem t_X9_roll (l : Launch) (E : Ev) (q : Nat) (z0 : Int32) : CalM l yX9_roll wsX9_roll rm_X9_roll E q 9 [.int z0] (TgW E q) (fun (X : TgX) (r : Int32) (X' : TgX) => (∀ vm : Vf, RW vm X.2.1 X.2.2.1 → (-1 : Int32) = vm 62 0 → RolP vm z0 r (X.2.2.1 0 0) (X.2.2.1 4 0) (X.2.2.1 5 0) (X'.2.2.1 0 0) (X'.2.2.1 4 0) (X'.2.2.1 5 0)) ∧ KpS [0, 4, 5] X X') := by
  rintro sz ⟨v, vp, vs, vi, vj⟩ _ ⟨a, cz0, cz1, rt, rp, aq, vq, ap, as_, ai, bi, rfl, rfl, hTA⟩
  exact ⟨⟨_, rfl⟩, _, _, _, c_X9_roll l E sz a v cz0 cz1 rt rp aq vq ap vp as_ vs ai vi bi vj z0 hTA, fun r u h => ⟨(_, _, _, _, _), ⟨_, _, _, _, _, _, _, _, _, _, _, rfl, rfl, h.1.1⟩, ⟨h.2, h.1.2, rfl, rfl, rfl⟩⟩⟩
theorem t_X10_roll (l : Launch) (E : Ev) (q : Nat) (z0 : Int32) : CalM l yX10_roll wsX10_roll rm_X10_roll E q 10 [.int z0] (MdW E q) (fun (vm : Vf) (r : Int32) (vm' : Vf) => (RolP vm z0 r (vm 23 0) (vm 27 0) (vm 28 0) (vm' 23 0) (vm' 27 0) (vm' 28 0)) ∧ fr [23, 27, 28] vm vm') := by
  rintro sz vm _ ⟨am, rfl, rfl, hMI⟩
  exact ⟨⟨_, rfl⟩, _, _, _, c_X10_roll l E sz am vm z0 hMI, fun r u h => ⟨_, ⟨_, rfl, rfl, h.1.1⟩, ⟨h.2, h.1.2⟩⟩⟩
theorem t_X9_steep (l : Launch) (E : Ev) (q : Nat) (z0 : Int32) : CalM l yX9_steep wsX9_steep rm_X9_steep E q 9 [.int z0] (TgW E q) (fun (X : TgX) (r : Int32) (X' : TgX) => (SetP z0 0 99 (X.2.2.1 6 0) r (X'.2.2.1 6 0)) ∧ KpS [6] X X') := by
  rintro sz ⟨v, vp, vs, vi, vj⟩ _ ⟨a, cz0, cz1, rt, rp, aq, vq, ap, as_, ai, bi, rfl, rfl, hTA⟩
  exact ⟨⟨_, rfl⟩, _, _, _, c_X9_steep l E sz a v cz0 cz1 rt rp aq vq ap vp as_ vs ai vi bi vj z0 hTA, fun r u h => ⟨(_, _, _, _, _), ⟨_, _, _, _, _, _, _, _, _, _, _, rfl, rfl, h.1.1⟩, ⟨h.2, h.1.2, rfl, rfl, rfl⟩⟩⟩
theorem t_X10_steep (l : Launch) (E : Ev) (q : Nat) (z0 : Int32) : CalM l yX10_steep wsX10_steep rm_X10_steep E q 10 [.int z0] (MdW E q) (fun (vm : Vf) (r : Int32) (vm' : Vf) => (SetP z0 0 99 (vm 29 0) r (vm' 29 0)) ∧ fr [29] vm vm') := by
  rintro sz vm _ ⟨am, rfl, rfl, hMI⟩
  exact ⟨⟨_, rfl⟩, _, _, _, c_X10_steep l E sz am vm z0 hMI, fun r u h => ⟨_, ⟨_, rfl, rfl, h.1.1⟩, ⟨h.2, h.1.2⟩⟩⟩
theorem t_X9_load (l : Launch) (E : Ev) (q : Nat) (z0 : Int32) (z1 : Int32) (z2 : Int32) : CalM l yX9_load wsX9_load rm_X9_load E q 9 [.int z0, .int z1, .int z2] (TgW E q) (fun (X : TgX) (r : Int32) (X' : TgX) => (LoadP z0 z1 z2 (X.2.1 0 0) (X.2.1 1 0) (X.2.2.1 2) r (X'.2.2.1 2)) ∧ KpS [2] X X') := by
  rintro sz ⟨v, vp, vs, vi, vj⟩ _ ⟨a, cz0, cz1, rt, rp, aq, vq, ap, as_, ai, bi, rfl, rfl, hTA⟩
  exact ⟨⟨_, rfl⟩, _, _, _, c_X9_load l E sz a v cz0 cz1 rt rp aq vq ap vp as_ vs ai vi bi vj z0 z1 z2 hTA, fun r u h => ⟨(_, _, _, _, _), ⟨_, _, _, _, _, _, _, _, _, _, _, rfl, rfl, h.1.1⟩, ⟨h.2, h.1.2, rfl, rfl, rfl⟩⟩⟩
theorem t_X10_load (l : Launch) (E : Ev) (q : Nat) (z0 : Int32) (z1 : Int32) (z2 : Int32) : CalM l yX10_load wsX10_load rm_X10_load E q 10 [.int z0, .int z1, .int z2] (MdW E q) (fun (vm : Vf) (r : Int32) (vm' : Vf) => (LoadP z0 z1 z2 (vm 0 0) (vm 1 0) (vm 25) r (vm' 25)) ∧ fr [25] vm vm') := by
  rintro sz vm _ ⟨am, rfl, rfl, hMI⟩
  exact ⟨⟨_, rfl⟩, _, _, _, c_X10_load l E sz am vm z0 z1 z2 hMI, fun r u h => ⟨_, ⟨_, rfl, rfl, h.1.1⟩, ⟨h.2, h.1.2⟩⟩⟩
theorem t_X9_prop (l : Launch) (E : Ev) (q : Nat) (z0 : Int32) (z1 : Int32) : CalM l yX9_prop wsX9_prop rm_X9_prop E q 9 [.int z0, .int z1] (TgW E q) (fun (X : TgX) (r : Int32) (X' : TgX) => (PropP z0 z1 (X.2.1 60 0) (X.2.2.1 3) r (X'.2.2.1 3)) ∧ KpS [3] X X') := by
  rintro sz ⟨v, vp, vs, vi, vj⟩ _ ⟨a, cz0, cz1, rt, rp, aq, vq, ap, as_, ai, bi, rfl, rfl, hTA⟩
  exact ⟨⟨_, rfl⟩, _, _, _, c_X9_prop l E sz a v cz0 cz1 rt rp aq vq ap vp as_ vs ai vi bi vj z0 z1 hTA, fun r u h => ⟨(_, _, _, _, _), ⟨_, _, _, _, _, _, _, _, _, _, _, rfl, rfl, h.1.1⟩, ⟨h.2, h.1.2, rfl, rfl, rfl⟩⟩⟩
theorem t_X10_prop (l : Launch) (E : Ev) (q : Nat) (z0 : Int32) (z1 : Int32) : CalM l yX10_prop wsX10_prop rm_X10_prop E q 10 [.int z0, .int z1] (MdW E q) (fun (vm : Vf) (r : Int32) (vm' : Vf) => (PropP z0 z1 (vm 9 0) (vm 26) r (vm' 26)) ∧ fr [26] vm vm') := by
  rintro sz vm _ ⟨am, rfl, rfl, hMI⟩
  exact ⟨⟨_, rfl⟩, _, _, _, c_X10_prop l E sz am vm z0 z1 hMI, fun r u h => ⟨_, ⟨_, rfl, rfl, h.1.1⟩, ⟨h.2, h.1.2⟩⟩⟩
theorem t_X9_shift (l : Launch) (E : Ev) (q : Nat) (z0 : Int32) (z1 : Int32) : CalM l yX9_shift wsX9_shift rm_X9_shift E q 9 [.int z0, .int z1] (TgW E q) (fun (X : TgX) (r : Int32) (X' : TgX) => (ShiftP z0 z1 (X.2.1 5 0) (fun j => X.2.1 (20 + 10 * j) 0) (X.2.2.1 1) r (X'.2.2.1 1)) ∧ KpS [1] X X') := by
  rintro sz ⟨v, vp, vs, vi, vj⟩ _ ⟨a, cz0, cz1, rt, rp, aq, vq, ap, as_, ai, bi, rfl, rfl, hTA⟩
  exact ⟨⟨_, rfl⟩, _, _, _, c_X9_shift l E sz a v cz0 cz1 rt rp aq vq ap vp as_ vs ai vi bi vj z0 z1 hTA, fun r u h => ⟨(_, _, _, _, _), ⟨_, _, _, _, _, _, _, _, _, _, _, rfl, rfl, h.1.1⟩, ⟨h.2, h.1.2, rfl, rfl, rfl⟩⟩⟩
theorem t_X10_shift (l : Launch) (E : Ev) (q : Nat) (z0 : Int32) (z1 : Int32) : CalM l yX10_shift wsX10_shift rm_X10_shift E q 10 [.int z0, .int z1] (MdW E q) (fun (vm : Vf) (r : Int32) (vm' : Vf) => (ShiftP z0 z1 (vm 4 0) (vm 5) (vm 24) r (vm' 24)) ∧ fr [24] vm vm') := by
  rintro sz vm _ ⟨am, rfl, rfl, hMI⟩
  exact ⟨⟨_, rfl⟩, _, _, _, c_X10_shift l E sz am vm z0 z1 hMI, fun r u h => ⟨_, ⟨_, rfl, rfl, h.1.1⟩, ⟨h.2, h.1.2⟩⟩⟩
theorem t_X9_drift (l : Launch) (E : Ev) (q : Nat) (z0 : Int32) : CalM l yX9_drift wsX9_drift rm_X9_drift E q 9 [.int z0] (TgW E q) (fun (X : TgX) (r : Int32) (X' : TgX) => (∀ vm : Vf, RW vm X.2.1 X.2.2.1 → (-1 : Int32) = vm 62 0 → DriP vm z0 r (X'.2.2.1 = X.2.2.1) (RW (drN vm z0.toNatClampNeg) X.2.1 X'.2.2.1)) ∧ KpS [0, 2, 4, 5, 7] X X') := by
  rintro sz ⟨v, vp, vs, vi, vj⟩ _ ⟨a, cz0, cz1, rt, rp, aq, vq, ap, as_, ai, bi, rfl, rfl, hTA⟩
  exact ⟨⟨_, rfl⟩, _, _, _, c_X9_drift l E sz a v cz0 cz1 rt rp aq vq ap vp as_ vs ai vi bi vj z0 hTA, fun r u h => ⟨(_, _, _, _, _), ⟨_, _, _, _, _, _, _, _, _, _, _, rfl, rfl, h.1.1⟩, ⟨h.2, h.1.2, rfl, rfl, rfl⟩⟩⟩
theorem t_X10_drift (l : Launch) (E : Ev) (q : Nat) (z0 : Int32) : CalM l yX10_drift wsX10_drift rm_X10_drift E q 10 [.int z0] (MdW E q) (fun (vm : Vf) (r : Int32) (vm' : Vf) => (DriP vm z0 r (vm' = vm) (Ag (drN vm z0.toNatClampNeg) vm')) ∧ fr [23, 25, 27, 28, 30] vm vm') := by
  rintro sz vm _ ⟨am, rfl, rfl, hMI⟩
  exact ⟨⟨_, rfl⟩, _, _, _, c_X10_drift l E sz am vm z0 hMI, fun r u h => ⟨_, ⟨_, rfl, rfl, h.1.1⟩, ⟨h.2, h.1.2⟩⟩⟩
theorem t_X9_level (l : Launch) (E : Ev) (A : Nat → Prop) (q : Nat) (z0 : Int32) (z1 : Int32) (z2 : Int32) : CalR l yX9_level wsX9_level rm_X9_level E A q 9 [.int z0, .int z1, .int z2] (TgW E q) (fun _ _ => True) := by
  rintro ⟨v, vp, vs, vi, vj⟩ _ ⟨a, cz0, cz1, rt, rp, aq, vq, ap, as_, ai, bi, rfl, rfl, hTA⟩
  exact ⟨tgsL E (up1 (up1 a 201 cz0) 202 cz1) v aq ap vp as_ vs, tgPos, _, _, rfl, rfl, c_X9_level l E A (up1 (up1 a 201 cz0) 202 cz1) v aq ap vp as_ vs z0 z1 z2 hTA.2.2.1 hTA.2.2.2.2.1 hTA.1, fun _ _ => trivial⟩
theorem t_X10_level (l : Launch) (E : Ev) (A : Nat → Prop) (q : Nat) (z0 : Int32) (z1 : Int32) (z2 : Int32) : CalR l yX10_level wsX10_level rm_X10_level E A q 10 [.int z0, .int z1, .int z2] (MdW E q) (fun _ _ => True) := by
  rintro vm _ ⟨am, rfl, rfl, hMI⟩
  exact ⟨mdL E am vm, List.range 46, _, _, rfl, rfl, c_X10_level l E A am vm z0 z1 z2 hMI.1, fun _ _ => trivial⟩
theorem t_X9_aslant (l : Launch) (E : Ev) (A : Nat → Prop) (q : Nat) (z0 : Int32) : CalR l yX9_aslant wsX9_aslant rm_X9_aslant E A q 9 [.int z0] (TgW E q) (fun _ _ => True) := by
  rintro ⟨v, vp, vs, vi, vj⟩ _ ⟨a, cz0, cz1, rt, rp, aq, vq, ap, as_, ai, bi, rfl, rfl, hTA⟩
  exact ⟨tgsL E (up1 (up1 a 201 cz0) 202 cz1) v aq ap vp as_ vs, tgPos, _, _, rfl, rfl, c_X9_aslant l E A (up1 (up1 a 201 cz0) 202 cz1) v aq ap vp as_ vs z0 hTA.2.2.1 hTA.2.2.2.2.1 hTA.1, fun _ _ => trivial⟩
theorem t_X10_aslant (l : Launch) (E : Ev) (A : Nat → Prop) (q : Nat) (z0 : Int32) : CalR l yX10_aslant wsX10_aslant rm_X10_aslant E A q 10 [.int z0] (MdW E q) (fun _ _ => True) := by
  rintro vm _ ⟨am, rfl, rfl, hMI⟩
  exact ⟨mdL E am vm, List.range 46, _, _, rfl, rfl, c_X10_aslant l E A am vm z0 hMI.1, fun _ _ => trivial⟩
theorem t_X9_turn (l : Launch) (E : Ev) (A : Nat → Prop) (q : Nat) (z0 : Int32) (z1 : Int32) (z2 : Int32) : CalR l yX9_turn wsX9_turn rm_X9_turn E A q 9 [.int z0, .int z1, .int z2] (TgW E q) (fun _ _ => True) := by
  rintro ⟨v, vp, vs, vi, vj⟩ _ ⟨a, cz0, cz1, rt, rp, aq, vq, ap, as_, ai, bi, rfl, rfl, hTA⟩
  exact ⟨tgsL E (up1 (up1 a 201 cz0) 202 cz1) v aq ap vp as_ vs, tgPos, _, _, rfl, rfl, c_X9_turn l E A (up1 (up1 a 201 cz0) 202 cz1) v aq ap vp as_ vs z0 z1 z2 hTA.2.2.1 hTA.2.2.2.2.1 hTA.1, fun _ _ => trivial⟩
theorem t_X10_turn (l : Launch) (E : Ev) (A : Nat → Prop) (q : Nat) (z0 : Int32) (z1 : Int32) (z2 : Int32) : CalR l yX10_turn wsX10_turn rm_X10_turn E A q 10 [.int z0, .int z1, .int z2] (MdW E q) (fun _ _ => True) := by
  rintro vm _ ⟨am, rfl, rfl, hMI⟩
  exact ⟨mdL E am vm, List.range 46, _, _, rfl, rfl, c_X10_turn l E A am vm z0 z1 z2 hMI.1, fun _ _ => trivial⟩
theorem t_X9_most (l : Launch) (E : Ev) (A : Nat → Prop) (q : Nat) (z0 : Int32) (z1 : Int32) (z2 : Int32) (z3 : Int32) : CalR l yX9_most wsX9_most rm_X9_most E A q 9 [.int z0, .int z1, .int z2, .int z3] (TgW E q) (fun _ _ => True) := by
  rintro ⟨v, vp, vs, vi, vj⟩ _ ⟨a, cz0, cz1, rt, rp, aq, vq, ap, as_, ai, bi, rfl, rfl, hTA⟩
  exact ⟨tgsL E (up1 (up1 a 201 cz0) 202 cz1) v aq ap vp as_ vs, tgPos, _, _, rfl, rfl, c_X9_most l E A (up1 (up1 a 201 cz0) 202 cz1) v aq ap vp as_ vs z0 z1 z2 z3 hTA.2.2.1 hTA.2.2.2.2.1 hTA.1, fun _ _ => trivial⟩
theorem t_X10_most (l : Launch) (E : Ev) (A : Nat → Prop) (q : Nat) (z0 : Int32) (z1 : Int32) (z2 : Int32) (z3 : Int32) : CalR l yX10_most wsX10_most rm_X10_most E A q 10 [.int z0, .int z1, .int z2, .int z3] (MdW E q) (fun _ _ => True) := by
  rintro vm _ ⟨am, rfl, rfl, hMI⟩
  exact ⟨mdL E am vm, List.range 46, _, _, rfl, rfl, c_X10_most l E A am vm z0 z1 z2 z3 hMI.1, fun _ _ => trivial⟩
theorem t_X9_bell (l : Launch) (E : Ev) (A : Nat → Prop) (q : Nat) (z0 : Int32) (z1 : Int32) (z2 : Int32) (z3 : Int32) (z4 : Int32) : CalR l yX9_bell wsX9_bell rm_X9_bell E A q 9 [.int z0, .int z1, .int z2, .int z3, .int z4] (TgW E q) (fun _ _ => True) := by
  rintro ⟨v, vp, vs, vi, vj⟩ _ ⟨a, cz0, cz1, rt, rp, aq, vq, ap, as_, ai, bi, rfl, rfl, hTA⟩
  exact ⟨tgsL E (up1 (up1 a 201 cz0) 202 cz1) v aq ap vp as_ vs, tgPos, _, _, rfl, rfl, c_X9_bell l E A (up1 (up1 a 201 cz0) 202 cz1) v aq ap vp as_ vs z0 z1 z2 z3 z4 hTA.2.2.1 hTA.2.2.2.2.1 hTA.1, fun _ _ => trivial⟩
theorem t_X10_bell (l : Launch) (E : Ev) (A : Nat → Prop) (q : Nat) (z0 : Int32) (z1 : Int32) (z2 : Int32) (z3 : Int32) (z4 : Int32) : CalR l yX10_bell wsX10_bell rm_X10_bell E A q 10 [.int z0, .int z1, .int z2, .int z3, .int z4] (MdW E q) (fun _ _ => True) := by
  rintro vm _ ⟨am, rfl, rfl, hMI⟩
  exact ⟨mdL E am vm, List.range 46, _, _, rfl, rfl, c_X10_bell l E A am vm z0 z1 z2 z3 z4 hMI.1, fun _ _ => trivial⟩
theorem t_X9_breaks (l : Launch) (E : Ev) (A : Nat → Prop) (q : Nat) (z0 : Int32) (z1 : Int32) : CalR l yX9_breaks wsX9_breaks rm_X9_breaks E A q 9 [.int z0, .int z1] (TgW E q) (fun _ _ => True) := by
  rintro ⟨v, vp, vs, vi, vj⟩ _ ⟨a, cz0, cz1, rt, rp, aq, vq, ap, as_, ai, bi, rfl, rfl, hTA⟩
  exact ⟨tgsL E (up1 (up1 a 201 cz0) 202 cz1) v aq ap vp as_ vs, tgPos, _, _, rfl, rfl, c_X9_breaks l E A (up1 (up1 a 201 cz0) 202 cz1) v aq ap vp as_ vs z0 z1 hTA.2.2.1 hTA.2.2.2.2.1 hTA.1, fun _ _ => trivial⟩
theorem t_X10_breaks (l : Launch) (E : Ev) (A : Nat → Prop) (q : Nat) (z0 : Int32) (z1 : Int32) : CalR l yX10_breaks wsX10_breaks rm_X10_breaks E A q 10 [.int z0, .int z1] (MdW E q) (fun _ _ => True) := by
  rintro vm _ ⟨am, rfl, rfl, hMI⟩
  exact ⟨mdL E am vm, List.range 46, _, _, rfl, rfl, c_X10_breaks l E A am vm z0 z1 hMI.1, fun _ _ => trivial⟩
theorem t_X9_props (l : Launch) (E : Ev) (A : Nat → Prop) (q : Nat) (z0 : Int32) : CalR l yX9_props wsX9_props rm_X9_props E A q 9 [.int z0] (TgW E q) (fun _ _ => True) := by
  rintro ⟨v, vp, vs, vi, vj⟩ _ ⟨a, cz0, cz1, rt, rp, aq, vq, ap, as_, ai, bi, rfl, rfl, hTA⟩
  exact ⟨tgsL E (up1 (up1 a 201 cz0) 202 cz1) v aq ap vp as_ vs, tgPos, _, _, rfl, rfl, c_X9_props l E A (up1 (up1 a 201 cz0) 202 cz1) v aq ap vp as_ vs z0 hTA.2.2.1 hTA.2.2.2.2.1 hTA.1, fun _ _ => trivial⟩
theorem t_X10_props (l : Launch) (E : Ev) (A : Nat → Prop) (q : Nat) (z0 : Int32) : CalR l yX10_props wsX10_props rm_X10_props E A q 10 [.int z0] (MdW E q) (fun _ _ => True) := by
  rintro vm _ ⟨am, rfl, rfl, hMI⟩
  exact ⟨mdL E am vm, List.range 46, _, _, rfl, rfl, c_X10_props l E A am vm z0 hMI.1, fun _ _ => trivial⟩
theorem t_X9_soonest (l : Launch) (E : Ev) (A : Nat → Prop) (q : Nat) (z0 : Int32) (z1 : Int32) (z2 : Int32) : CalR l yX9_soonest wsX9_soonest rm_X9_soonest E A q 9 [.int z0, .int z1, .int z2] (TgW E q) (fun _ _ => True) := by
  rintro ⟨v, vp, vs, vi, vj⟩ _ ⟨a, cz0, cz1, rt, rp, aq, vq, ap, as_, ai, bi, rfl, rfl, hTA⟩
  exact ⟨tgsL E (up1 (up1 a 201 cz0) 202 cz1) v aq ap vp as_ vs, tgPos, _, _, rfl, rfl, c_X9_soonest l E A (up1 (up1 a 201 cz0) 202 cz1) v aq ap vp as_ vs z0 z1 z2 hTA.2.2.1 hTA.2.2.2.2.1 hTA.1, fun _ _ => trivial⟩
theorem t_X10_soonest (l : Launch) (E : Ev) (A : Nat → Prop) (q : Nat) (z0 : Int32) (z1 : Int32) (z2 : Int32) : CalR l yX10_soonest wsX10_soonest rm_X10_soonest E A q 10 [.int z0, .int z1, .int z2] (MdW E q) (fun _ _ => True) := by
  rintro vm _ ⟨am, rfl, rfl, hMI⟩
  exact ⟨mdL E am vm, List.range 46, _, _, rfl, rfl, c_X10_soonest l E A am vm z0 z1 z2 hMI.1, fun _ _ => trivial⟩
theorem t_X9_least (l : Launch) (E : Ev) (q : Nat) (z0 : Int32) (z1 : Int32) (z2 : Int32) (z3 : Int32) (z4 : Int32) : CalM l yX9_least wsX9_least rm_X9_least E q 9 [.int z0, .int z1, .int z2, .int z3, .int z4] (TgW E q) (fun (X : TgX) (r : Int32) (X' : TgX) => (∀ vm : Vf, RW vm X.2.1 X.2.2.1 → (-1 : Int32) = vm 62 0 → UnkP (0 ≤ (mOP vm z0).toInt ∧ 0 ≤ (mOP vm z1).toInt) r (OutP ((0 ≤ z2.toInt ∧ z2.toInt ≤ 900000) ∧ 1 ≤ z3.toInt ∧ z3.toInt ≤ 40) r (LeaR vm (mOP vm z0) (mOP vm z1) z2 z3.toNatClampNeg z4 r))) ∧ KpX X X') := by
  rintro sz ⟨v, vp, vs, vi, vj⟩ _ ⟨a, cz0, cz1, rt, rp, aq, vq, ap, as_, ai, bi, rfl, rfl, hTA⟩
  exact ⟨⟨_, rfl⟩, _, _, _, c_X9_least l E sz a v cz0 cz1 rt rp aq vq ap vp as_ vs ai vi bi vj z0 z1 z2 z3 z4 hTA, fun r u h => ⟨(_, _, _, _, _), ⟨_, _, _, _, _, _, _, _, _, _, _, rfl, rfl, h.1.1⟩, ⟨h.2, kp.of h.1.2 (by decide), rfl⟩⟩⟩
theorem t_X10_least (l : Launch) (E : Ev) (q : Nat) (z0 : Int32) (z1 : Int32) (z2 : Int32) (z3 : Int32) (z4 : Int32) : CalM l yX10_least wsX10_least rm_X10_least E q 10 [.int z0, .int z1, .int z2, .int z3, .int z4] (MdW E q) (fun (vm : Vf) (r : Int32) (vm' : Vf) => (UnkP (0 ≤ (mOP vm z0).toInt ∧ 0 ≤ (mOP vm z1).toInt) r (OutP ((0 ≤ z2.toInt ∧ z2.toInt ≤ 900000) ∧ 1 ≤ z3.toInt ∧ z3.toInt ≤ 40) r (LeaR vm (mOP vm z0) (mOP vm z1) z2 z3.toNatClampNeg z4 r))) ∧ KpM vm vm') := by
  rintro sz vm _ ⟨am, rfl, rfl, hMI⟩
  exact ⟨⟨_, rfl⟩, _, _, _, c_X10_least l E sz am vm z0 z1 z2 z3 z4 hMI, fun r u h => ⟨_, ⟨_, rfl, rfl, h.1.1⟩, ⟨h.2, kp.of h.1.2 (by decide), f24 h.1.2 (by decide)⟩⟩⟩
theorem t_X9_water (l : Launch) (E : Ev) (q : Nat) (z0 : Int32) (z1 : Int32) (z2 : Int32) : CalM l yX9_water wsX9_water rm_X9_water E q 9 [.int z0, .int z1, .int z2] (TgW E q) (fun (X : TgX) (r : Int32) (X' : TgX) => (∀ vm : Vf, RW vm X.2.1 X.2.2.1 → (-1 : Int32) = vm 62 0 → OutP ((0 ≤ z0.toInt ∧ z0.toInt ≤ 9999) ∧ (0 ≤ z1.toInt ∧ z1.toInt ≤ 900000) ∧ 0 ≤ z2.toInt ∧ z2.toInt ≤ 2) r (NotP ((vm 16 0).toInt ≠ 0) r (WatR vm z0 z1 z2 r))) ∧ KpX X X') := by
  rintro sz ⟨v, vp, vs, vi, vj⟩ _ ⟨a, cz0, cz1, rt, rp, aq, vq, ap, as_, ai, bi, rfl, rfl, hTA⟩
  exact ⟨⟨_, rfl⟩, _, _, _, c_X9_water l E sz a v cz0 cz1 rt rp aq vq ap vp as_ vs ai vi bi vj z0 z1 z2 hTA, fun r u h => ⟨(_, _, _, _, _), ⟨_, _, _, _, _, _, _, _, _, _, _, rfl, rfl, h.1.1⟩, ⟨h.2, kp.of h.1.2 (by decide), rfl⟩⟩⟩
theorem t_X10_water (l : Launch) (E : Ev) (q : Nat) (z0 : Int32) (z1 : Int32) (z2 : Int32) : CalM l yX10_water wsX10_water rm_X10_water E q 10 [.int z0, .int z1, .int z2] (MdW E q) (fun (vm : Vf) (r : Int32) (vm' : Vf) => (OutP ((0 ≤ z0.toInt ∧ z0.toInt ≤ 9999) ∧ (0 ≤ z1.toInt ∧ z1.toInt ≤ 900000) ∧ 0 ≤ z2.toInt ∧ z2.toInt ≤ 2) r (NotP ((vm 16 0).toInt ≠ 0) r (WatR vm z0 z1 z2 r))) ∧ KpM vm vm') := by
  rintro sz vm _ ⟨am, rfl, rfl, hMI⟩
  exact ⟨⟨_, rfl⟩, _, _, _, c_X10_water l E sz am vm z0 z1 z2 hMI, fun r u h => ⟨_, ⟨_, rfl, rfl, h.1.1⟩, ⟨h.2, kp.of h.1.2 (by decide), f24 h.1.2 (by decide)⟩⟩⟩
theorem t_X9_whose (l : Launch) (E : Ev) (A : Nat → Prop) (q : Nat) (z0 : Int32) (z1 : Int32) : CalR l yX9_whose wsX9_whose rm_X9_whose E A q 9 [.int z0, .int z1] (TgW E q) (fun _ _ => True) := by
  rintro ⟨v, vp, vs, vi, vj⟩ _ ⟨a, cz0, cz1, rt, rp, aq, vq, ap, as_, ai, bi, rfl, rfl, hTA⟩
  exact ⟨tgsL E (up1 (up1 a 201 cz0) 202 cz1) v aq ap vp as_ vs, tgPos, _, _, rfl, rfl, c_X9_whose l E A (up1 (up1 a 201 cz0) 202 cz1) v aq ap vp as_ vs z0 z1 hTA.2.2.1 hTA.2.2.2.2.1 hTA.1, fun _ _ => trivial⟩
theorem t_X10_whose (l : Launch) (E : Ev) (A : Nat → Prop) (q : Nat) (z0 : Int32) (z1 : Int32) : CalR l yX10_whose wsX10_whose rm_X10_whose E A q 10 [.int z0, .int z1] (MdW E q) (fun _ _ => True) := by
  rintro vm _ ⟨am, rfl, rfl, hMI⟩
  exact ⟨mdL E am vm, List.range 46, _, _, rfl, rfl, c_X10_whose l E A am vm z0 z1 hMI.1, fun _ _ => trivial⟩
theorem t_X9_stays (l : Launch) (E : Ev) (A : Nat → Prop) (q : Nat) (z0 : Int32) : CalR l yX9_stays wsX9_stays rm_X9_stays E A q 9 [.int z0] (TgW E q) (fun _ _ => True) := by
  rintro ⟨v, vp, vs, vi, vj⟩ _ ⟨a, cz0, cz1, rt, rp, aq, vq, ap, as_, ai, bi, rfl, rfl, hTA⟩
  exact ⟨tgsL E (up1 (up1 a 201 cz0) 202 cz1) v aq ap vp as_ vs, tgPos, _, _, rfl, rfl, c_X9_stays l E A (up1 (up1 a 201 cz0) 202 cz1) v aq ap vp as_ vs z0 hTA.2.2.1 hTA.2.2.2.2.1 hTA.1, fun _ _ => trivial⟩
theorem t_X10_stays (l : Launch) (E : Ev) (A : Nat → Prop) (q : Nat) (z0 : Int32) : CalR l yX10_stays wsX10_stays rm_X10_stays E A q 10 [.int z0] (MdW E q) (fun _ _ => True) := by
  rintro vm _ ⟨am, rfl, rfl, hMI⟩
  exact ⟨mdL E am vm, List.range 46, _, _, rfl, rfl, c_X10_stays l E A am vm z0 hMI.1, fun _ _ => trivial⟩
theorem t_X9_see (l : Launch) (E : Ev) (q : Nat) (z0 : Int32) (z1 : Int32) (z2 : Int32) (z3 : Int32) : CalM l yX9_see wsX9_see rm_X9_see E q 9 [.int z0, .int z1, .int z2, .int z3] (TgW E q) (fun (X : TgX) (r : Int32) (X' : TgX) => (SeeP z0 z1 z2 z3 (X.2.1 0 0) (X.2.1 1 0) (X.1 401 0) r (X'.1 401 0) ∧ SeeR r (X.1 401 0) (X.2.1 0 0) z0 z1 z2 z3 (X.1 402) (X.1 403) (X.1 404) (X'.1 402) (X'.1 403) (X'.1 404)) ∧ KpV [401, 402, 403, 404] X X') := by
  rintro sz ⟨v, vp, vs, vi, vj⟩ _ ⟨a, cz0, cz1, rt, rp, aq, vq, ap, as_, ai, bi, rfl, rfl, hTA⟩
  exact ⟨⟨_, rfl⟩, _, _, _, c_X9_see l E sz a v cz0 cz1 rt rp aq vq ap vp as_ vs ai vi bi vj z0 z1 z2 z3 hTA, fun r u h => ⟨(_, _, _, _, _), ⟨_, _, _, _, _, _, _, _, _, _, _, rfl, rfl, h.1.1⟩, ⟨h.2, h.1.2, rfl⟩⟩⟩
theorem t_X10_see (l : Launch) (E : Ev) (q : Nat) (z0 : Int32) (z1 : Int32) (z2 : Int32) (z3 : Int32) : CalM l yX10_see wsX10_see rm_X10_see E q 10 [.int z0, .int z1, .int z2, .int z3] (MdW E q) (fun (vm : Vf) (r : Int32) (vm' : Vf) => (SeeP z0 z1 z2 z3 (vm 0 0) (vm 1 0) (vm 67 0) r (vm' 67 0) ∧ SeeR r (vm 67 0) (vm 0 0) z0 z1 z2 z3 (vm 68) (vm 69) (vm 70) (vm' 68) (vm' 69) (vm' 70)) ∧ fr [67, 68, 69, 70] vm vm') := by
  rintro sz vm _ ⟨am, rfl, rfl, hMI⟩
  exact ⟨⟨_, rfl⟩, _, _, _, c_X10_see l E sz am vm z0 z1 z2 z3 hMI, fun r u h => ⟨_, ⟨_, rfl, rfl, h.1.1⟩, ⟨h.2, h.1.2⟩⟩⟩
theorem t_X9_fits (l : Launch) (E : Ev) (q : Nat) (z0 : Int32) (z1 : Int32) : CalM l yX9_fits wsX9_fits rm_X9_fits E q 9 [.int z0, .int z1] (TgW E q) (fun (X : TgX) (r : Int32) (X' : TgX) => (∀ vm : Vf, RW vm X.2.1 X.2.2.1 → (-1 : Int32) = vm 62 0 → SgR (X.1 401 0) (X.1 402) (X.1 403) (X.1 404) vm → UnkP (z0.toInt = -1 ∨ (0 ≤ z1.toInt ∧ z1.toInt < (vm 4 0).toInt)) r (FitR vm z0 z1 r)) ∧ KpX X X') := by
  rintro sz ⟨v, vp, vs, vi, vj⟩ _ ⟨a, cz0, cz1, rt, rp, aq, vq, ap, as_, ai, bi, rfl, rfl, hTA⟩
  exact ⟨⟨_, rfl⟩, _, _, _, c_X9_fits l E sz a v cz0 cz1 rt rp aq vq ap vp as_ vs ai vi bi vj z0 z1 hTA, fun r u h => ⟨(_, _, _, _, _), ⟨_, _, _, _, _, _, _, _, _, _, _, rfl, rfl, h.1.1⟩, ⟨h.2, kp.of h.1.2 (by decide), rfl⟩⟩⟩
theorem t_X10_fits (l : Launch) (E : Ev) (q : Nat) (z0 : Int32) (z1 : Int32) : CalM l yX10_fits wsX10_fits rm_X10_fits E q 10 [.int z0, .int z1] (MdW E q) (fun (vm : Vf) (r : Int32) (vm' : Vf) => (UnkP (z0.toInt = -1 ∨ (0 ≤ z1.toInt ∧ z1.toInt < (vm 4 0).toInt)) r (FitR vm z0 z1 r)) ∧ KpM vm vm') := by
  rintro sz vm _ ⟨am, rfl, rfl, hMI⟩
  exact ⟨⟨_, rfl⟩, _, _, _, c_X10_fits l E sz am vm z0 z1 hMI, fun r u h => ⟨_, ⟨_, rfl, rfl, h.1.1⟩, ⟨h.2.2, kp.of h.1.2 (by decide), h.2.1⟩⟩⟩
theorem t_X9_look (l : Launch) (E : Ev) (q : Nat) (z0 : Int32) : CalM l yX9_look wsX9_look rm_X9_look E q 9 [.int z0] (TgW E q) (fun (X : TgX) (r : Int32) (X' : TgX) => (∀ vm : Vf, RW vm X.2.1 X.2.2.1 → (-1 : Int32) = vm 62 0 → SgR (X.1 401 0) (X.1 402) (X.1 403) (X.1 404) vm → OutP (0 ≤ z0.toInt ∧ z0.toInt ≤ 2) r (LooR vm z0 r)) ∧ KpX X X') := by
  rintro sz ⟨v, vp, vs, vi, vj⟩ _ ⟨a, cz0, cz1, rt, rp, aq, vq, ap, as_, ai, bi, rfl, rfl, hTA⟩
  exact ⟨⟨_, rfl⟩, _, _, _, c_X9_look l E sz a v cz0 cz1 rt rp aq vq ap vp as_ vs ai vi bi vj z0 hTA, fun r u h => ⟨(_, _, _, _, _), ⟨_, _, _, _, _, _, _, _, _, _, _, rfl, rfl, h.1.1⟩, ⟨h.2, kp.of h.1.2 (by decide), rfl⟩⟩⟩
theorem t_X10_look (l : Launch) (E : Ev) (q : Nat) (z0 : Int32) : CalM l yX10_look wsX10_look rm_X10_look E q 10 [.int z0] (MdW E q) (fun (vm : Vf) (r : Int32) (vm' : Vf) => (OutP (0 ≤ z0.toInt ∧ z0.toInt ≤ 2) r (LooR vm z0 r)) ∧ KpM vm vm') := by
  rintro sz vm _ ⟨am, rfl, rfl, hMI⟩
  exact ⟨⟨_, rfl⟩, _, _, _, c_X10_look l E sz am vm z0 hMI, fun r u h => ⟨_, ⟨_, rfl, rfl, h.1.1⟩, ⟨h.2.2, kp.of h.1.2 (by decide), h.2.1⟩⟩⟩
theorem t_X9_odds (l : Launch) (E : Ev) (A : Nat → Prop) (q : Nat) (z0 : Int32) (z1 : Int32) (z2 : Int32) (z3 : Int32) (z4 : Int32) (z5 : Int32) : CalR l yX9_odds wsX9_odds rm_X9_odds E A q 9 [.int z0, .int z1, .int z2, .int z3, .int z4, .int z5] (TgW E q) (fun _ _ => True) := by
  rintro ⟨v, vp, vs, vi, vj⟩ _ ⟨a, cz0, cz1, rt, rp, aq, vq, ap, as_, ai, bi, rfl, rfl, hTA⟩
  exact ⟨tgsL E (up1 (up1 a 201 cz0) 202 cz1) v aq ap vp as_ vs, tgPos, _, _, rfl, rfl, c_X9_odds l E A (up1 (up1 a 201 cz0) 202 cz1) v aq ap vp as_ vs z0 z1 z2 z3 z4 z5 hTA.2.2.1 hTA.2.2.2.2.1 hTA.1, fun _ _ => trivial⟩
theorem t_X10_odds (l : Launch) (E : Ev) (q : Nat) (z0 : Int32) (z1 : Int32) (z2 : Int32) (z3 : Int32) (z4 : Int32) (z5 : Int32) : CalM l yX10_odds wsX10_odds rm_X10_odds E q 10 [.int z0, .int z1, .int z2, .int z3, .int z4, .int z5] (MdW E q) (fun (vm : Vf) (r : Int32) (vm' : Vf) => (UnkP ((0 ≤ z0.toInt ∧ z0.toInt < (vm 4 0).toInt) ∧ inG z2 z3 (vm 0 0) (vm 1 0)) r (OutP ((0 ≤ z1.toInt ∧ z1.toInt ≤ 100) ∧ (0 ≤ z4.toInt ∧ z4.toInt ≤ 999) ∧ (0 ≤ z5.toInt ∧ z5.toInt ≤ 900000)) r (r = mOdd vm z0 z1 (mC vm z2 z3) z4 z5))) ∧ KpM vm vm') := by
  rintro sz vm _ ⟨am, rfl, rfl, hMI⟩
  exact ⟨⟨_, rfl⟩, _, _, _, c_X10_odds l E sz am vm z0 z1 z2 z3 z4 z5 hMI, fun r u h => ⟨_, ⟨_, rfl, rfl, h.1.1⟩, ⟨h.2, kp.of h.1.2 (by decide), f24 h.1.2 (by decide)⟩⟩⟩
theorem t_X9_write (l : Launch) (E : Ev) (q : Nat) (z0 : Int32) : CalM l yX9_write wsX9_write rm_X9_write E q 9 [.int z0] (TgW E q) (fun (X : TgX) (r : Int32) (X' : TgX) => (CntP (0 ≤ z0.toInt ∧ z0.toInt ≤ 4) 30 (X.1 12 0) r (X'.1 12 0) ∧ RowP r (X.1 12 0) (X.1 11) (X'.1 11) z0) ∧ KpV [11, 12] X X') := by
  rintro sz ⟨v, vp, vs, vi, vj⟩ _ ⟨a, cz0, cz1, rt, rp, aq, vq, ap, as_, ai, bi, rfl, rfl, hTA⟩
  exact ⟨⟨_, rfl⟩, _, _, _, c_X9_write l E sz a v cz0 cz1 rt rp aq vq ap vp as_ vs ai vi bi vj z0 hTA, fun r u h => ⟨(_, _, _, _, _), ⟨_, _, _, _, _, _, _, _, _, _, _, rfl, rfl, h.1.1⟩, ⟨h.2, h.1.2, rfl⟩⟩⟩
theorem t_X10_write (l : Launch) (E : Ev) (q : Nat) (z0 : Int32) : CalM l yX10_write wsX10_write rm_X10_write E q 10 [.int z0] (MdW E q) (fun (vm : Vf) (r : Int32) (vm' : Vf) => (CntP (0 ≤ z0.toInt ∧ z0.toInt ≤ 4) 30 (vm 75 0) r (vm' 75 0) ∧ RowP r (vm 75 0) (vm 76) (vm' 76) z0) ∧ fr [75, 76] vm vm') := by
  rintro sz vm _ ⟨am, rfl, rfl, hMI⟩
  exact ⟨⟨_, rfl⟩, _, _, _, c_X10_write l E sz am vm z0 hMI, fun r u h => ⟨_, ⟨_, rfl, rfl, h.1.1⟩, ⟨h.2, h.1.2⟩⟩⟩
theorem t_X9_tear (l : Launch) (E : Ev) (q : Nat) : CalM l yX9_tear wsX9_tear rm_X9_tear E q 9 [] (TgW E q) (fun (X : TgX) (r : Int32) (X' : TgX) => (TearP (X.1 12 0) (X.1 401 0) r (X'.1 12 0) (X'.1 401 0)) ∧ KpV [12, 401] X X') := by
  rintro sz ⟨v, vp, vs, vi, vj⟩ _ ⟨a, cz0, cz1, rt, rp, aq, vq, ap, as_, ai, bi, rfl, rfl, hTA⟩
  exact ⟨⟨_, rfl⟩, _, _, _, c_X9_tear l E sz a v cz0 cz1 rt rp aq vq ap vp as_ vs ai vi bi vj  hTA, fun r u h => ⟨(_, _, _, _, _), ⟨_, _, _, _, _, _, _, _, _, _, _, rfl, rfl, h.1.1⟩, ⟨h.2, h.1.2, rfl⟩⟩⟩
theorem t_X10_tear (l : Launch) (E : Ev) (q : Nat) : CalM l yX10_tear wsX10_tear rm_X10_tear E q 10 [] (MdW E q) (fun (vm : Vf) (r : Int32) (vm' : Vf) => (TearP (vm 75 0) (vm 67 0) r (vm' 75 0) (vm' 67 0)) ∧ fr [67, 75] vm vm') := by
  rintro sz vm _ ⟨am, rfl, rfl, hMI⟩
  exact ⟨⟨_, rfl⟩, _, _, _, c_X10_tear l E sz am vm  hMI, fun r u h => ⟨_, ⟨_, rfl, rfl, h.1.1⟩, ⟨h.2, h.1.2⟩⟩⟩
theorem t_X9_judge (l : Launch) (E : Ev) (A : Nat → Prop) (q : Nat) (z0 : Int32) : CalR l yX9_judge wsX9_judge rm_X9_judge E A q 9 [.int z0] (TgW E q) (fun _ _ => True) := by
  rintro ⟨v, vp, vs, vi, vj⟩ _ ⟨a, cz0, cz1, rt, rp, aq, vq, ap, as_, ai, bi, rfl, rfl, hTA⟩
  exact ⟨tgsL E (up1 (up1 a 201 cz0) 202 cz1) v aq ap vp as_ vs, tgPos, _, _, rfl, rfl, c_X9_judge l E A (up1 (up1 a 201 cz0) 202 cz1) v aq ap vp as_ vs z0 hTA.2.2.1 hTA.2.2.2.2.1 hTA.1, fun _ _ => trivial⟩
theorem t_X10_judge (l : Launch) (E : Ev) (A : Nat → Prop) (q : Nat) (z0 : Int32) : CalR l yX10_judge wsX10_judge rm_X10_judge E A q 10 [.int z0] (MdW E q) (fun _ _ => True) := by
  rintro vm _ ⟨am, rfl, rfl, hMI⟩
  exact ⟨mdL E am vm, List.range 46, _, _, rfl, rfl, c_X10_judge l E A am vm z0 hMI.1, fun _ _ => trivial⟩
theorem t_X9_seed (l : Launch) (E : Ev) (q : Nat) (z0 : Int32) : CalM l yX9_seed wsX9_seed rm_X9_seed E q 9 [.int z0] (TgW E q) (fun (X : TgX) (r : Int32) (X' : TgX) => (SetP z0 0 2147483647 (X.2.2.1 7 0) r (X'.2.2.1 7 0)) ∧ KpS [7] X X') := by
  rintro sz ⟨v, vp, vs, vi, vj⟩ _ ⟨a, cz0, cz1, rt, rp, aq, vq, ap, as_, ai, bi, rfl, rfl, hTA⟩
  exact ⟨⟨_, rfl⟩, _, _, _, c_X9_seed l E sz a v cz0 cz1 rt rp aq vq ap vp as_ vs ai vi bi vj z0 hTA, fun r u h => ⟨(_, _, _, _, _), ⟨_, _, _, _, _, _, _, _, _, _, _, rfl, rfl, h.1.1⟩, ⟨h.2, h.1.2, rfl, rfl, rfl⟩⟩⟩
theorem t_X10_seed (l : Launch) (E : Ev) (q : Nat) (z0 : Int32) : CalM l yX10_seed wsX10_seed rm_X10_seed E q 10 [.int z0] (MdW E q) (fun (vm : Vf) (r : Int32) (vm' : Vf) => (SetP z0 0 2147483647 (vm 30 0) r (vm' 30 0)) ∧ fr [30] vm vm') := by
  rintro sz vm _ ⟨am, rfl, rfl, hMI⟩
  exact ⟨⟨_, rfl⟩, _, _, _, c_X10_seed l E sz am vm z0 hMI, fun r u h => ⟨_, ⟨_, rfl, rfl, h.1.1⟩, ⟨h.2, h.1.2⟩⟩⟩
theorem t_X9_keep (l : Launch) (E : Ev) (q : Nat) (z0 : Int32) : CalM l yX9_keep wsX9_keep rm_X9_keep E q 9 [.int z0] (TgW E q) (fun (X : TgX) (r : Int32) (X' : TgX) => KeepC z0 X.2.2.1 X.2.2.2.1 X.2.2.2.2 X'.2.2.2.1 X'.2.2.2.2 ∧ X'.1 = X.1 ∧ X'.2.1 = X.2.1 ∧ X'.2.2.1 = X.2.2.1) := by
  rintro sz ⟨v, vp, vs, vi, vj⟩ _ ⟨a, cz0, cz1, rt, rp, aq, vq, ap, as_, ai, bi, rfl, rfl, hTA⟩
  exact ⟨⟨_, rfl⟩, _, _, _, c_X9_keep l E sz a v cz0 cz1 rt rp aq vq ap vp as_ vs ai vi bi vj z0 hTA, fun r u h => ⟨(_, _, _, _, _), ⟨_, _, _, _, _, _, _, _, _, _, _, rfl, rfl, h.1.1⟩, ⟨h.2, rfl, rfl, rfl⟩⟩⟩
theorem t_X10_keep (l : Launch) (E : Ev) (q : Nat) (z0 : Int32) : CalM l yX10_keep wsX10_keep rm_X10_keep E q 10 [.int z0] (MdW E q) (fun (vm : Vf) (r : Int32) (vm' : Vf) => KeepM z0 vm vm' ∧ fr [77, 78] vm vm') := by
  rintro sz vm _ ⟨am, rfl, rfl, hMI⟩
  exact ⟨⟨_, rfl⟩, _, _, _, c_X10_keep l E sz am vm z0 hMI, fun r u h => ⟨_, ⟨_, rfl, rfl, h.1.1.1⟩, ⟨h.2, h.1.2⟩⟩⟩
theorem t_X9_goBack (l : Launch) (E : Ev) (q : Nat) (z0 : Int32) : CalM l yX9_goBack wsX9_goBack rm_X9_goBack E q 9 [.int z0] (TgW E q) (fun (X : TgX) (r : Int32) (X' : TgX) => GoC z0 X.2.2.1 X.2.2.2.1 X.2.2.2.2 r X'.2.2.1 ∧ X'.1 = X.1 ∧ X'.2.1 = X.2.1 ∧ X'.2.2.2 = X.2.2.2) := by
  rintro sz ⟨v, vp, vs, vi, vj⟩ _ ⟨a, cz0, cz1, rt, rp, aq, vq, ap, as_, ai, bi, rfl, rfl, hTA⟩
  exact ⟨⟨_, rfl⟩, _, _, _, c_X9_goBack l E sz a v cz0 cz1 rt rp aq vq ap vp as_ vs ai vi bi vj z0 hTA, fun r u h => ⟨(_, _, _, _, _), ⟨_, _, _, _, _, _, _, _, _, _, _, rfl, rfl, h.1⟩, ⟨h.2, rfl, rfl, rfl⟩⟩⟩
theorem t_X10_goBack (l : Launch) (E : Ev) (q : Nat) (z0 : Int32) : CalM l yX10_goBack wsX10_goBack rm_X10_goBack E q 10 [.int z0] (MdW E q) (fun (vm : Vf) (r : Int32) (vm' : Vf) => GoM z0 vm r vm' ∧ fr [23, 24, 25, 26, 27, 28, 29, 30] vm vm') := by
  rintro sz vm _ ⟨am, rfl, rfl, hMI⟩
  exact ⟨⟨_, rfl⟩, _, _, _, c_X10_goBack l E sz am vm z0 hMI, fun r u h => ⟨_, ⟨_, rfl, rfl, h.1.1⟩, ⟨h.2, h.1.2⟩⟩⟩
