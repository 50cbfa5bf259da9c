/-! surety, on -/
theorem mX.both {B a k : Nat} {v : Int32} {W : Nat → Nat → Prop} {g g' : mm_H} (x : mX B W g g') : mX B W (mm_setI g a k v) (mm_setI g' a k v) := ⟨x.1, x.2.1, fun b j hb => ⟨fun w => ⟨by rw [i_I, i_I, ((x.2.2 b j hb).1 w).1], ((x.2.2 b j hb).1 w).2⟩, (x.2.2 b j hb).2⟩⟩
section SZ
variable {B : Nat} {h hx hy hx' hy' : mm_H} {ow ow' : Nat → Nat × Nat} {n nm nl nb : Nat} {am al : Nat → Nat} {P C : Nat → Nat} {A U U' : Nat → Nat → Nat} {T : Nat → Int32} {x : Nat}
theorem RBg.upB (R : RBg B ow hx hy nm n A U T) (x : mY B ow [127, 128, 129] hx hx') (y : mY B ow [28, 29] hy hy') : RBg B ow hx' hy' nm n A U T := R.up x mO.rf y (by decide) (by decide) (by decide)
theorem T_surety (S : mS B h) (N : RNow B h) (M : RMn B ow h h nm am) (R : RBg B ow h h nm n A U T) (a b : Int32) : ∃ r h1 h2 U', fX11_surety B a b h = some (r, h1) ∧ fX12_surety (B + 66) a b h1 = some (r, h2) ∧ mY B ow [28, 29, 127, 128, 129] h h2 ∧ RBg B ow h2 h2 nm n A U' T ∧ ∀ j, n ≤ j → mm_i h2 (B + 106) j = mm_i h (B + 106) j := by
  have hB := S.1
  have same : mY B ow [28, 29, 127, 128, 129] h h := mX.rf hB
  obtain ⟨N1, N2, N3⟩ := N
  obtain ⟨f1, f2⟩ := x_bargainAt S R.2.1
  obtain ⟨g1, g2⟩ := y_isBargain S R.2.2.1 R.1
  obtain ⟨v1, v2⟩ := x_manThere S M.2.1 (a := b)
  have G := y_isThere S M N3 (a := b)
  unfold fX11_surety fX12_surety
  by_cases c1 : ∃ k, k < n ∧ a = nI k
  case neg => exact ⟨-1, h, h, U, by simp only [q_rf, q_lt, q_cl, q_jn, q_b, q_b1, q_ck, kd_I, kd_J, kd_R, n_I, n_J, n_R, r_I, r_J, c_I, c_J, c_R, i_J, i_R, j_I, j_R, y_in, y_isDay, x_within, x_isDay, x_isTown, sk0 S, f2 a c1, q_10, q_01, eq_self, i_I, Nat.reduceEqDiff, Nat.add_left_cancel_iff, Nat.add_eq_left, Nat.left_eq_add, and_false, false_and, and_true, true_and, if_true, if_false, and_self, not_true, not_false_iff, reduceCtorEq], by simp only [q_rf, q_lt, q_cl, q_jn, q_b, q_b1, q_ck, kd_I, kd_J, kd_R, n_I, n_J, n_R, r_I, r_J, c_I, c_J, c_R, i_J, i_R, j_I, j_R, y_in, y_isDay, x_within, x_isDay, x_isTown, sk66 S, g2 a c1, q_10, q_01, eq_self, i_I, Nat.reduceEqDiff, Nat.add_left_cancel_iff, Nat.add_eq_left, Nat.left_eq_add, and_false, false_and, and_true, true_and, if_true, if_false, and_self, not_true, not_false_iff, reduceCtorEq], same, R, fun _ _ => rfl⟩
  obtain ⟨k, hk, rfl⟩ := c1
  have n9 := R.1
  have m9 := M.1
  have kdA := (R.2.1.2.2.2 k hk).2
  have M0 := (R.2.2.2.1 k hk).1
  obtain ⟨⟨r1, r2, r3⟩, -, ⟨r4, r5, r6⟩, r7, r8, r9⟩ := (R.2.2.2.1 k hk).2
  have hq := fun (β : Type) (z : Option β) => q_ckx (show k < 300 by omega) (by decide) z
  have hcl := nI_clamp (n := k) (by omega)
  obtain ⟨d1, d2, d3⟩ := M0.2.2.2.1
  obtain ⟨a1, a2, a3⟩ := M0.1
  obtain ⟨b1, b2, b3⟩ := M0.2.1
  have o6 := M0.2.2.1.1
  have o7 := M0.2.2.1.2
  have hO := M0.2.2.2.2.2.2.2.2.2
  have e3 : (nI (U 3 k) < 3) = (U 3 k < 3) := propext (nI_ltI (b := 3) (by omega) (by omega))
  have e3' : (nI (U 3 k) = 3) = (U 3 k = 3) := propext (nI_eq (b := 3) (by omega) (by omega))
  have e0 : (nI (U 2 k) = 0) = (U 2 k = 0) := propext (by rw [← nI_0]; exact nI_eq (by omega) (by omega))
  by_cases c2 : U 2 k = 0
  case pos =>
    have e0t : (nI (U 2 k) = 0) = True := by rw [e0]; exact eq_true c2
    exact ⟨-1, h, h, U, by simp only [q_rf, q_lt, q_cl, q_jn, q_b, q_b1, q_ck, kd_I, kd_J, kd_R, n_I, n_J, n_R, r_I, r_J, c_I, c_J, c_R, i_J, i_R, j_I, j_R, y_in, y_isDay, x_within, x_isDay, x_isTown, sk0 S, f1 k hk, kdA, o6, e0t, reduceCtorEq, q_10, q_01, eq_self, i_I, Nat.reduceEqDiff, Nat.add_left_cancel_iff, Nat.add_eq_left, Nat.left_eq_add, and_false, false_and, and_true, true_and, if_true, if_false, and_self, not_true, not_false_iff, reduceCtorEq], by simp only [q_rf, q_lt, q_cl, q_jn, q_b, q_b1, q_ck, kd_I, kd_J, kd_R, n_I, n_J, n_R, r_I, r_J, c_I, c_J, c_R, i_J, i_R, j_I, j_R, y_in, y_isDay, x_within, x_isDay, x_isTown, sb_ybarg S, g1 k hk, hq, hcl, d2, o7, e0t, ite_self, q_10, q_01, eq_self, i_I, Nat.reduceEqDiff, Nat.add_left_cancel_iff, Nat.add_eq_left, Nat.left_eq_add, and_false, false_and, and_true, true_and, if_true, if_false, and_self, not_true, not_false_iff, reduceCtorEq], same, R, fun _ _ => rfl⟩
  by_cases c3 : U 3 k < 3
  case neg =>
    have c3' : U 3 k = 3 := by omega
    have c3'' : nI (U 3 k) = 3 := by rw [c3']; decide +kernel
    exact ⟨-1, h, h, U, by simp only [q_rf, q_lt, q_cl, q_jn, q_b, q_b1, q_ck, kd_I, kd_J, kd_R, n_I, n_J, n_R, r_I, r_J, c_I, c_J, c_R, i_J, i_R, j_I, j_R, y_in, y_isDay, x_within, x_isDay, x_isTown, sk0 S, f1 k hk, kdA, o6, e0, c2, d1, e3, c3, reduceCtorEq, q_10, q_01, eq_self, i_I, Nat.reduceEqDiff, Nat.add_left_cancel_iff, Nat.add_eq_left, Nat.left_eq_add, and_false, false_and, and_true, true_and, if_true, if_false, and_self, not_true, not_false_iff, reduceCtorEq], by simp only [q_rf, q_lt, q_cl, q_jn, q_b, q_b1, q_ck, kd_I, kd_J, kd_R, n_I, n_J, n_R, r_I, r_J, c_I, c_J, c_R, i_J, i_R, j_I, j_R, y_in, y_isDay, x_within, x_isDay, x_isTown, sb_ybarg S, g1 k hk, hq, hcl, d2, c3'', q_10, q_01, eq_self, i_I, Nat.reduceEqDiff, Nat.add_left_cancel_iff, Nat.add_eq_left, Nat.left_eq_add, and_false, false_and, and_true, true_and, if_true, if_false, and_self, not_true, not_false_iff, reduceCtorEq], same, R, fun _ _ => rfl⟩
  have c3' : ¬ U 3 k = 3 := by omega
  by_cases c4 : isTh h nm am b
  case neg => exact ⟨-1, h, h, U, by simp only [q_rf, q_lt, q_cl, q_jn, q_b, q_b1, q_ck, kd_I, kd_J, kd_R, n_I, n_J, n_R, r_I, r_J, c_I, c_J, c_R, i_J, i_R, j_I, j_R, y_in, y_isDay, x_within, x_isDay, x_isTown, sk0 S, f1 k hk, kdA, o6, e0, c2, d1, e3, c3, v2 c4, reduceCtorEq, q_10, q_01, eq_self, i_I, Nat.reduceEqDiff, Nat.add_left_cancel_iff, Nat.add_eq_left, Nat.left_eq_add, and_false, false_and, and_true, true_and, if_true, if_false, and_self, not_true, not_false_iff, reduceCtorEq], by simp only [q_rf, q_lt, q_cl, q_jn, q_b, q_b1, q_ck, kd_I, kd_J, kd_R, n_I, n_J, n_R, r_I, r_J, c_I, c_J, c_R, i_J, i_R, j_I, j_R, y_in, y_isDay, x_within, x_isDay, x_isTown, sb_ybarg S, g1 k hk, hq, hcl, d2, o7, e0, c2, e3', c3', G.2 c4, q_10, q_01, eq_self, i_I, Nat.reduceEqDiff, Nat.add_left_cancel_iff, Nat.add_eq_left, Nat.left_eq_add, and_false, false_and, and_true, true_and, if_true, if_false, and_self, not_true, not_false_iff, reduceCtorEq], same, R, fun _ _ => rfl⟩
  obtain ⟨m, hm, rfl, hm4⟩ := id c4
  have es : (nI m = nI (U 0 k)) = (m = U 0 k) := propext (nI_eq (by omega) (by omega))
  have eb : (nI m = nI (U 1 k)) = (m = U 1 k) := propext (nI_eq (by omega) (by omega))
  by_cases c5 : m = U 0 k
  case pos => exact ⟨-1, h, h, U, by simp only [q_rf, q_lt, q_cl, q_jn, q_b, q_b1, q_ck, kd_I, kd_J, kd_R, n_I, n_J, n_R, r_I, r_J, c_I, c_J, c_R, i_J, i_R, j_I, j_R, y_in, y_isDay, x_within, x_isDay, x_isTown, sk0 S, f1 k hk, kdA, o6, e0, c2, d1, e3, c3, v1 c4, a1, es, eq_true c5, reduceCtorEq, q_10, q_01, eq_self, i_I, Nat.reduceEqDiff, Nat.add_left_cancel_iff, Nat.add_eq_left, Nat.left_eq_add, and_false, false_and, and_true, true_and, if_true, if_false, and_self, not_true, not_false_iff, reduceCtorEq], by simp only [q_rf, q_lt, q_cl, q_jn, q_b, q_b1, q_ck, kd_I, kd_J, kd_R, n_I, n_J, n_R, r_I, r_J, c_I, c_J, c_R, i_J, i_R, j_I, j_R, y_in, y_isDay, x_within, x_isDay, x_isTown, sb_ybarg S, g1 k hk, hq, hcl, d2, o7, e0, c2, e3', c3', G.1 c4, a2, es, eq_true c5, q_10, q_01, eq_self, i_I, Nat.reduceEqDiff, Nat.add_left_cancel_iff, Nat.add_eq_left, Nat.left_eq_add, and_false, false_and, and_true, true_and, if_true, if_false, and_self, not_true, not_false_iff, reduceCtorEq], same, R, fun _ _ => rfl⟩
  by_cases c6 : m = U 1 k
  case pos => exact ⟨-1, h, h, U, by simp only [q_rf, q_lt, q_cl, q_jn, q_b, q_b1, q_ck, kd_I, kd_J, kd_R, n_I, n_J, n_R, r_I, r_J, c_I, c_J, c_R, i_J, i_R, j_I, j_R, y_in, y_isDay, x_within, x_isDay, x_isTown, sk0 S, f1 k hk, kdA, o6, e0, c2, d1, e3, c3, v1 c4, a1, b1, es, eb, eq_true c6, c5, reduceCtorEq, q_10, q_01, eq_self, i_I, Nat.reduceEqDiff, Nat.add_left_cancel_iff, Nat.add_eq_left, Nat.left_eq_add, and_false, false_and, and_true, true_and, if_true, if_false, and_self, not_true, not_false_iff, reduceCtorEq], by simp only [q_rf, q_lt, q_cl, q_jn, q_b, q_b1, q_ck, kd_I, kd_J, kd_R, n_I, n_J, n_R, r_I, r_J, c_I, c_J, c_R, i_J, i_R, j_I, j_R, y_in, y_isDay, x_within, x_isDay, x_isTown, sb_ybarg S, g1 k hk, hq, hcl, d2, o7, e0, c2, e3', c3', G.1 c4, a2, b2, es, eb, eq_true c6, c5, q_10, q_01, eq_self, i_I, Nat.reduceEqDiff, Nat.add_left_cancel_iff, Nat.add_eq_left, Nat.left_eq_add, and_false, false_and, and_true, true_and, if_true, if_false, and_self, not_true, not_false_iff, reduceCtorEq], same, R, fun _ _ => rfl⟩
  have hS : fX0_hasSurety (A 0 k) (nI m) h = if anyF (fun i => decide (U (4 + i) k = m)) (U 3 k) 0 then some (1, h) else some (0, h) := by
    unfold fX0_hasSurety
    rw [← nI_0, x_hasSurety_L2 (q := U 3 k) (m := m) (u := fun i => U (4 + i) k) kdA d1 d3 r1 r4 r7 (fun i hi => by
      obtain ⟨⟨s1, s2, s3⟩, -⟩ := M0.2.2.2.2.2.2.2.1 i hi
      exact ⟨s1, by omega⟩) (by omega) _ (U 3 k) 0 mm_F (by omega) (by unfold mm_F; omega)]
  have hL := fun (g : mm_H) (Sg : mS B g) (d2g : mm_i g (B + 106) k = nI (U 3 k)) (hu : ∀ i, i < U 3 k → mm_i g (B + 107) (3 * k + i) = nI (U (4 + i) k) ∧ U (4 + i) k < 40) (K : mm_H → Option (Int32 × mm_H)) => y_surety_L59 Sg (k := k) (m := m) (q := U 3 k) (u := fun i => U (4 + i) k) (by omega) (by omega) d3 d2g hu K (U 3 k) 0 mm_F (by omega) (by unfold mm_F; omega)
  simp only [nI_0] at hL
  by_cases c7 : anyF (fun i => decide (U (4 + i) k = m)) (U 3 k) 0 = true
  case pos =>
    rw [if_pos c7] at hS
    refine ⟨-1, h, h, U, by simp only [q_rf, q_lt, q_cl, q_jn, q_b, q_b1, q_ck, kd_I, kd_J, kd_R, n_I, n_J, n_R, r_I, r_J, c_I, c_J, c_R, i_J, i_R, j_I, j_R, y_in, y_isDay, x_within, x_isDay, x_isTown, sk0 S, f1 k hk, kdA, o6, e0, c2, d1, e3, c3, v1 c4, a1, b1, es, eb, c5, c6, hS, reduceCtorEq, q_10, q_01, eq_self, i_I, Nat.reduceEqDiff, Nat.add_left_cancel_iff, Nat.add_eq_left, Nat.left_eq_add, and_false, false_and, and_true, true_and, if_true, if_false, and_self, not_true, not_false_iff, reduceCtorEq], ?_, same, R, fun _ _ => rfl⟩
    simp only [q_rf, q_lt, q_cl, q_jn, q_b, q_b1, q_ck, kd_I, kd_J, kd_R, n_I, n_J, n_R, r_I, r_J, c_I, c_J, c_R, i_J, i_R, j_I, j_R, y_in, y_isDay, x_within, x_isDay, x_isTown, sb_ybarg S, g1 k hk, hq, hcl, d2, o7, e0, c2, e3', c3', G.1 c4, a2, b2, es, eb, c5, c6, not_false_iff, q_10, if_true, if_false]
    rw [hL h S d2 (fun i hi => by
      obtain ⟨⟨s1, s2, s3⟩, -⟩ := M0.2.2.2.2.2.2.2.1 i hi
      exact ⟨s2, by omega⟩), if_pos c7]
  case neg =>
    rw [if_neg c7] at hS
    obtain ⟨L0, L1, L2, L3⟩ := R.lv hk
    have n01 : A 0 k ≠ A 1 k := L0.ne L1 (Or.inl (by decide))
    have n03 : A 0 k ≠ A 3 k := L0.ne L3 (Or.inl (by decide))
    have ha3 : ¬ 3 ≤ U 3 k := by omega
    have e3l : ((3 : Int32) ≤ nI (U 3 k)) = (3 ≤ U 3 k) := propext (nI_leI (a := 3) (by omega) (by omega))
    obtain ⟨h1, e1⟩ : ∃ h1, h1 = mm_setI (mm_setI (mm_setI h (A 1 k) (U 3 k) (nI m)) (A 3 k) (U 3 k) (nI m)) (A 0 k) 9 (nI (U 3 k + 1)) := ⟨_, rfl⟩
    have hq3 := fun (β : Type) (z : Option β) => q_ckx c3 (by decide) z
    have hcl3 := nI_clamp (n := U 3 k) (by omega)
    have hA : fX0_addSurety (A 0 k) (nI m) h = some ((), h1) := by
      have i1 : mm_i (mm_setI h (A 1 k) (U 3 k) (nI m)) (A 0 k) 9 = nI (U 3 k) := by rw [i_I_ne n01]; exact d1
      have i2 : mm_i (mm_setI (mm_setI h (A 1 k) (U 3 k) (nI m)) (A 3 k) (U 3 k) (nI m)) (A 0 k) 9 = nI (U 3 k) := by rw [i_I_ne n03]; exact i1
      unfold fX0_addSurety
      simp only [q_rf, q_lt, q_cl, q_jn, q_b, q_b1, q_ck, kd_I, kd_J, kd_R, n_I, n_J, n_R, r_I, r_J, c_I, c_J, c_R, i_J, i_R, j_I, j_R, y_in, y_isDay, x_within, x_isDay, x_isTown, kdA, d1, e3l, ha3, r1, r3, r4, r6, r7, r9, hq3, hcl3, i1, i2, nI_1, if_false, e1]
    have x1 : mY B ow [28, 29] h h1 := by
      rw [e1]
      exact (((mX.rf hB).IL (m := 29) L1 rfl (by decide)).IL (m := 28) L3 rfl (by decide)).IL (m := 29) L0 rfl (by decide)
    have S1 := x1.S S
    have i9 : mm_i h1 (A 0 k) 9 = nI (U 3 k + 1) := by rw [e1]; exact i_I_eq
    have kd1 : mm_kd h1 (A 0 k) = 1 := (x1.kd L0.2.1).trans kdA
    have y96 : ∀ q i, 66 ≤ q → q < 147 → q ≠ 66 → mm_i h1 (B + q) i = mm_i h (B + q) i := fun q i hq1 hq2 hq3 => by
      rw [e1]
      have := L0.1; have := L1.1; have := L3.1
      rw [i_I_ne (by omega), i_I_ne (by omega), i_I_ne (by omega)]
    have w106 := (y96 106 k (by omega) (by omega) (by omega)).trans d2
    have w100 := (y96 100 k (by omega) (by omega) (by omega)).trans o7
    have w96 := (y96 96 k (by omega) (by omega) (by omega)).trans a2
    have w97 := (y96 97 k (by omega) (by omega) (by omega)).trans b2
    have wtm := (y96 67 m (by omega) (by omega) (by omega)).trans (R.2.2.2.2 m hm).1
    have M1 : RMn B ow h h1 nm am := M.up (ms := []) (mX.rf hB) mO.rf x1 (by decide) (by decide) (Int32.le_refl _)
    have G1 := (y_isThere S1 M1 N3 (a := nI m)).1 c4
    have g1' := (y_isBargain S1 ((x1.iF (m := 107) (by omega) rfl (by decide)).trans R.2.2.1) R.1).1 k hk
    obtain ⟨h2, e2⟩ : ∃ h2, h2 = mm_setI (mm_setI (mm_setI (mm_setI (mm_setI h1 (B + 107) (3 * k + U 3 k) (nI m)) (B + 108) (3 * k + U 3 k) 0) (B + 109) (3 * k + U 3 k) (nI m)) (B + 110) (3 * k + U 3 k) (T m)) (B + 106) k (nI (U 3 k + 1)) := ⟨_, rfl⟩
    have x2 : ∀ o : Nat → Nat × Nat, mY B o [127, 128, 129] h1 h2 := fun o => by
      rw [e2]
      exact (((((mX.rf S1.1).IF (m := 129) (by omega) rfl (by decide)).IF (m := 127) (by omega) rfl (by decide)).IF (m := 128) (by omega) rfl (by decide)).IF (m := 128) (by omega) rfl (by decide)).IF (m := 129) (by omega) rfl (by decide)
    have hq1 := fun (β : Type) (z : Option β) => q_ckx (show 3 * k + U 3 k < 900 by omega) (by decide) z
    have hcl1 := nI_clamp (n := 3 * k + U 3 k) (by omega)
    have hqm := fun (β : Type) (z : Option β) => q_ckx (show m < 40 by omega) (by decide) z
    have hclm := nI_clamp (n := m) (by omega)
    refine ⟨nI (U 3 k + 1), h1, h2, upU (upU U (4 + U 3 k) k m) 3 k (U 3 k + 1), by simp only [q_rf, q_lt, q_cl, q_jn, q_b, q_b1, q_ck, kd_I, kd_J, kd_R, n_I, n_J, n_R, r_I, r_J, c_I, c_J, c_R, i_J, i_R, j_I, j_R, y_in, y_isDay, x_within, x_isDay, x_isTown, sk0 S, f1 k hk, kdA, o6, e0, c2, d1, e3, c3, v1 c4, a1, b1, es, eb, c5, c6, hS, hA, i9, kd1, reduceCtorEq, q_10, q_01, eq_self, i_I, Nat.reduceEqDiff, Nat.add_left_cancel_iff, Nat.add_eq_left, Nat.left_eq_add, and_false, false_and, and_true, true_and, if_true, if_false, and_self, not_true, not_false_iff, reduceCtorEq], ?_, (wM_le x1 (by simp)).tr (wM_le (x2 ow) (by simp)), ?_, fun j hj => by
      rw [e2, i_I, if_neg (fun z => by omega), i_I_ne (by omega), i_I_ne (by omega), i_I_ne (by omega), i_I_ne (by omega)]
      exact y96 106 j (by omega) (by omega) (by omega)⟩
    · simp only [q_rf, q_lt, q_cl, q_jn, q_b, q_b1, q_ck, kd_I, kd_J, kd_R, n_I, n_J, n_R, r_I, r_J, c_I, c_J, c_R, i_J, i_R, j_I, j_R, y_in, y_isDay, x_within, x_isDay, x_isTown, sb_ybarg S1, g1', hq, hcl, w106, w100, e0, c2, e3', c3', G1, w96, w97, es, eb, c5, c6, not_false_iff, q_10, if_true, if_false]
      rw [hL h1 S1 w106 (fun i hi => by
        obtain ⟨⟨s1, s2, s3⟩, -⟩ := M0.2.2.2.2.2.2.2.1 i hi
        exact ⟨(y96 107 _ (by omega) (by omega) (by omega)).trans s2, by omega⟩), if_neg c7]
      simp only [q_rf, q_lt, q_cl, q_jn, q_b, q_b1, q_ck, kd_I, kd_J, kd_R, n_I, n_J, n_R, r_I, r_J, c_I, c_J, c_R, i_J, i_R, j_I, j_R, y_in, y_isDay, x_within, x_isDay, x_isTown, sb_ybarg S1, hq, hcl, w106]
      rw [q_3]
      simp only [q_rf, q_lt, q_cl, q_jn, q_b, q_b1, q_ck, kd_I, kd_J, kd_R, n_I, n_J, n_R, r_I, r_J, c_I, c_J, c_R, i_J, i_R, j_I, j_R, y_in, y_isDay, x_within, x_isDay, x_isTown, sb_ybarg S1, sb_ymen S1, hq, hcl, hq1, hcl1, hqm, hclm, w106, wtm, nI_1, q_10, q_01, eq_self, i_I, Nat.reduceEqDiff, Nat.add_left_cancel_iff, Nat.add_eq_left, Nat.left_eq_add, and_false, false_and, and_true, true_and, if_true, if_false, and_self, not_true, not_false_iff, reduceCtorEq, e2]
    · have S2 := (x2 ow).S S1
      have R1 := R.sur hB (i := U 3 k) hk rfl c3 hm
      rw [← e1] at R1
      have e5 : mY B ow [28, 29] (mm_setI (mm_setI (mm_setI (mm_setI (mm_setI h (B + 107) (3 * k + U 3 k) (nI m)) (B + 108) (3 * k + U 3 k) 0) (B + 109) (3 * k + U 3 k) (nI m)) (B + 110) (3 * k + U 3 k) (T m)) (B + 106) k (nI (U 3 k + 1))) h2 := by
        rw [e2]
        exact ((((x1.both).both).both).both).both
      exact R1.upB (x2 ow) e5
end SZ
