/-! claim; bargain and sureties asked -/
section CM
variable {B : Nat} {h hx hy hx' hy' : mm_H} {ow ow' : Nat → Nat × Nat} {n nm nl nb : Nat} {am al : Nat → Nat} {P C : Nat → Nat} {A U U' : Nat → Nat → Nat} {T : Nat → Int32} {x : Nat}
theorem T_claim (S : mS B h) (M : RMn B ow h h nm am) (R : RBg B ow h h nm n A U T) (Q : RCo B h h nm am P C) (a b d : Int32) : ∃ r h1 h2 P' C' U', fX11_claim B a b d h = some (r, h1) ∧ fX12_claim (B + 66) a b d h1 = some (r, h2) ∧ mY B ow [2, 27, 102, 127] h h2 ∧ RCo B h2 h2 nm am P' C' ∧ RBg B ow h2 h2 nm n A U' T := by
  have hB := S.1
  have same : mY B ow [2, 27, 102, 127] h h := mX.rf hB
  obtain ⟨f1, f2⟩ := x_bargainAt S R.2.1
  obtain ⟨g1, g2⟩ := y_isBargain S R.2.2.1 R.1
  unfold fX11_claim fX12_claim
  by_cases c1 : ∃ k, k < n ∧ a = nI k
  case neg => exact ⟨-1, h, h, P, C, U, by simp only [q_rf, q_lt, q_cl, q_jn, q_b, q_b1, q_ck, kd_I, kd_J, kd_R, n_I, n_J, n_R, r_I, r_J, c_I, c_J, c_R, i_J, i_R, j_I, j_R, y_in, y_isDay, x_within, x_isDay, x_isTown, sk0 S, f2 a c1, q_10, q_01, eq_self, i_I, Nat.reduceEqDiff, Nat.add_left_cancel_iff, Nat.add_eq_left, Nat.left_eq_add, and_false, false_and, and_true, true_and, if_true, if_false, and_self, not_true, not_false_iff, reduceCtorEq], by simp only [q_rf, q_lt, q_cl, q_jn, q_b, q_b1, q_ck, kd_I, kd_J, kd_R, n_I, n_J, n_R, r_I, r_J, c_I, c_J, c_R, i_J, i_R, j_I, j_R, y_in, y_isDay, x_within, x_isDay, x_isTown, sk66 S, g2 a c1, q_10, q_01, eq_self, i_I, Nat.reduceEqDiff, Nat.add_left_cancel_iff, Nat.add_eq_left, Nat.left_eq_add, and_false, false_and, and_true, true_and, if_true, if_false, and_self, not_true, not_false_iff, reduceCtorEq], same, Q, R⟩
  obtain ⟨k, hk, rfl⟩ := c1
  have n9 := R.1
  have kdA := (R.2.1.2.2.2 k hk).2
  have M0 := (R.2.2.2.1 k hk).1
  have F0 := (R.2.2.2.1 k hk).2
  have hq := fun (β : Type) (z : Option β) => q_ckx (show k < 300 by omega) (by decide) z
  have hcl := nI_clamp (n := k) (by omega)
  obtain ⟨d1, d2, d3⟩ := M0.2.2.2.1
  have pre := q_pre (a := b) (n := U 3 k) (by omega)
  by_cases c2 : b < 0
  case pos => exact ⟨-1, h, h, P, C, U, by simp only [q_rf, q_lt, q_cl, q_jn, q_b, q_b1, q_ck, kd_I, kd_J, kd_R, n_I, n_J, n_R, r_I, r_J, c_I, c_J, c_R, i_J, i_R, j_I, j_R, y_in, y_isDay, x_within, x_isDay, x_isTown, sk0 S, f1 k hk, c2, reduceCtorEq, q_10, q_01, eq_self, i_I, Nat.reduceEqDiff, Nat.add_left_cancel_iff, Nat.add_eq_left, Nat.left_eq_add, and_false, false_and, and_true, true_and, if_true, if_false, and_self, not_true, not_false_iff, reduceCtorEq], by simp only [q_rf, q_lt, q_cl, q_jn, q_b, q_b1, q_ck, kd_I, kd_J, kd_R, n_I, n_J, n_R, r_I, r_J, c_I, c_J, c_R, i_J, i_R, j_I, j_R, y_in, y_isDay, x_within, x_isDay, x_isTown, sb_ybarg S, g1 k hk, hq, hcl, d2, pre, c2, q_10, q_01, eq_self, i_I, Nat.reduceEqDiff, Nat.add_left_cancel_iff, Nat.add_eq_left, Nat.left_eq_add, and_false, false_and, and_true, true_and, if_true, if_false, and_self, not_true, not_false_iff, reduceCtorEq], same, Q, R⟩
  by_cases c3 : nI (U 3 k) ≤ b
  case pos => exact ⟨-1, h, h, P, C, U, by simp only [q_rf, q_lt, q_cl, q_jn, q_b, q_b1, q_ck, kd_I, kd_J, kd_R, n_I, n_J, n_R, r_I, r_J, c_I, c_J, c_R, i_J, i_R, j_I, j_R, y_in, y_isDay, x_within, x_isDay, x_isTown, sk0 S, f1 k hk, c2, c3, kdA, d1, reduceCtorEq, q_10, q_01, eq_self, i_I, Nat.reduceEqDiff, Nat.add_left_cancel_iff, Nat.add_eq_left, Nat.left_eq_add, and_false, false_and, and_true, true_and, if_true, if_false, and_self, not_true, not_false_iff, reduceCtorEq], by simp only [q_rf, q_lt, q_cl, q_jn, q_b, q_b1, q_ck, kd_I, kd_J, kd_R, n_I, n_J, n_R, r_I, r_J, c_I, c_J, c_R, i_J, i_R, j_I, j_R, y_in, y_isDay, x_within, x_isDay, x_isTown, sb_ybarg S, g1 k hk, hq, hcl, d2, pre, c2, c3, q_10, q_01, eq_self, i_I, Nat.reduceEqDiff, Nat.add_left_cancel_iff, Nat.add_eq_left, Nat.left_eq_add, and_false, false_and, and_true, true_and, if_true, if_false, and_self, not_true, not_false_iff, reduceCtorEq], same, Q, R⟩
  obtain ⟨i, hi, rfl⟩ := q_rng (by omega) c2 c3
  have hi3 : i < 3 := by omega
  obtain ⟨-, ⟨s4, s5⟩, -⟩ := M0.2.2.2.2.2.2.2.1 i hi
  have hq1 := fun (β : Type) (z : Option β) => q_ckx (show 3 * k + i < 900 by omega) (by decide) z
  have hcl1 := nI_clamp (n := 3 * k + i) (by omega)
  have hq3 := fun (β : Type) (z : Option β) => q_ckx hi3 (by decide) z
  have hcl3 := nI_clamp (n := i) (by omega)
  have hO := q_cl3 hi3 M0.2.2.2.2.2.2.2.2.2
  by_cases c4 : d < 1
  case pos =>
    have c5 : ¬ 1 ≤ d := Int32.not_le.mpr c4
    refine ⟨-1, h, h, P, C, U, by simp only [q_rf, q_lt, q_cl, q_jn, q_b, q_b1, q_ck, kd_I, kd_J, kd_R, n_I, n_J, n_R, r_I, r_J, c_I, c_J, c_R, i_J, i_R, j_I, j_R, y_in, y_isDay, x_within, x_isDay, x_isTown, sk0 S, f1 k hk, c2, c3, c4, kdA, d1, reduceCtorEq, q_10, q_01, eq_self, i_I, Nat.reduceEqDiff, Nat.add_left_cancel_iff, Nat.add_eq_left, Nat.left_eq_add, and_false, false_and, and_true, true_and, if_true, if_false, and_self, not_true, not_false_iff, reduceCtorEq], ?_, same, Q, R⟩
    rw [q_3]
    simp only [q_rf, q_lt, q_cl, q_jn, q_b, q_b1, q_ck, kd_I, kd_J, kd_R, n_I, n_J, n_R, r_I, r_J, c_I, c_J, c_R, i_J, i_R, j_I, j_R, y_in, y_isDay, x_within, x_isDay, x_isTown, sb_ybarg S, g1 k hk, hq, hcl, d2, pre, c2, c3, c5, hq1, hcl1, ite_self, q_10, q_01, eq_self, i_I, Nat.reduceEqDiff, Nat.add_left_cancel_iff, Nat.add_eq_left, Nat.left_eq_add, and_false, false_and, and_true, true_and, if_true, if_false, and_self, not_true, not_false_iff, reduceCtorEq]
  have c5 : 1 ≤ d := Int32.not_lt.mp c4
  by_cases c6 : U (7 + i) k = 0
  case pos =>
    have e0 : nI (U (7 + i) k) = 0 := by rw [c6]; exact nI_0
    refine ⟨-1, h, h, P, C, U, by simp only [q_rf, q_lt, q_cl, q_jn, q_b, q_b1, q_ck, kd_I, kd_J, kd_R, n_I, n_J, n_R, r_I, r_J, c_I, c_J, c_R, i_J, i_R, j_I, j_R, y_in, y_isDay, x_within, x_isDay, x_isTown, sk0 S, f1 k hk, c2, c3, c4, kdA, d1, F0.1.2.1, F0.2.2.1.2.1, F0.2.2.2.2.1, hq3, hcl3, s4, e0, reduceCtorEq, q_10, q_01, eq_self, i_I, Nat.reduceEqDiff, Nat.add_left_cancel_iff, Nat.add_eq_left, Nat.left_eq_add, and_false, false_and, and_true, true_and, if_true, if_false, and_self, not_true, not_false_iff, reduceCtorEq], ?_, same, Q, R⟩
    rw [q_3]
    simp only [q_rf, q_lt, q_cl, q_jn, q_b, q_b1, q_ck, kd_I, kd_J, kd_R, n_I, n_J, n_R, r_I, r_J, c_I, c_J, c_R, i_J, i_R, j_I, j_R, y_in, y_isDay, x_within, x_isDay, x_isTown, sb_ybarg S, g1 k hk, hq, hcl, d2, pre, c2, c3, hq1, hcl1, s5, e0, q_10, q_01, eq_self, i_I, Nat.reduceEqDiff, Nat.add_left_cancel_iff, Nat.add_eq_left, Nat.left_eq_add, and_false, false_and, and_true, true_and, if_true, if_false, and_self, not_true, not_false_iff, reduceCtorEq]
  have e0 : ¬ nI (U (7 + i) k) = 0 := nI_ne0 (by omega) (by omega)
  obtain ⟨c, hc, rfl⟩ := nI_of (Int32.not_lt.mpr (Int32.le_trans (by decide) c5))
  have Q0 := RCx_0.mpr Q
  obtain ⟨h1, _, _, _, p1, -, p3, -⟩ := J_claims S S M R Q0 hk hi hc
  have S1 := p3.S S
  have M1 : RMn B ow h h1 nm am := M.up (ms := []) (mX.rf hB) mO.rf p3 (by decide) (by decide) (Int32.le_refl _)
  have R1 : RBg B ow h h1 nm n A U T := R.up (ms := []) (mX.rf hB) mO.rf p3 (by decide) (by decide) (by decide)
  have Q1 := Q0.up (ms := []) M.2.1 (mX.rf hB) p3 (by decide) (by decide)
  obtain ⟨h1', h2, P', C', q1, q2, q3, q4, q5, q6⟩ := J_claims S S1 M1 R1 Q1 hk hi hc
  rw [q1] at p1
  obtain rfl : h1' = h1 := (Prod.mk.inj (Option.some.inj p1)).2
  have S2 := (q4 ow).S S1
  have M2 := (M.up q3 mO.rf (mX.rf (W := wM B ow []) hB) (by decide) (by decide) (by rw [q3.i0 (m := 1) rfl (by decide)]; exact Int32.le_refl _)).2.1
  obtain ⟨g1', -⟩ := y_isBargain S1 R1.2.2.1 R1.1
  have M9 := (R1.2.2.2.1 k hk).1
  have o7' : mm_i h1' (B + 108) (3 * k + i) = nI (U (7 + i) k) := (M9.2.2.2.2.2.2.2.1 i hi).2.1.2
  have d2' := M9.2.2.2.1.2.1
  refine ⟨nI (min (min c (U (7 + i) k)) (P (U 1 k))), h1', h2, P', C', upU U (7 + i) k (U (7 + i) k - min (min c (U (7 + i) k)) (P (U 1 k))), by simp only [q_rf, q_lt, q_cl, q_jn, q_b, q_b1, q_ck, kd_I, kd_J, kd_R, n_I, n_J, n_R, r_I, r_J, c_I, c_J, c_R, i_J, i_R, j_I, j_R, y_in, y_isDay, x_within, x_isDay, x_isTown, sk0 S, f1 k hk, c2, c3, c4, kdA, d1, F0.1.2.1, F0.2.2.1.2.1, F0.2.2.2.2.1, hq3, hcl3, s4, e0, q1, reduceCtorEq, q_10, q_01, eq_self, i_I, Nat.reduceEqDiff, Nat.add_left_cancel_iff, Nat.add_eq_left, Nat.left_eq_add, and_false, false_and, and_true, true_and, if_true, if_false, and_self, not_true, not_false_iff, reduceCtorEq], ?_, (wM_le q3 (by simp)).tr (wM_le (q4 ow) (by simp)), ?_, ?_⟩
  · rw [q_3]
    simp only [q_rf, q_lt, q_cl, q_jn, q_b, q_b1, q_ck, kd_I, kd_J, kd_R, n_I, n_J, n_R, r_I, r_J, c_I, c_J, c_R, i_J, i_R, j_I, j_R, y_in, y_isDay, x_within, x_isDay, x_isTown, sb_ybarg S1, g1' k hk, hq, hcl, d2', pre, c2, c3, hq1, hcl1, o7', e0, c5, q2, q_10, q_01, eq_self, i_I, Nat.reduceEqDiff, Nat.add_left_cancel_iff, Nat.add_eq_left, Nat.left_eq_add, and_false, false_and, and_true, true_and, if_true, if_false, and_self, not_true, not_false_iff, reduceCtorEq]
  · exact RCx_0.mp (q5.up (ms' := []) M2 (q4 ow) (mX.rf S2.1) (by decide) (by decide))
  · exact q6.up (q4 ow) mO.rf (ms' := []) (mX.rf S2.1) (by decide) (by decide) (by decide)
theorem T_bargain (S : mS B h) (R : RBg B ow h h nm n A U T) (a b : Int32) : ∃ r, fX11_bargain B a b h = some (r, h) ∧ fX12_bargain (B + 66) a b h = some (r, h) := by
  obtain ⟨f1, f2⟩ := x_bargainAt S R.2.1
  obtain ⟨g1, g2⟩ := y_isBargain S R.2.2.1 R.1
  unfold fX11_bargain fX12_bargain
  by_cases c1 : ∃ k, k < n ∧ a = nI k
  case neg => exact ⟨-1, by simp only [q_rf, q_lt, q_cl, q_jn, q_b, q_b1, q_ck, kd_I, kd_J, kd_R, n_I, n_J, n_R, r_I, r_J, c_I, c_J, c_R, i_J, i_R, j_I, j_R, y_in, y_isDay, x_within, x_isDay, x_isTown, sk0 S, f2 a c1, q_10, q_01, eq_self, i_I, Nat.reduceEqDiff, Nat.add_left_cancel_iff, Nat.add_eq_left, Nat.left_eq_add, and_false, false_and, and_true, true_and, if_true, if_false, and_self, not_true, not_false_iff, reduceCtorEq], by simp only [q_rf, q_lt, q_cl, q_jn, q_b, q_b1, q_ck, kd_I, kd_J, kd_R, n_I, n_J, n_R, r_I, r_J, c_I, c_J, c_R, i_J, i_R, j_I, j_R, y_in, y_isDay, x_within, x_isDay, x_isTown, sk66 S, g2 a c1, q_10, q_01, eq_self, i_I, Nat.reduceEqDiff, Nat.add_left_cancel_iff, Nat.add_eq_left, Nat.left_eq_add, and_false, false_and, and_true, true_and, if_true, if_false, and_self, not_true, not_false_iff, reduceCtorEq]⟩
  obtain ⟨k, hk, rfl⟩ := c1
  have n9 := R.1
  have kdA := (R.2.1.2.2.2 k hk).2
  obtain ⟨⟨a1, a2, a3⟩, ⟨b1, b2, b3⟩, ⟨c1, c2⟩, ⟨d1, d2, d3⟩, ⟨g1, g2, g3, g4, g5, g6⟩, -⟩ := (R.2.2.2.1 k hk).1
  have hq := fun (β : Type) (z : Option β) => q_ckx (show k < 300 by omega) (by decide) z
  have hcl := nI_clamp (n := k) (by omega)
  have hL : ∀ r v0 v1 v2 v3 v4 v5 v6 v7 v8 v9 : Int32, r = (if b = 0 then v0 else if b = 1 then v1 else if b = 2 then v2 else if b = 3 then v3 else if b = 4 then v4 else if b = 5 then v5 else if b = 6 then v6 else if b = 7 then v7 else if b = 8 then v8 else if b = 9 then v9 else -1) → (if b = 0 then some (v0, h) else if b = 1 then some (v1, h) else if b = 2 then some (v2, h) else if b = 3 then some (v3, h) else if b = 4 then some (v4, h) else if b = 5 then some (v5, h) else if b = 6 then some (v6, h) else if b = 7 then some (v7, h) else if b = 8 then some (v8, h) else if b = 9 then some (v9, h) else some ((-1 : Int32), h)) = some (r, h) := by
    intro r v0 v1 v2 v3 v4 v5 v6 v7 v8 v9 e
    subst e
    repeat' split
    all_goals rfl
  refine ⟨_, by simp only [q_rf, q_lt, q_cl, q_jn, q_b, q_b1, q_ck, kd_I, kd_J, kd_R, n_I, n_J, n_R, r_I, r_J, c_I, c_J, c_R, i_J, i_R, j_I, j_R, y_in, y_isDay, x_within, x_isDay, x_isTown, sk0 S, f1 k hk, kdA, reduceCtorEq, q_10, q_01, eq_self, i_I, Nat.reduceEqDiff, Nat.add_left_cancel_iff, Nat.add_eq_left, Nat.left_eq_add, and_false, false_and, and_true, true_and, if_true, if_false, and_self, not_true, not_false_iff, reduceCtorEq]; exact hL _ _ _ _ _ _ _ _ _ _ _ rfl, ?_⟩
  have g1' := (y_isBargain S R.2.2.1 R.1).1 k hk
  simp only [q_rf, q_lt, q_cl, q_jn, q_b, q_b1, q_ck, kd_I, kd_J, kd_R, n_I, n_J, n_R, r_I, r_J, c_I, c_J, c_R, i_J, i_R, j_I, j_R, y_in, y_isDay, x_within, x_isDay, x_isTown, sb_ybarg S, g1', hq, hcl, a1, a2, b1, b2, c1, c2, d1, d2, g1, g2, g3, g4, g5, g6, q_10, q_01, eq_self, i_I, Nat.reduceEqDiff, Nat.add_left_cancel_iff, Nat.add_eq_left, Nat.left_eq_add, and_false, false_and, and_true, true_and, if_true, if_false, and_self, not_true, not_false_iff, reduceCtorEq]
  exact hL _ _ _ _ _ _ _ _ _ _ _ rfl
theorem T_sureties (S : mS B h) (R : RBg B ow h h nm n A U T) (a b c : Int32) : ∃ r, fX11_sureties B a b c h = some (r, h) ∧ fX12_sureties (B + 66) a b c h = some (r, h) := by
  obtain ⟨f1, f2⟩ := x_bargainAt S R.2.1
  obtain ⟨g1, g2⟩ := y_isBargain S R.2.2.1 R.1
  unfold fX11_sureties fX12_sureties
  by_cases c1 : ∃ k, k < n ∧ a = nI k
  case neg => exact ⟨-1, by simp only [q_rf, q_lt, q_cl, q_jn, q_b, q_b1, q_ck, kd_I, kd_J, kd_R, n_I, n_J, n_R, r_I, r_J, c_I, c_J, c_R, i_J, i_R, j_I, j_R, y_in, y_isDay, x_within, x_isDay, x_isTown, sk0 S, f2 a c1, q_10, q_01, eq_self, i_I, Nat.reduceEqDiff, Nat.add_left_cancel_iff, Nat.add_eq_left, Nat.left_eq_add, and_false, false_and, and_true, true_and, if_true, if_false, and_self, not_true, not_false_iff, reduceCtorEq], by simp only [q_rf, q_lt, q_cl, q_jn, q_b, q_b1, q_ck, kd_I, kd_J, kd_R, n_I, n_J, n_R, r_I, r_J, c_I, c_J, c_R, i_J, i_R, j_I, j_R, y_in, y_isDay, x_within, x_isDay, x_isTown, sk66 S, g2 a c1, q_10, q_01, eq_self, i_I, Nat.reduceEqDiff, Nat.add_left_cancel_iff, Nat.add_eq_left, Nat.left_eq_add, and_false, false_and, and_true, true_and, if_true, if_false, and_self, not_true, not_false_iff, reduceCtorEq]⟩
  obtain ⟨k, hk, rfl⟩ := c1
  have n9 := R.1
  have kdA := (R.2.1.2.2.2 k hk).2
  have M0 := (R.2.2.2.1 k hk).1
  have F0 := (R.2.2.2.1 k hk).2
  obtain ⟨d1, d2, d3⟩ := M0.2.2.2.1
  have hq := fun (β : Type) (z : Option β) => q_ckx (show k < 300 by omega) (by decide) z
  have hcl := nI_clamp (n := k) (by omega)
  have pre := q_pre (a := b) (n := U 3 k) (by omega)
  by_cases c2 : b < 0
  case pos => exact ⟨-1, by simp only [q_rf, q_lt, q_cl, q_jn, q_b, q_b1, q_ck, kd_I, kd_J, kd_R, n_I, n_J, n_R, r_I, r_J, c_I, c_J, c_R, i_J, i_R, j_I, j_R, y_in, y_isDay, x_within, x_isDay, x_isTown, sk0 S, f1 k hk, c2, reduceCtorEq, q_10, q_01, eq_self, i_I, Nat.reduceEqDiff, Nat.add_left_cancel_iff, Nat.add_eq_left, Nat.left_eq_add, and_false, false_and, and_true, true_and, if_true, if_false, and_self, not_true, not_false_iff, reduceCtorEq], by simp only [q_rf, q_lt, q_cl, q_jn, q_b, q_b1, q_ck, kd_I, kd_J, kd_R, n_I, n_J, n_R, r_I, r_J, c_I, c_J, c_R, i_J, i_R, j_I, j_R, y_in, y_isDay, x_within, x_isDay, x_isTown, sb_ybarg S, g1 k hk, hq, hcl, d2, pre, c2, q_10, q_01, eq_self, i_I, Nat.reduceEqDiff, Nat.add_left_cancel_iff, Nat.add_eq_left, Nat.left_eq_add, and_false, false_and, and_true, true_and, if_true, if_false, and_self, not_true, not_false_iff, reduceCtorEq]⟩
  by_cases c3 : nI (U 3 k) ≤ b
  case pos => exact ⟨-1, by simp only [q_rf, q_lt, q_cl, q_jn, q_b, q_b1, q_ck, kd_I, kd_J, kd_R, n_I, n_J, n_R, r_I, r_J, c_I, c_J, c_R, i_J, i_R, j_I, j_R, y_in, y_isDay, x_within, x_isDay, x_isTown, sk0 S, f1 k hk, c2, Int32.not_lt.mpr c3, kdA, d1, reduceCtorEq, q_10, q_01, eq_self, i_I, Nat.reduceEqDiff, Nat.add_left_cancel_iff, Nat.add_eq_left, Nat.left_eq_add, and_false, false_and, and_true, true_and, if_true, if_false, and_self, not_true, not_false_iff, reduceCtorEq], by simp only [q_rf, q_lt, q_cl, q_jn, q_b, q_b1, q_ck, kd_I, kd_J, kd_R, n_I, n_J, n_R, r_I, r_J, c_I, c_J, c_R, i_J, i_R, j_I, j_R, y_in, y_isDay, x_within, x_isDay, x_isTown, sb_ybarg S, g1 k hk, hq, hcl, d2, pre, c2, c3, q_10, q_01, eq_self, i_I, Nat.reduceEqDiff, Nat.add_left_cancel_iff, Nat.add_eq_left, Nat.left_eq_add, and_false, false_and, and_true, true_and, if_true, if_false, and_self, not_true, not_false_iff, reduceCtorEq]⟩
  have c3' : b < nI (U 3 k) := Int32.not_le.mp c3
  obtain ⟨i, hi, rfl⟩ := q_rng (by omega) c2 c3
  have hi3 : i < 3 := by omega
  obtain ⟨⟨s1, s2, s3⟩, ⟨s4, s5⟩, s6, -⟩ := M0.2.2.2.2.2.2.2.1 i hi
  have hq1 := fun (β : Type) (z : Option β) => q_ckx (show 3 * k + i < 900 by omega) (by decide) z
  have hcl1 := nI_clamp (n := 3 * k + i) (by omega)
  have hq3 := fun (β : Type) (z : Option β) => q_ckx hi3 (by decide) z
  have hcl3 := nI_clamp (n := i) (by omega)
  have hL : ∀ r v0 v1 v2 : Int32, r = (if c = 0 then v0 else if c = 1 then v1 else if c = 2 then v2 else -1) → (if c = 0 then some (v0, h) else if c = 1 then some (v1, h) else if c = 2 then some (v2, h) else some ((-1 : Int32), h)) = some (r, h) := by
    intro r v0 v1 v2 e
    subst e
    repeat' split
    all_goals rfl
  have hL2 : ∀ r v0 v1 v2 : Int32, r = (if c = 0 then v0 else if c = 1 then v1 else if c = 2 then v2 else -1) → (if ¬ c = 0 then (if ¬ c = 1 then (if ¬ c = 2 then some ((-1 : Int32), h) else some (v2, h)) else some (v1, h)) else some (v0, h)) = some (r, h) := by
    intro r v0 v1 v2 e
    subst e
    by_cases e0 : c = 0
    · subst e0; rfl
    · by_cases e1 : c = 1
      · subst e1; rfl
      · by_cases e2 : c = 2
        · subst e2; rfl
        · simp only [e0, e1, e2, not_false_iff, if_true, if_false]
  refine ⟨_, by simp only [q_rf, q_lt, q_cl, q_jn, q_b, q_b1, q_ck, kd_I, kd_J, kd_R, n_I, n_J, n_R, r_I, r_J, c_I, c_J, c_R, i_J, i_R, j_I, j_R, y_in, y_isDay, x_within, x_isDay, x_isTown, sk0 S, f1 k hk, c2, c3', kdA, d1, F0.1.1, F0.1.2.1, F0.1.2.2, F0.2.2.1.1, F0.2.2.1.2.1, F0.2.2.1.2.2, F0.2.2.2.1, F0.2.2.2.2.1, F0.2.2.2.2.2, hq3, hcl3, s1, s4, reduceCtorEq, q_10, q_01, eq_self, i_I, Nat.reduceEqDiff, Nat.add_left_cancel_iff, Nat.add_eq_left, Nat.left_eq_add, and_false, false_and, and_true, true_and, if_true, if_false, and_self, not_true, not_false_iff, reduceCtorEq]; exact hL _ _ _ _ rfl, ?_⟩
  rw [q_3]
  simp only [q_rf, q_lt, q_cl, q_jn, q_b, q_b1, q_ck, kd_I, kd_J, kd_R, n_I, n_J, n_R, r_I, r_J, c_I, c_J, c_R, i_J, i_R, j_I, j_R, y_in, y_isDay, x_within, x_isDay, x_isTown, sb_ybarg S, g1 k hk, hq, hcl, d2, pre, c2, c3, hq1, hcl1, s2, s5, s6, q_10, q_01, eq_self, i_I, Nat.reduceEqDiff, Nat.add_left_cancel_iff, Nat.add_eq_left, Nat.left_eq_add, and_false, false_and, and_true, true_and, if_true, if_false, and_self, not_true, not_false_iff, reduceCtorEq]
  exact hL2 _ _ _ _ rfl
end CM
