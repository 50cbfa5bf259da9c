/-! pay, claim, chest, and what is asked of a bargain -/
section PT
variable {B : Nat} {h hx hy hx' hy' : mm_H} {ow ow' : Nat → Nat × Nat} {n nm nl nb : Nat} {am al : Nat → Nat} {P C : Nat → Nat} {A U U' : Nat → Nat → Nat} {T : Nat → Int32} {x : Nat}
theorem x_bargainAt (S : mS B h) (L : mL B ow h (B + 3) 2 1 n (A 0)) : (∀ k, k < n → fX11_bargainAt B (nI k) h = some (some (A 0 k), h)) ∧ ∀ a : Int32, (¬ ∃ k, k < n ∧ a = nI k) → fX11_bargainAt B a h = some (none, h) := by
  have hsz := x_size (sk3 S) L
  have n9 := L.1
  refine ⟨fun k hk => ?_, fun a ha => ?_⟩
  · have c1 : ¬ nI k < 0 := nI_pos (by omega)
    have c2 : nI k < nI n := nI_lt hk (by omega)
    have hg := x_get (sk3 S) L hk
    have kd := (L.2.2.2 k hk).2
    unfold fX11_bargainAt
    simp only [q_rf, q_lt, q_cl, q_jn, q_b, q_b1, q_ck, kd_I, kd_J, kd_R, n_I, n_J, n_R, r_I, r_J, c_I, c_J, c_R, i_J, i_R, j_I, j_R, y_in, y_isDay, x_within, x_isDay, x_isTown, sb_xbase S, hsz, hg, kd, c1, c2, if_true, if_false]
  · unfold fX11_bargainAt
    by_cases c1 : a < 0
    · simp only [c1, if_true]
    · obtain ⟨k, hk, rfl⟩ := nI_of c1
      have c2 : ¬ nI k < nI n := fun z => ha ⟨k, (nI_ltI hk (by omega)).mp z, rfl⟩
      simp only [q_rf, q_lt, q_cl, q_jn, q_b, q_b1, q_ck, kd_I, kd_J, kd_R, n_I, n_J, n_R, r_I, r_J, c_I, c_J, c_R, i_J, i_R, j_I, j_R, y_in, y_isDay, x_within, x_isDay, x_isTown, sb_xbase S, hsz, c1, c2, if_false]
theorem y_isBargain (S : mS B hy) (h2 : mm_i hy (B + 66) 43 = nI n) (hn : n ≤ 300) : (∀ k, k < n → fX12_isBargain (B + 66) (nI k) hy = some (1, hy)) ∧ ∀ a : Int32, (¬ ∃ k, k < n ∧ a = nI k) → fX12_isBargain (B + 66) a hy = some (0, hy) := by
  have hI : ∀ a : Int32, fX12_isBargain (B + 66) a hy = some (if ¬ a < 0 ∧ ¬ nI n ≤ a then 1 else 0, hy) := by
    intro a
    unfold fX12_isBargain
    simp only [h2, sk66 S, q_rf, q_lt, q_cl, q_jn, q_b, q_b1, q_ck, kd_I, kd_J, kd_R, n_I, n_J, n_R, r_I, r_J, c_I, c_J, c_R, i_J, i_R, j_I, j_R, y_in, y_isDay, x_within, x_isDay, x_isTown, q_pre (show n < 2 ^ 31 by omega)]
    refine q_ck ?_
    by_cases c : ¬ a < 0 ∧ ¬ nI n ≤ a
    · exact Or.inr (if_pos c)
    · exact Or.inl c
  refine ⟨fun k hk => ?_, fun a ha => ?_⟩
  · rw [hI, if_pos ⟨nI_pos (by omega), nI_ge hk (by omega)⟩]
  · rw [hI, if_neg]
    rintro ⟨z1, z2⟩
    obtain ⟨k, hk, rfl⟩ := nI_of z1
    exact ha ⟨k, Nat.not_le.mp fun q => z2 (nI_le q hk), rfl⟩
theorem T_chest (S : mS B h) (Q : RCo B h h nm am P C) (a : Int32) : ∃ r, fX11_chest B a h = some (r, h) ∧ fX12_chest (B + 66) a h = some (r, h) := by
  unfold fX11_chest fX12_chest
  by_cases c1 : 0 ≤ a ∧ a ≤ 9
  case neg => exact ⟨-1, by simp only [q_rf, q_lt, q_cl, q_jn, q_b, q_b1, q_ck, kd_I, kd_J, kd_R, n_I, n_J, n_R, r_I, r_J, c_I, c_J, c_R, i_J, i_R, j_I, j_R, y_in, y_isDay, x_within, x_isDay, x_isTown, c1, q_10, q_01, eq_self, i_I, Nat.reduceEqDiff, Nat.add_left_cancel_iff, Nat.add_eq_left, Nat.left_eq_add, and_false, false_and, and_true, true_and, if_true, if_false, and_self, not_true, not_false_iff, reduceCtorEq], by simp only [q_rf, q_lt, q_cl, q_jn, q_b, q_b1, q_ck, kd_I, kd_J, kd_R, n_I, n_J, n_R, r_I, r_J, c_I, c_J, c_R, i_J, i_R, j_I, j_R, y_in, y_isDay, x_within, x_isDay, x_isTown, c1, q_10, q_01, eq_self, i_I, Nat.reduceEqDiff, Nat.add_left_cancel_iff, Nat.add_eq_left, Nat.left_eq_add, and_false, false_and, and_true, true_and, if_true, if_false, and_self, not_true, not_false_iff, reduceCtorEq]⟩
  obtain ⟨j, hj, rfl⟩ := nI_of (Int32.not_lt.mpr c1.1)
  have h9 : j ≤ 9 := (nI_leI (b := 9) hj (by omega)).mp c1.2
  have hq := fun (β : Type) (z : Option β) => q_ckx (show j < 10 by omega) (by decide) z
  have hcl := nI_clamp (n := j) hj
  obtain ⟨q1, q2⟩ := Q.2.2.1 j (by omega)
  exact ⟨nI (C j), by simp only [q_rf, q_lt, q_cl, q_jn, q_b, q_b1, q_ck, kd_I, kd_J, kd_R, n_I, n_J, n_R, r_I, r_J, c_I, c_J, c_R, i_J, i_R, j_I, j_R, y_in, y_isDay, x_within, x_isDay, x_isTown, sb_xbase S, c1, hq, hcl, q1, q_10, q_01, eq_self, i_I, Nat.reduceEqDiff, Nat.add_left_cancel_iff, Nat.add_eq_left, Nat.left_eq_add, and_false, false_and, and_true, true_and, if_true, if_false, and_self, not_true, not_false_iff, reduceCtorEq], by simp only [q_rf, q_lt, q_cl, q_jn, q_b, q_b1, q_ck, kd_I, kd_J, kd_R, n_I, n_J, n_R, r_I, r_J, c_I, c_J, c_R, i_J, i_R, j_I, j_R, y_in, y_isDay, x_within, x_isDay, x_isTown, sb_ymen S, c1, hq, hcl, q2, q_10, q_01, eq_self, i_I, Nat.reduceEqDiff, Nat.add_left_cancel_iff, Nat.add_eq_left, Nat.left_eq_add, and_false, false_and, and_true, true_and, if_true, if_false, and_self, not_true, not_false_iff, reduceCtorEq]⟩
theorem T_pay (S : mS B h) (M : RMn B ow h h nm am) (R : RBg B ow h h nm n A U T) (Q : RCo B h h nm am P C) (a b : Int32) : ∃ r h1 h2 P' C' U', fX11_pay B a b h = some (r, h1) ∧ fX12_pay (B + 66) a b h1 = some (r, h2) ∧ mY B ow [2, 27, 102, 127] h h2 ∧ RCo B h2 h2 nm am P' C' ∧ RBg B ow h2 h2 nm n A U' T := by
  have hB := S.1
  have same : mY B ow [2, 27, 102, 127] h h := mX.rf hB
  obtain ⟨f1, f2⟩ := x_bargainAt S R.2.1
  obtain ⟨g1, g2⟩ := y_isBargain S R.2.2.1 R.1
  unfold fX11_pay fX12_pay
  by_cases c1 : ∃ k, k < n ∧ a = nI k
  case neg => exact ⟨-1, h, h, P, C, U, by simp only [q_rf, q_lt, q_cl, q_jn, q_b, q_b1, q_ck, kd_I, kd_J, kd_R, n_I, n_J, n_R, r_I, r_J, c_I, c_J, c_R, i_J, i_R, j_I, j_R, y_in, y_isDay, x_within, x_isDay, x_isTown, sk0 S, f2 a c1, q_10, q_01, eq_self, i_I, Nat.reduceEqDiff, Nat.add_left_cancel_iff, Nat.add_eq_left, Nat.left_eq_add, and_false, false_and, and_true, true_and, if_true, if_false, and_self, not_true, not_false_iff, reduceCtorEq], by simp only [q_rf, q_lt, q_cl, q_jn, q_b, q_b1, q_ck, kd_I, kd_J, kd_R, n_I, n_J, n_R, r_I, r_J, c_I, c_J, c_R, i_J, i_R, j_I, j_R, y_in, y_isDay, x_within, x_isDay, x_isTown, sk66 S, g2 a c1, q_10, q_01, eq_self, i_I, Nat.reduceEqDiff, Nat.add_left_cancel_iff, Nat.add_eq_left, Nat.left_eq_add, and_false, false_and, and_true, true_and, if_true, if_false, and_self, not_true, not_false_iff, reduceCtorEq], same, Q, R⟩
  obtain ⟨k, hk, rfl⟩ := c1
  have n9 := R.1
  have kdA := (R.2.1.2.2.2 k hk).2
  have M0 := (R.2.2.2.1 k hk).1
  have hq := fun (β : Type) (z : Option β) => q_ckx (show k < 300 by omega) (by decide) z
  have hcl := nI_clamp (n := k) (by omega)
  have o6 := M0.2.2.1.1
  have o7 := M0.2.2.1.2
  have hO := M0.2.2.2.2.2.2.2.2.2
  by_cases c2 : b < 1
  case pos =>
    have c3 : ¬ 1 ≤ b := Int32.not_le.mpr c2
    refine ⟨-1, h, h, P, C, U, by simp only [q_rf, q_lt, q_cl, q_jn, q_b, q_b1, q_ck, kd_I, kd_J, kd_R, n_I, n_J, n_R, r_I, r_J, c_I, c_J, c_R, i_J, i_R, j_I, j_R, y_in, y_isDay, x_within, x_isDay, x_isTown, sk0 S, f1 k hk, c2, reduceCtorEq, q_10, q_01, eq_self, i_I, Nat.reduceEqDiff, Nat.add_left_cancel_iff, Nat.add_eq_left, Nat.left_eq_add, and_false, false_and, and_true, true_and, if_true, if_false, and_self, not_true, not_false_iff, reduceCtorEq], ?_, same, Q, R⟩
    simp only [q_rf, q_lt, q_cl, q_jn, q_b, q_b1, q_ck, kd_I, kd_J, kd_R, n_I, n_J, n_R, r_I, r_J, c_I, c_J, c_R, i_J, i_R, j_I, j_R, y_in, y_isDay, x_within, x_isDay, x_isTown, sb_ybarg S, g1 k hk, hq, hcl, c3, ite_self, q_10, q_01, eq_self, i_I, Nat.reduceEqDiff, Nat.add_left_cancel_iff, Nat.add_eq_left, Nat.left_eq_add, and_false, false_and, and_true, true_and, if_true, if_false, and_self, not_true, not_false_iff, reduceCtorEq]
  have c3 : 1 ≤ b := Int32.not_lt.mp c2
  by_cases c4 : U 2 k = 0
  case pos =>
    have e0 : nI (U 2 k) = 0 := by rw [c4]; exact nI_0
    exact ⟨-1, h, h, P, C, U, by simp only [q_rf, q_lt, q_cl, q_jn, q_b, q_b1, q_ck, kd_I, kd_J, kd_R, n_I, n_J, n_R, r_I, r_J, c_I, c_J, c_R, i_J, i_R, j_I, j_R, y_in, y_isDay, x_within, x_isDay, x_isTown, sk0 S, f1 k hk, c2, kdA, o6, e0, reduceCtorEq, q_10, q_01, eq_self, i_I, Nat.reduceEqDiff, Nat.add_left_cancel_iff, Nat.add_eq_left, Nat.left_eq_add, and_false, false_and, and_true, true_and, if_true, if_false, and_self, not_true, not_false_iff, reduceCtorEq], by simp only [q_rf, q_lt, q_cl, q_jn, q_b, q_b1, q_ck, kd_I, kd_J, kd_R, n_I, n_J, n_R, r_I, r_J, c_I, c_J, c_R, i_J, i_R, j_I, j_R, y_in, y_isDay, x_within, x_isDay, x_isTown, sb_ybarg S, g1 k hk, hq, hcl, o7, e0, q_10, q_01, eq_self, i_I, Nat.reduceEqDiff, Nat.add_left_cancel_iff, Nat.add_eq_left, Nat.left_eq_add, and_false, false_and, and_true, true_and, if_true, if_false, and_self, not_true, not_false_iff, reduceCtorEq], same, Q, R⟩
  have e0 : ¬ nI (U 2 k) = 0 := nI_ne0 (by omega) (by omega)
  obtain ⟨c, hc, rfl⟩ := nI_of (Int32.not_lt.mpr (Int32.le_trans (by decide) c3))
  have Q0 := RCx_0.mpr Q
  obtain ⟨h1, _, _, _, p1, -, p3, -⟩ := J_pays S S M R Q0 hk hc
  have S1 := p3.S S
  have M1 : RMn B ow h h1 nm am := M.up (ms := []) (mX.rf hB) mO.rf p3 (by decide) (by decide) (Int32.le_refl _)
  have R1 : RBg B ow h h1 nm n A U T := R.up (ms := []) (mX.rf hB) mO.rf p3 (by decide) (by decide) (by decide)
  have Q1 := Q0.up (ms := []) M.2.1 (mX.rf hB) p3 (by decide) (by decide)
  obtain ⟨h1', h2, P', C', q1, q2, q3, q4, q5, q6⟩ := J_pays S S1 M1 R1 Q1 hk hc
  rw [q1] at p1
  obtain rfl : h1' = h1 := (Prod.mk.inj (Option.some.inj p1)).2
  have S2 := (q4 ow).S S1
  have M2 := (M.up q3 mO.rf (mX.rf (W := wM B ow []) hB) (by decide) (by decide) (by rw [q3.i0 (m := 1) rfl (by decide)]; exact Int32.le_refl _)).2.1
  obtain ⟨g1', -⟩ := y_isBargain S1 R1.2.2.1 R1.1
  have o7' : mm_i h1' (B + 100) k = nI (U 2 k) := (R1.2.2.2.1 k hk).1.2.2.1.2
  refine ⟨nI (min (min c (U 2 k)) (P (U 1 k))), h1', h2, P', C', upU U 2 k (U 2 k - min (min c (U 2 k)) (P (U 1 k))), by simp only [q_rf, q_lt, q_cl, q_jn, q_b, q_b1, q_ck, kd_I, kd_J, kd_R, n_I, n_J, n_R, r_I, r_J, c_I, c_J, c_R, i_J, i_R, j_I, j_R, y_in, y_isDay, x_within, x_isDay, x_isTown, sk0 S, f1 k hk, c2, kdA, o6, e0, q1, reduceCtorEq, q_10, q_01, eq_self, i_I, Nat.reduceEqDiff, Nat.add_left_cancel_iff, Nat.add_eq_left, Nat.left_eq_add, and_false, false_and, and_true, true_and, if_true, if_false, and_self, not_true, not_false_iff, reduceCtorEq], by simp only [q_rf, q_lt, q_cl, q_jn, q_b, q_b1, q_ck, kd_I, kd_J, kd_R, n_I, n_J, n_R, r_I, r_J, c_I, c_J, c_R, i_J, i_R, j_I, j_R, y_in, y_isDay, x_within, x_isDay, x_isTown, sb_ybarg S1, g1' k hk, hq, hcl, o7', e0, c3, q2, q_10, q_01, eq_self, i_I, Nat.reduceEqDiff, Nat.add_left_cancel_iff, Nat.add_eq_left, Nat.left_eq_add, and_false, false_and, and_true, true_and, if_true, if_false, and_self, not_true, not_false_iff, reduceCtorEq], (wM_le q3 (by simp)).tr (wM_le (q4 ow) (by simp)), ?_, ?_⟩
  · exact RCx_0.mp (q5.up (ms' := []) M2 (q4 ow) (mX.rf S2.1) (by decide) (by decide))
  · exact q6.up (q4 ow) mO.rf (ms' := []) (mX.rf S2.1) (by decide) (by decide) (by decide)
end PT
