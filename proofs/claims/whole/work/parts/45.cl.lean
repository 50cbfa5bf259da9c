/-! the books, on: clear -/
section CL
variable {B : Nat} {h : mm_H}
theorem T_clear (S : mS B h) (R : RBk B h) : ∃ r h1 h2, fX11_clear B h = some (r, h1) ∧ fX12_clear (B + 66) h1 = some (r, h2) ∧ mW (wCl B) h h2 ∧ RBk B h2 := by
  obtain ⟨n0, n1, ⟨⟨a1, a2, a3, a4⟩, b1, b2, b3, b4⟩, R⟩ := R
  unfold fX11_clear fX1_empty fX12_clear
  have d1 : ¬ (53 : Nat) = 141 := by decide
  by_cases z : n0 + n1 = 0
  · have y0 : n0 = 0 := by omega
    have y1 : n1 = 0 := by omega
    subst y0
    subst y1
    have e0 : nI 0 + nI 0 = 0 := by decide
    have e1 : (0 : Int32) ≤ 0 := Int32.le_refl _
    rcases R with ⟨r1, r2⟩ | ⟨⟨r1, r2⟩, r3, r4, r5⟩
    · refine ⟨0, _, _, by simp only [a2, b2, e0, e1, q_ix0, q_ix1, q_c0, q_c1, q_rf, q_lt, q_cl, q_jn, q_b, q_b1, q_ck, kd_I, kd_J, kd_R, n_I, n_J, n_R, r_I, r_J, c_I, c_J, c_R, i_J, i_R, j_I, j_R, y_in, y_isDay, x_within, x_isDay, x_isTown, q_10, q_01, eq_self, i_I, Nat.reduceEqDiff, Nat.add_left_cancel_iff, Nat.add_eq_left, Nat.left_eq_add, and_false, false_and, and_true, true_and, if_true, if_false, and_self, not_true, not_false_iff, reduceCtorEq, sb_xbooks S]; rfl, by simp only [a3, b3, r2, e0, q_ix0, q_ix1, q_c0, q_c1, q_rf, q_lt, q_cl, q_jn, q_b, q_b1, q_ck, kd_I, kd_J, kd_R, n_I, n_J, n_R, r_I, r_J, c_I, c_J, c_R, i_J, i_R, j_I, j_R, y_in, y_isDay, x_within, x_isDay, x_isTown, q_10, q_01, eq_self, i_I, Nat.reduceEqDiff, Nat.add_left_cancel_iff, Nat.add_eq_left, Nat.left_eq_add, and_false, false_and, and_true, true_and, if_true, if_false, and_self, not_true, not_false_iff, reduceCtorEq, sb_ybooks S]; rfl, ?_, 0, 0, ⟨⟨Nat.zero_le _, ?_, ?_, fun k hk => absurd hk (Nat.not_lt_zero k)⟩, Nat.zero_le _, ?_, ?_, fun k hk => absurd hk (Nat.not_lt_zero k)⟩, Or.inl ⟨?_, ?_⟩⟩
      · (repeat refine mW.I ?_ (by simp [wCl])); exact mW.rf
      all_goals simp [i_I, r1, r2, nI_0]
    · refine ⟨0, _, _, by simp only [a2, b2, e0, e1, q_ix0, q_ix1, q_c0, q_c1, q_rf, q_lt, q_cl, q_jn, q_b, q_b1, q_ck, kd_I, kd_J, kd_R, n_I, n_J, n_R, r_I, r_J, c_I, c_J, c_R, i_J, i_R, j_I, j_R, y_in, y_isDay, x_within, x_isDay, x_isTown, q_10, q_01, eq_self, i_I, Nat.reduceEqDiff, Nat.add_left_cancel_iff, Nat.add_eq_left, Nat.left_eq_add, and_false, false_and, and_true, true_and, if_true, if_false, and_self, not_true, not_false_iff, reduceCtorEq, sb_xbooks S]; rfl, by simp only [a3, b3, r2, e0, q_ix0, q_ix1, q_c0, q_c1, q_rf, q_lt, q_cl, q_jn, q_b, q_b1, q_ck, kd_I, kd_J, kd_R, n_I, n_J, n_R, r_I, r_J, c_I, c_J, c_R, i_J, i_R, j_I, j_R, y_in, y_isDay, x_within, x_isDay, x_isTown, q_10, q_01, eq_self, i_I, Nat.reduceEqDiff, Nat.add_left_cancel_iff, Nat.add_eq_left, Nat.left_eq_add, and_false, false_and, and_true, true_and, if_true, if_false, and_self, not_true, not_false_iff, reduceCtorEq, sb_ybooks S]; rfl, ?_, 0, 0, ⟨⟨Nat.zero_le _, ?_, ?_, fun k hk => absurd hk (Nat.not_lt_zero k)⟩, Nat.zero_le _, ?_, ?_, fun k hk => absurd hk (Nat.not_lt_zero k)⟩, Or.inr ⟨⟨?_, ?_⟩, ?_, ?_, fun k hk => absurd hk (Nat.not_lt_zero k)⟩⟩
      · (repeat refine mW.I ?_ (by simp [wCl])); exact mW.rf
      all_goals simp [i_I, r1, r2, r3, r4, nI_0]
  · have e1 : ¬ nI (n0 + n1) ≤ 0 := nI_nle (by omega) (by omega)
    have e2 : ¬ nI (n0 + n1) = 0 := nI_ne0 (by omega) (by omega)
    rcases R with ⟨r1, r2⟩ | ⟨⟨r1, r2⟩, r3, r4, r5⟩
    · refine ⟨nI (n0 + n1), _, _, by simp only [a2, b2, nI_add, e1, q_ix0, q_ix1, q_c0, q_c1, q_rf, q_lt, q_cl, q_jn, q_b, q_b1, q_ck, kd_I, kd_J, kd_R, n_I, n_J, n_R, r_I, r_J, c_I, c_J, c_R, i_J, i_R, j_I, j_R, y_in, y_isDay, x_within, x_isDay, x_isTown, q_10, q_01, eq_self, i_I, Nat.reduceEqDiff, Nat.add_left_cancel_iff, Nat.add_eq_left, Nat.left_eq_add, and_false, false_and, and_true, true_and, if_true, if_false, and_self, not_true, not_false_iff, reduceCtorEq, sb_xbooks S]; rfl, by simp only [a3, b3, nI_add, r2, q_ix0, q_ix1, q_c0, q_c1, q_rf, q_lt, q_cl, q_jn, q_b, q_b1, q_ck, kd_I, kd_J, kd_R, n_I, n_J, n_R, r_I, r_J, c_I, c_J, c_R, i_J, i_R, j_I, j_R, y_in, y_isDay, x_within, x_isDay, x_isTown, q_10, q_01, eq_self, i_I, Nat.reduceEqDiff, Nat.add_left_cancel_iff, Nat.add_eq_left, Nat.left_eq_add, and_false, false_and, and_true, true_and, if_true, if_false, and_self, not_true, not_false_iff, reduceCtorEq, sb_ybooks S]; rfl, ?_, 0, 0, ⟨⟨Nat.zero_le _, ?_, ?_, fun k hk => absurd hk (Nat.not_lt_zero k)⟩, Nat.zero_le _, ?_, ?_, fun k hk => absurd hk (Nat.not_lt_zero k)⟩, Or.inl ⟨?_, ?_⟩⟩
      · (repeat refine mW.I ?_ (by simp [wCl])); exact mW.rf
      all_goals simp [i_I, r1, r2, nI_0]
    · refine ⟨nI (n0 + n1), _, _, by simp only [a2, b2, nI_add, e1, q_ix0, q_ix1, q_c0, q_c1, q_rf, q_lt, q_cl, q_jn, q_b, q_b1, q_ck, kd_I, kd_J, kd_R, n_I, n_J, n_R, r_I, r_J, c_I, c_J, c_R, i_J, i_R, j_I, j_R, y_in, y_isDay, x_within, x_isDay, x_isTown, q_10, q_01, eq_self, i_I, Nat.reduceEqDiff, Nat.add_left_cancel_iff, Nat.add_eq_left, Nat.left_eq_add, and_false, false_and, and_true, true_and, if_true, if_false, and_self, not_true, not_false_iff, reduceCtorEq, sb_xbooks S]; rfl, by simp only [a3, b3, nI_add, r2, e2, q_ix0, q_ix1, q_c0, q_c1, q_rf, q_lt, q_cl, q_jn, q_b, q_b1, q_ck, kd_I, kd_J, kd_R, n_I, n_J, n_R, r_I, r_J, c_I, c_J, c_R, i_J, i_R, j_I, j_R, y_in, y_isDay, x_within, x_isDay, x_isTown, q_10, q_01, eq_self, i_I, Nat.reduceEqDiff, Nat.add_left_cancel_iff, Nat.add_eq_left, Nat.left_eq_add, and_false, false_and, and_true, true_and, if_true, if_false, and_self, not_true, not_false_iff, reduceCtorEq, sb_ybooks S]; rfl, ?_, 0, 0, ⟨⟨Nat.zero_le _, ?_, ?_, fun k hk => absurd hk (Nat.not_lt_zero k)⟩, Nat.zero_le _, ?_, ?_, fun k hk => absurd hk (Nat.not_lt_zero k)⟩, Or.inl ⟨?_, ?_⟩⟩
      · (repeat refine mW.I ?_ (by simp [wCl])); exact mW.rf
      all_goals simp [i_I, r1, r2, nI_0]
end CL
