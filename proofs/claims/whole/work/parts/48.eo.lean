/-! entry, of any book -/
theorem T_entry {B : Nat} {h : mm_H} (S : mS B h) (R : RBk B h) (M : RMc B h) (a b c d : Int32) : ∃ r h1 h2, fX11_entry B a b c d h = some (r, h1) ∧ fX12_entry (B + 66) a b c d h1 = some (r, h2) ∧ mW (wEn B) h h2 ∧ RBk B h2 := by
  by_cases c0 : 0 ≤ a ∧ a ≤ 1
  case neg => exact ⟨-1, h, h, by unfold fX11_entry; simp only [c0, q_rf, q_lt, q_cl, q_jn, q_b, q_b1, q_ck, kd_I, kd_J, kd_R, n_I, n_J, n_R, r_I, r_J, c_I, c_J, c_R, i_J, i_R, j_I, j_R, y_in, y_isDay, x_within, x_isDay, x_isTown, q_10, q_01, eq_self, i_I, Nat.reduceEqDiff, Nat.add_left_cancel_iff, Nat.add_eq_left, Nat.left_eq_add, and_false, false_and, and_true, true_and, if_true, if_false, and_self, not_true, not_false_iff, reduceCtorEq], by unfold fX12_entry; simp only [c0, q_rf, q_lt, q_cl, q_jn, q_b, q_b1, q_ck, kd_I, kd_J, kd_R, n_I, n_J, n_R, r_I, r_J, c_I, c_J, c_R, i_J, i_R, j_I, j_R, y_in, y_isDay, x_within, x_isDay, x_isTown, q_10, q_01, eq_self, i_I, Nat.reduceEqDiff, Nat.add_left_cancel_iff, Nat.add_eq_left, Nat.left_eq_add, and_false, false_and, and_true, true_and, if_true, if_false, and_self, not_true, not_false_iff, reduceCtorEq], mW.rf, R⟩
  obtain ⟨c1, c2⟩ := c0
  rcases q_05 c1 (Int32.le_trans c2 (by decide)) with e | e | e | e | e | e
  · subst e; exact T_entry0 S R M b c d
  · subst e; exact T_entry1 S R M b c d
  · subst e; exact absurd c2 (by decide)
  · subst e; exact absurd c2 (by decide)
  · subst e; exact absurd c2 (by decide)
  · subst e; exact absurd c2 (by decide)
