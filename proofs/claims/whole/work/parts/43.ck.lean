/-! the clock; what a plan yields at most -/
def wCk (B : Nat) : Nat → Nat → Prop := fun a k => (a = B ∧ k = 11) ∨ (a = B + 66 ∧ k = 1)
/-- the plan's flag and its greatest yield -/
def RHi (B : Nat) (h : mm_H) : Prop := (mm_i h (B + 37) 13 = 0 ↔ mm_i h (B + 66) 88 = 0) ∧ (¬ mm_i h (B + 37) 13 = 0 → mm_j h (B + 66) 91 = mm_j h (B + 37) 12)
section CK
variable {B : Nat} {h : mm_H}
theorem T_clock (S : mS B h) (N : RNow B h) (a : Int32) : ∃ r h1 h2, fX11_clock B a h = some (r, h1) ∧ fX12_clock (B + 66) a h1 = some (r, h2) ∧ mW (wCk B) h h2 ∧ RNow B h2 ∧ mm_i h B 11 ≤ mm_i h2 B 11 := by
  obtain ⟨N1, N2, N3⟩ := id N
  unfold fX11_clock fX12_clock
  by_cases c1 : mm_i h B 11 ≤ a ∧ a ≤ 3999
  case neg =>
    refine ⟨0, h, h, ?_, by simp only [c1, N1, sk66 S, q_rf, q_lt, q_cl, q_jn, q_b, q_b1, q_ck, kd_I, kd_J, kd_R, n_I, n_J, n_R, r_I, r_J, c_I, c_J, c_R, i_J, i_R, j_I, j_R, y_in, y_isDay, x_within, x_isDay, x_isTown, q_10, q_01, eq_self, i_I, Nat.reduceEqDiff, Nat.add_left_cancel_iff, Nat.add_eq_left, Nat.left_eq_add, and_false, false_and, and_true, true_and, if_true, if_false, and_self, not_true, not_false_iff, reduceCtorEq], mW.rf, N, Int32.le_refl _⟩
    by_cases c2 : a < mm_i h B 11
    · simp only [c2, sk0 S, q_rf, q_lt, q_cl, q_jn, q_b, q_b1, q_ck, kd_I, kd_J, kd_R, n_I, n_J, n_R, r_I, r_J, c_I, c_J, c_R, i_J, i_R, j_I, j_R, y_in, y_isDay, x_within, x_isDay, x_isTown, q_10, q_01, eq_self, i_I, Nat.reduceEqDiff, Nat.add_left_cancel_iff, Nat.add_eq_left, Nat.left_eq_add, and_false, false_and, and_true, true_and, if_true, if_false, and_self, not_true, not_false_iff, reduceCtorEq]
    · have c3 : ¬ a ≤ 3999 := fun z => c1 ⟨Int32.not_lt.mp c2, z⟩
      simp only [c2, c3, sk0 S, q_rf, q_lt, q_cl, q_jn, q_b, q_b1, q_ck, kd_I, kd_J, kd_R, n_I, n_J, n_R, r_I, r_J, c_I, c_J, c_R, i_J, i_R, j_I, j_R, y_in, y_isDay, x_within, x_isDay, x_isTown, q_10, q_01, eq_self, i_I, Nat.reduceEqDiff, Nat.add_left_cancel_iff, Nat.add_eq_left, Nat.left_eq_add, and_false, false_and, and_true, true_and, if_true, if_false, and_self, not_true, not_false_iff, reduceCtorEq]
  have c2 : ¬ a < mm_i h B 11 := Int32.not_lt.mpr c1.1
  refine ⟨1, mm_setI h B 11 a, mm_setI (mm_setI h B 11 a) (B + 66) 1 a, by simp only [c2, c1.2, sk0 S, q_rf, q_lt, q_cl, q_jn, q_b, q_b1, q_ck, kd_I, kd_J, kd_R, n_I, n_J, n_R, r_I, r_J, c_I, c_J, c_R, i_J, i_R, j_I, j_R, y_in, y_isDay, x_within, x_isDay, x_isTown, q_10, q_01, eq_self, i_I, Nat.reduceEqDiff, Nat.add_left_cancel_iff, Nat.add_eq_left, Nat.left_eq_add, and_false, false_and, and_true, true_and, if_true, if_false, and_self, not_true, not_false_iff, reduceCtorEq], ?_, (mW.rf.I (by simp [wCk])).I (by simp [wCk]), ⟨by simp [i_I], by simp [i_I]; exact Int32.le_trans N2 c1.1, by simp [i_I]; exact c1.2⟩, by simp [i_I]; exact c1.1⟩
  have n1 : mm_i (mm_setI h B 11 a) (B + 66) 1 = mm_i h B 11 := by rw [← N1]; simp [i_I]
  simp only [n1, c1, sk66 S, q_rf, q_lt, q_cl, q_jn, q_b, q_b1, q_ck, kd_I, kd_J, kd_R, n_I, n_J, n_R, r_I, r_J, c_I, c_J, c_R, i_J, i_R, j_I, j_R, y_in, y_isDay, x_within, x_isDay, x_isTown, q_10, q_01, eq_self, i_I, Nat.reduceEqDiff, Nat.add_left_cancel_iff, Nat.add_eq_left, Nat.left_eq_add, and_false, false_and, and_true, true_and, if_true, if_false, and_self, not_true, not_false_iff, reduceCtorEq]
theorem T_high (S : mS B h) (R : RHi B h) : ∃ r, fX11_high B h = some (r, h) ∧ fX12_high (B + 66) h = some (r, h) := by
  obtain ⟨R1, R2⟩ := R
  unfold fX11_high fX12_high
  by_cases c : mm_i h (B + 37) 13 = 0
  · exact ⟨-1, by simp only [c, q_rf, q_lt, q_cl, q_jn, q_b, q_b1, q_ck, kd_I, kd_J, kd_R, n_I, n_J, n_R, r_I, r_J, c_I, c_J, c_R, i_J, i_R, j_I, j_R, y_in, y_isDay, x_within, x_isDay, x_isTown, q_10, q_01, eq_self, i_I, Nat.reduceEqDiff, Nat.add_left_cancel_iff, Nat.add_eq_left, Nat.left_eq_add, and_false, false_and, and_true, true_and, if_true, if_false, and_self, not_true, not_false_iff, reduceCtorEq, sb_xplan S], by simp only [R1.mp c, q_rf, q_lt, q_cl, q_jn, q_b, q_b1, q_ck, kd_I, kd_J, kd_R, n_I, n_J, n_R, r_I, r_J, c_I, c_J, c_R, i_J, i_R, j_I, j_R, y_in, y_isDay, x_within, x_isDay, x_isTown, q_10, q_01, eq_self, i_I, Nat.reduceEqDiff, Nat.add_left_cancel_iff, Nat.add_eq_left, Nat.left_eq_add, and_false, false_and, and_true, true_and, if_true, if_false, and_self, not_true, not_false_iff, reduceCtorEq, sb_yplan S]⟩
  · have c2 : ¬ mm_i h (B + 66) 88 = 0 := fun z => c (R1.mpr z)
    exact ⟨mm_j h (B + 37) 12, by simp only [c, q_rf, q_lt, q_cl, q_jn, q_b, q_b1, q_ck, kd_I, kd_J, kd_R, n_I, n_J, n_R, r_I, r_J, c_I, c_J, c_R, i_J, i_R, j_I, j_R, y_in, y_isDay, x_within, x_isDay, x_isTown, q_10, q_01, eq_self, i_I, Nat.reduceEqDiff, Nat.add_left_cancel_iff, Nat.add_eq_left, Nat.left_eq_add, and_false, false_and, and_true, true_and, if_true, if_false, and_self, not_true, not_false_iff, reduceCtorEq, sb_xplan S], by simp only [c2, R2 c, q_rf, q_lt, q_cl, q_jn, q_b, q_b1, q_ck, kd_I, kd_J, kd_R, n_I, n_J, n_R, r_I, r_J, c_I, c_J, c_R, i_J, i_R, j_I, j_R, y_in, y_isDay, x_within, x_isDay, x_isTown, q_10, q_01, eq_self, i_I, Nat.reduceEqDiff, Nat.add_left_cancel_iff, Nat.add_eq_left, Nat.left_eq_add, and_false, false_and, and_true, true_and, if_true, if_false, and_self, not_true, not_false_iff, reduceCtorEq, sb_yplan S]⟩
end CK
