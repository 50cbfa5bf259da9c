/-! the two books -/
def RBn (B : Nat) (h : mm_H) (n0 n1 : Nat) : Prop := (n0 ≤ 10 ∧ mm_i h (B + 53) 0 = nI n0 ∧ mm_i h (B + 141) 0 = nI n0 ∧ ∀ k, k < n0 → (mm_i h (B + 142) k = mm_i h (B + 55) k ∧ mm_i h (B + 143) k = mm_i h (B + 58) k ∧ mm_i h (B + 144) k = mm_i h (B + 61) k) ∧ (0 ≤ mm_i h (B + 55) k ∧ mm_i h (B + 55) k ≤ 3999) ∧ (0 ≤ mm_i h (B + 61) k ∧ mm_i h (B + 61) k ≤ 1000000)) ∧ (n1 ≤ 10 ∧ mm_i h (B + 53) 1 = nI n1 ∧ mm_i h (B + 141) 1 = nI n1 ∧ ∀ k, k < n1 → (mm_i h (B + 142) (10 + k) = mm_i h (B + 56) k ∧ mm_i h (B + 143) (10 + k) = mm_i h (B + 59) k ∧ mm_i h (B + 144) (10 + k) = mm_i h (B + 62) k) ∧ (0 ≤ mm_i h (B + 56) k ∧ mm_i h (B + 56) k ≤ 3999) ∧ (0 ≤ mm_i h (B + 62) k ∧ mm_i h (B + 62) k ≤ 1000000))
def RBj (B : Nat) (h : mm_H) (n0 : Nat) : Prop := (mm_i h (B + 52) 7 = 0 ∧ mm_i h (B + 66) 108 = 0) ∨ ((mm_i h (B + 52) 7 = 1 ∧ mm_i h (B + 66) 108 = 1) ∧ mm_i h (B + 66) 114 = mm_i h (B + 52) 5 ∧ mm_i h (B + 66) 115 = mm_i h (B + 52) 6 ∧ ∀ k, k < n0 → mm_i h (B + 145) k = mm_i h (B + 63) k)
def RBk (B : Nat) (h : mm_H) : Prop := ∃ n0 n1, RBn B h n0 n1 ∧ RBj B h n0
def wCl (B : Nat) : Nat → Nat → Prop := fun a k => (a = B + 53 ∧ (k = 0 ∨ k = 1)) ∨ (a = B + 141 ∧ (k = 0 ∨ k = 1)) ∨ (a = B + 52 ∧ k = 7) ∨ (a = B + 66 ∧ k = 108)
section BK
variable {B : Nat} {h : mm_H}
theorem q_c0 : (0 : Int32).toNatClampNeg = 0 := by decide
theorem q_c1 : (1 : Int32).toNatClampNeg = 1 := by decide
theorem q_ix0 {β : Type} (k : Option β) : mm_ck (mm_ix 0 2) k = k := q_ck (q_ix (j := 0) (n := 2) (by decide) (by decide))
theorem q_ix1 {β : Type} (k : Option β) : mm_ck (mm_ix 1 2) k = k := q_ck (q_ix (j := 1) (n := 2) (by decide) (by decide))
theorem T_joined (S : mS B h) (R : RBk B h) (a : Int32) : ∃ r, fX11_joined B a h = some (r, h) ∧ fX12_joined (B + 66) a h = some (r, h) := by
  obtain ⟨n0, n1, ⟨⟨a1, a2, a3, a4⟩, -⟩, R⟩ := R
  unfold fX11_joined fX12_joined
  rcases R with ⟨r1, r2⟩ | ⟨⟨r1, r2⟩, r3, r4, r5⟩
  · exact ⟨-1, by simp only [r1, q_rf, q_lt, q_cl, q_jn, q_b, q_b1, q_ck, kd_I, kd_J, kd_R, n_I, n_J, n_R, r_I, r_J, c_I, c_J, c_R, i_J, i_R, j_I, j_R, y_in, y_isDay, x_within, x_isDay, x_isTown, q_10, q_01, eq_self, i_I, Nat.reduceEqDiff, Nat.add_left_cancel_iff, Nat.add_eq_left, Nat.left_eq_add, and_false, false_and, and_true, true_and, if_true, if_false, and_self, not_true, not_false_iff, reduceCtorEq, sb_xbooks S], by simp only [r2, q_rf, q_lt, q_cl, q_jn, q_b, q_b1, q_ck, kd_I, kd_J, kd_R, n_I, n_J, n_R, r_I, r_J, c_I, c_J, c_R, i_J, i_R, j_I, j_R, y_in, y_isDay, x_within, x_isDay, x_isTown, q_10, q_01, eq_self, i_I, Nat.reduceEqDiff, Nat.add_left_cancel_iff, Nat.add_eq_left, Nat.left_eq_add, and_false, false_and, and_true, true_and, if_true, if_false, and_self, not_true, not_false_iff, reduceCtorEq, sb_ybooks S]⟩
  by_cases e1 : a = -1
  · subst e1
    have z1 : ¬ (-1 : Int32) < -2 := by decide
    have z2 : (-1 : Int32) < nI n0 := Int32.lt_of_lt_of_le (by decide) (nI_pos' (n := n0) (by omega))
    exact ⟨mm_i h (B + 52) 5, by simp only [r1, z1, z2, a2, q_ix0, q_c0, q_rf, q_lt, q_cl, q_jn, q_b, q_b1, q_ck, kd_I, kd_J, kd_R, n_I, n_J, n_R, r_I, r_J, c_I, c_J, c_R, i_J, i_R, j_I, j_R, y_in, y_isDay, x_within, x_isDay, x_isTown, q_10, q_01, eq_self, i_I, Nat.reduceEqDiff, Nat.add_left_cancel_iff, Nat.add_eq_left, Nat.left_eq_add, and_false, false_and, and_true, true_and, if_true, if_false, and_self, not_true, not_false_iff, reduceCtorEq, sb_xbooks S], by simp only [r2, r3, q_rf, q_lt, q_cl, q_jn, q_b, q_b1, q_ck, kd_I, kd_J, kd_R, n_I, n_J, n_R, r_I, r_J, c_I, c_J, c_R, i_J, i_R, j_I, j_R, y_in, y_isDay, x_within, x_isDay, x_isTown, q_10, q_01, eq_self, i_I, Nat.reduceEqDiff, Nat.add_left_cancel_iff, Nat.add_eq_left, Nat.left_eq_add, and_false, false_and, and_true, true_and, if_true, if_false, and_self, not_true, not_false_iff, reduceCtorEq, sb_ybooks S]⟩
  by_cases e2 : a = -2
  · subst e2
    have z1 : ¬ (-2 : Int32) < -2 := by decide
    have z2 : (-2 : Int32) < nI n0 := Int32.lt_of_lt_of_le (by decide) (nI_pos' (n := n0) (by omega))
    exact ⟨mm_i h (B + 52) 6, by simp only [r1, z1, z2, e1, a2, q_ix0, q_c0, q_rf, q_lt, q_cl, q_jn, q_b, q_b1, q_ck, kd_I, kd_J, kd_R, n_I, n_J, n_R, r_I, r_J, c_I, c_J, c_R, i_J, i_R, j_I, j_R, y_in, y_isDay, x_within, x_isDay, x_isTown, q_10, q_01, eq_self, i_I, Nat.reduceEqDiff, Nat.add_left_cancel_iff, Nat.add_eq_left, Nat.left_eq_add, and_false, false_and, and_true, true_and, if_true, if_false, and_self, not_true, not_false_iff, reduceCtorEq, sb_xbooks S], by simp only [r2, r4, e1, q_rf, q_lt, q_cl, q_jn, q_b, q_b1, q_ck, kd_I, kd_J, kd_R, n_I, n_J, n_R, r_I, r_J, c_I, c_J, c_R, i_J, i_R, j_I, j_R, y_in, y_isDay, x_within, x_isDay, x_isTown, q_10, q_01, eq_self, i_I, Nat.reduceEqDiff, Nat.add_left_cancel_iff, Nat.add_eq_left, Nat.left_eq_add, and_false, false_and, and_true, true_and, if_true, if_false, and_self, not_true, not_false_iff, reduceCtorEq, sb_ybooks S]⟩
  by_cases c0 : a < 0
  case pos =>
    have c1 : ¬ (0 ≤ a ∧ a ≤ nI n0 - 1) := fun z => absurd z.1 (Int32.not_le.mpr c0)
    have c2 : a < -2 := by
      rw [Int32.lt_iff_toInt_lt] at c0 ⊢
      have q1 : a.toInt ≠ (-1 : Int32).toInt := fun z => e1 (Int32.toInt_inj.mp z)
      have q2 : a.toInt ≠ (-2 : Int32).toInt := fun z => e2 (Int32.toInt_inj.mp z)
      have f0 : (0 : Int32).toInt = 0 := by decide
      have f1 : (-1 : Int32).toInt = -1 := by decide
      have f2 : (-2 : Int32).toInt = -2 := by decide
      rw [f0] at c0
      rw [f1] at q1
      rw [f2] at q2 ⊢
      omega
    exact ⟨-1, by simp only [r1, c2, q_rf, q_lt, q_cl, q_jn, q_b, q_b1, q_ck, kd_I, kd_J, kd_R, n_I, n_J, n_R, r_I, r_J, c_I, c_J, c_R, i_J, i_R, j_I, j_R, y_in, y_isDay, x_within, x_isDay, x_isTown, q_10, q_01, eq_self, i_I, Nat.reduceEqDiff, Nat.add_left_cancel_iff, Nat.add_eq_left, Nat.left_eq_add, and_false, false_and, and_true, true_and, if_true, if_false, and_self, not_true, not_false_iff, reduceCtorEq, sb_xbooks S], by simp only [r2, e1, e2, c1, a3, q_ix0, q_c0, q_rf, q_lt, q_cl, q_jn, q_b, q_b1, q_ck, kd_I, kd_J, kd_R, n_I, n_J, n_R, r_I, r_J, c_I, c_J, c_R, i_J, i_R, j_I, j_R, y_in, y_isDay, x_within, x_isDay, x_isTown, q_10, q_01, eq_self, i_I, Nat.reduceEqDiff, Nat.add_left_cancel_iff, Nat.add_eq_left, Nat.left_eq_add, and_false, false_and, and_true, true_and, if_true, if_false, and_self, not_true, not_false_iff, reduceCtorEq, sb_ybooks S]⟩
  have c2 : ¬ a < -2 := fun z => c0 (Int32.lt_trans z (by decide))
  obtain ⟨j, hj, rfl⟩ := nI_of c0
  by_cases c1 : j < n0
  case neg =>
    have c3 : ¬ nI j < nI n0 := nI_nlt (by omega) hj
    have c4 : ¬ (0 ≤ nI j ∧ nI j ≤ nI n0 - 1) := by
      rintro ⟨-, z2⟩
      rcases Nat.eq_zero_or_pos n0 with e | e
      · subst e
        exact absurd (Int32.le_trans (nI_pos' hj) z2) (by decide)
      · obtain ⟨q, rfl⟩ : ∃ q, n0 = q + 1 := ⟨n0 - 1, by omega⟩
        rw [nI_pred] at z2
        exact nI_ge (by omega) hj z2
    exact ⟨-1, by simp only [r1, c2, c3, a2, q_ix0, q_c0, q_rf, q_lt, q_cl, q_jn, q_b, q_b1, q_ck, kd_I, kd_J, kd_R, n_I, n_J, n_R, r_I, r_J, c_I, c_J, c_R, i_J, i_R, j_I, j_R, y_in, y_isDay, x_within, x_isDay, x_isTown, q_10, q_01, eq_self, i_I, Nat.reduceEqDiff, Nat.add_left_cancel_iff, Nat.add_eq_left, Nat.left_eq_add, and_false, false_and, and_true, true_and, if_true, if_false, and_self, not_true, not_false_iff, reduceCtorEq, sb_xbooks S], by simp only [r2, e1, e2, c4, a3, q_ix0, q_c0, q_rf, q_lt, q_cl, q_jn, q_b, q_b1, q_ck, kd_I, kd_J, kd_R, n_I, n_J, n_R, r_I, r_J, c_I, c_J, c_R, i_J, i_R, j_I, j_R, y_in, y_isDay, x_within, x_isDay, x_isTown, q_10, q_01, eq_self, i_I, Nat.reduceEqDiff, Nat.add_left_cancel_iff, Nat.add_eq_left, Nat.left_eq_add, and_false, false_and, and_true, true_and, if_true, if_false, and_self, not_true, not_false_iff, reduceCtorEq, sb_ybooks S]⟩
  have hx := fun (β : Type) (k : Option β) => q_ckx (show j < 10 by omega) (by decide) k
  have hc := nI_clamp (n := j) hj
  have c3 : nI j < nI n0 := nI_lt c1 (by omega)
  have c4 : 0 ≤ nI j ∧ nI j ≤ nI n0 - 1 := by
    obtain ⟨q, rfl⟩ : ∃ q, n0 = q + 1 := ⟨n0 - 1, by omega⟩
    rw [nI_pred]
    exact ⟨nI_pos' hj, nI_le (by omega) (by omega)⟩
  exact ⟨mm_i h (B + 63) j, by simp only [r1, c2, c3, e1, e2, a2, q_ix0, q_c0, hx, hc, q_rf, q_lt, q_cl, q_jn, q_b, q_b1, q_ck, kd_I, kd_J, kd_R, n_I, n_J, n_R, r_I, r_J, c_I, c_J, c_R, i_J, i_R, j_I, j_R, y_in, y_isDay, x_within, x_isDay, x_isTown, q_10, q_01, eq_self, i_I, Nat.reduceEqDiff, Nat.add_left_cancel_iff, Nat.add_eq_left, Nat.left_eq_add, and_false, false_and, and_true, true_and, if_true, if_false, and_self, not_true, not_false_iff, reduceCtorEq, sb_xbooks S], by simp only [r2, e1, e2, c4, a3, q_ix0, q_c0, hx, hc, r5 j c1, q_rf, q_lt, q_cl, q_jn, q_b, q_b1, q_ck, kd_I, kd_J, kd_R, n_I, n_J, n_R, r_I, r_J, c_I, c_J, c_R, i_J, i_R, j_I, j_R, y_in, y_isDay, x_within, x_isDay, x_isTown, q_10, q_01, eq_self, i_I, Nat.reduceEqDiff, Nat.add_left_cancel_iff, Nat.add_eq_left, Nat.left_eq_add, and_false, false_and, and_true, true_and, if_true, if_false, and_self, not_true, not_false_iff, reduceCtorEq, sb_ybooks S]⟩
end BK
