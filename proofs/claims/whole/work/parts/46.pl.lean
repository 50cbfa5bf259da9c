/-! what was planned -/
def shF (h : mm_H) (B : Nat) (k : Nat) : Int32 := if mm_i h (B + 46) k < 0 then -1 else if mm_i h (B + 46) k < mm_i h (B + 37) 5 then mm_i h (B + 40) (mm_i h (B + 46) k).toNatClampNeg else -1
def RPl (B : Nat) (h : mm_H) : Prop := RHi B h ∧ (¬ mm_i h (B + 37) 13 = 0 → ∃ n q : Nat, (n ≤ 5 ∧ q ≤ 4) ∧ mm_i h (B + 37) 2 = nI n ∧ mm_i h (B + 66) 89 = nI n ∧ mm_i h (B + 37) 5 = nI q ∧ mm_i h (B + 66) 90 = nI q ∧ ∀ k, k < n → mm_i h (B + 127) k = mm_i h (B + 38) k ∧ mm_i h (B + 128) k = shF h B k)
section PL
variable {B : Nat} {h : mm_H}
theorem x_shipOf (S : mS B h) {n q j : Nat} (hn : n ≤ 5) (hq : q ≤ 4) (h2 : mm_i h (B + 37) 2 = nI n) (h5 : mm_i h (B + 37) 5 = nI q) (hj : j < n) : fX9_shipOf (B + 37) (nI j) h = some (shF h B j, h) := by
  have hx := fun (β : Type) (k : Option β) => q_ckx (show j < 5 by omega) (by decide) k
  have hc := nI_clamp (n := j) (by omega)
  have p0 : ¬ nI j < 0 := nI_pos (by omega)
  have p1 : ¬ nI n ≤ nI j := nI_ge hj (by omega)
  unfold fX9_shipOf shF
  by_cases c1 : mm_i h (B + 46) j < 0
  · simp only [p0, p1, h2, hx, hc, c1, q_rf, q_lt, q_cl, q_jn, q_b, q_b1, q_ck, kd_I, kd_J, kd_R, n_I, n_J, n_R, r_I, r_J, c_I, c_J, c_R, i_J, i_R, j_I, j_R, y_in, y_isDay, x_within, x_isDay, x_isTown, q_10, q_01, eq_self, i_I, Nat.reduceEqDiff, Nat.add_left_cancel_iff, Nat.add_eq_left, Nat.left_eq_add, and_false, false_and, and_true, true_and, if_true, if_false, and_self, not_true, not_false_iff, reduceCtorEq, sb_xplan S]
  by_cases c2 : mm_i h (B + 46) j < nI q
  · obtain ⟨i, hi, e⟩ := nI_of c1
    rw [e] at c2
    have hiq : i < q := (nI_ltI hi (by omega)).mp c2
    have hx2 := fun (β : Type) (k : Option β) => q_ckx (show i < 4 by omega) (by decide) k
    have c1' : ¬ nI i < 0 := nI_pos hi
    simp only [p0, p1, h2, h5, hx, hc, e, c1', c2, hx2, q_rf, q_lt, q_cl, q_jn, q_b, q_b1, q_ck, kd_I, kd_J, kd_R, n_I, n_J, n_R, r_I, r_J, c_I, c_J, c_R, i_J, i_R, j_I, j_R, y_in, y_isDay, x_within, x_isDay, x_isTown, q_10, q_01, eq_self, i_I, Nat.reduceEqDiff, Nat.add_left_cancel_iff, Nat.add_eq_left, Nat.left_eq_add, and_false, false_and, and_true, true_and, if_true, if_false, and_self, not_true, not_false_iff, reduceCtorEq, sb_xplan S]
  · simp only [p0, p1, h2, h5, hx, hc, c1, c2, q_rf, q_lt, q_cl, q_jn, q_b, q_b1, q_ck, kd_I, kd_J, kd_R, n_I, n_J, n_R, r_I, r_J, c_I, c_J, c_R, i_J, i_R, j_I, j_R, y_in, y_isDay, x_within, x_isDay, x_isTown, q_10, q_01, eq_self, i_I, Nat.reduceEqDiff, Nat.add_left_cancel_iff, Nat.add_eq_left, Nat.left_eq_add, and_false, false_and, and_true, true_and, if_true, if_false, and_self, not_true, not_false_iff, reduceCtorEq, sb_xplan S]
theorem T_planned (S : mS B h) (R : RPl B h) (a b : Int32) : ∃ r, fX11_planned B a b h = some (r, h) ∧ fX12_planned (B + 66) a b h = some (r, h) := by
  obtain ⟨⟨R1, -⟩, R⟩ := R
  unfold fX11_planned fX12_planned
  by_cases c : mm_i h (B + 37) 13 = 0
  · exact ⟨-1, by simp only [c, q_rf, q_lt, q_cl, q_jn, q_b, q_b1, q_ck, kd_I, kd_J, kd_R, n_I, n_J, n_R, r_I, r_J, c_I, c_J, c_R, i_J, i_R, j_I, j_R, y_in, y_isDay, x_within, x_isDay, x_isTown, q_10, q_01, eq_self, i_I, Nat.reduceEqDiff, Nat.add_left_cancel_iff, Nat.add_eq_left, Nat.left_eq_add, and_false, false_and, and_true, true_and, if_true, if_false, and_self, not_true, not_false_iff, reduceCtorEq, sb_xplan S], by simp only [R1.mp c, q_rf, q_lt, q_cl, q_jn, q_b, q_b1, q_ck, kd_I, kd_J, kd_R, n_I, n_J, n_R, r_I, r_J, c_I, c_J, c_R, i_J, i_R, j_I, j_R, y_in, y_isDay, x_within, x_isDay, x_isTown, q_10, q_01, eq_self, i_I, Nat.reduceEqDiff, Nat.add_left_cancel_iff, Nat.add_eq_left, Nat.left_eq_add, and_false, false_and, and_true, true_and, if_true, if_false, and_self, not_true, not_false_iff, reduceCtorEq, sb_yplan S]⟩
  have c2 : ¬ mm_i h (B + 66) 88 = 0 := fun z => c (R1.mpr z)
  obtain ⟨n, q, ⟨hn, hq⟩, h2, h3, h5, h6, h7⟩ := R c
  by_cases cb : 0 ≤ b ∧ b ≤ 1
  case neg => exact ⟨-1, by simp only [c, cb, q_rf, q_lt, q_cl, q_jn, q_b, q_b1, q_ck, kd_I, kd_J, kd_R, n_I, n_J, n_R, r_I, r_J, c_I, c_J, c_R, i_J, i_R, j_I, j_R, y_in, y_isDay, x_within, x_isDay, x_isTown, q_10, q_01, eq_self, i_I, Nat.reduceEqDiff, Nat.add_left_cancel_iff, Nat.add_eq_left, Nat.left_eq_add, and_false, false_and, and_true, true_and, if_true, if_false, and_self, not_true, not_false_iff, reduceCtorEq, sb_xplan S], by simp only [c2, cb, h3, q_rf, q_lt, q_cl, q_jn, q_b, q_b1, q_ck, kd_I, kd_J, kd_R, n_I, n_J, n_R, r_I, r_J, c_I, c_J, c_R, i_J, i_R, j_I, j_R, y_in, y_isDay, x_within, x_isDay, x_isTown, q_10, q_01, eq_self, i_I, Nat.reduceEqDiff, Nat.add_left_cancel_iff, Nat.add_eq_left, Nat.left_eq_add, and_false, false_and, and_true, true_and, if_true, if_false, and_self, not_true, not_false_iff, reduceCtorEq, sb_yplan S, ite_self]⟩
  by_cases e1 : a = -1
  · subst e1
    have z : (-1 : Int32) ≤ -1 ∧ (-1 : Int32) ≤ nI n - 1 := by
      refine ⟨Int32.le_refl _, ?_⟩
      rcases Nat.eq_zero_or_pos n with e | e
      · subst e; decide
      · obtain ⟨m, rfl⟩ : ∃ m, n = m + 1 := ⟨n - 1, by omega⟩
        rw [nI_pred]
        exact Int32.le_trans (by decide) (nI_pos' (n := m) (by omega))
    by_cases e2 : b = 0
    · subst e2
      exact ⟨nI n, by simp only [c, cb, h2, q_rf, q_lt, q_cl, q_jn, q_b, q_b1, q_ck, kd_I, kd_J, kd_R, n_I, n_J, n_R, r_I, r_J, c_I, c_J, c_R, i_J, i_R, j_I, j_R, y_in, y_isDay, x_within, x_isDay, x_isTown, q_10, q_01, eq_self, i_I, Nat.reduceEqDiff, Nat.add_left_cancel_iff, Nat.add_eq_left, Nat.left_eq_add, and_false, false_and, and_true, true_and, if_true, if_false, and_self, not_true, not_false_iff, reduceCtorEq, sb_xplan S], by simp only [c2, cb, z, h3, q_rf, q_lt, q_cl, q_jn, q_b, q_b1, q_ck, kd_I, kd_J, kd_R, n_I, n_J, n_R, r_I, r_J, c_I, c_J, c_R, i_J, i_R, j_I, j_R, y_in, y_isDay, x_within, x_isDay, x_isTown, q_10, q_01, eq_self, i_I, Nat.reduceEqDiff, Nat.add_left_cancel_iff, Nat.add_eq_left, Nat.left_eq_add, and_false, false_and, and_true, true_and, if_true, if_false, and_self, not_true, not_false_iff, reduceCtorEq, sb_yplan S]⟩
    · exact ⟨nI q, by simp only [c, cb, e2, h5, q_rf, q_lt, q_cl, q_jn, q_b, q_b1, q_ck, kd_I, kd_J, kd_R, n_I, n_J, n_R, r_I, r_J, c_I, c_J, c_R, i_J, i_R, j_I, j_R, y_in, y_isDay, x_within, x_isDay, x_isTown, q_10, q_01, eq_self, i_I, Nat.reduceEqDiff, Nat.add_left_cancel_iff, Nat.add_eq_left, Nat.left_eq_add, and_false, false_and, and_true, true_and, if_true, if_false, and_self, not_true, not_false_iff, reduceCtorEq, sb_xplan S], by simp only [c2, cb, z, e2, h3, h6, q_rf, q_lt, q_cl, q_jn, q_b, q_b1, q_ck, kd_I, kd_J, kd_R, n_I, n_J, n_R, r_I, r_J, c_I, c_J, c_R, i_J, i_R, j_I, j_R, y_in, y_isDay, x_within, x_isDay, x_isTown, q_10, q_01, eq_self, i_I, Nat.reduceEqDiff, Nat.add_left_cancel_iff, Nat.add_eq_left, Nat.left_eq_add, and_false, false_and, and_true, true_and, if_true, if_false, and_self, not_true, not_false_iff, reduceCtorEq, sb_yplan S]⟩
  by_cases c0 : a < 0
  case pos =>
    have z : ¬ (-1 ≤ a ∧ a ≤ nI n - 1) := by
      rintro ⟨z, -⟩
      rw [Int32.lt_iff_toInt_lt] at c0
      rw [Int32.le_iff_toInt_le] at z
      have q1 : a.toInt ≠ (-1 : Int32).toInt := fun z => e1 (Int32.toInt_inj.mp z)
      have f0 : (0 : Int32).toInt = 0 := by decide
      have f1 : (-1 : Int32).toInt = -1 := by decide
      rw [f0] at c0
      rw [f1] at q1 z
      omega
    exact ⟨-1, by simp only [c, cb, e1, c0, q_rf, q_lt, q_cl, q_jn, q_b, q_b1, q_ck, kd_I, kd_J, kd_R, n_I, n_J, n_R, r_I, r_J, c_I, c_J, c_R, i_J, i_R, j_I, j_R, y_in, y_isDay, x_within, x_isDay, x_isTown, q_10, q_01, eq_self, i_I, Nat.reduceEqDiff, Nat.add_left_cancel_iff, Nat.add_eq_left, Nat.left_eq_add, and_false, false_and, and_true, true_and, if_true, if_false, and_self, not_true, not_false_iff, reduceCtorEq, sb_xplan S], by simp only [c2, z, h3, q_rf, q_lt, q_cl, q_jn, q_b, q_b1, q_ck, kd_I, kd_J, kd_R, n_I, n_J, n_R, r_I, r_J, c_I, c_J, c_R, i_J, i_R, j_I, j_R, y_in, y_isDay, x_within, x_isDay, x_isTown, q_10, q_01, eq_self, i_I, Nat.reduceEqDiff, Nat.add_left_cancel_iff, Nat.add_eq_left, Nat.left_eq_add, and_false, false_and, and_true, true_and, if_true, if_false, and_self, not_true, not_false_iff, reduceCtorEq, sb_yplan S]⟩
  obtain ⟨j, hj, rfl⟩ := nI_of c0
  by_cases c1 : j < n
  case neg =>
    have c3 : ¬ nI j < nI n := nI_nlt (by omega) hj
    have c4 : ¬ (-1 ≤ nI j ∧ nI j ≤ nI n - 1) := by
      rintro ⟨-, z2⟩
      rcases Nat.eq_zero_or_pos n with e | e
      · subst e
        exact absurd (Int32.le_trans (nI_pos' hj) z2) (by decide)
      · obtain ⟨q, rfl⟩ : ∃ q, n = q + 1 := ⟨n - 1, by omega⟩
        rw [nI_pred] at z2
        exact nI_ge (by omega) hj z2
    exact ⟨-1, by simp only [c, cb, e1, c0, c3, h2, q_rf, q_lt, q_cl, q_jn, q_b, q_b1, q_ck, kd_I, kd_J, kd_R, n_I, n_J, n_R, r_I, r_J, c_I, c_J, c_R, i_J, i_R, j_I, j_R, y_in, y_isDay, x_within, x_isDay, x_isTown, q_10, q_01, eq_self, i_I, Nat.reduceEqDiff, Nat.add_left_cancel_iff, Nat.add_eq_left, Nat.left_eq_add, and_false, false_and, and_true, true_and, if_true, if_false, and_self, not_true, not_false_iff, reduceCtorEq, sb_xplan S], by simp only [c2, c4, h3, q_rf, q_lt, q_cl, q_jn, q_b, q_b1, q_ck, kd_I, kd_J, kd_R, n_I, n_J, n_R, r_I, r_J, c_I, c_J, c_R, i_J, i_R, j_I, j_R, y_in, y_isDay, x_within, x_isDay, x_isTown, q_10, q_01, eq_self, i_I, Nat.reduceEqDiff, Nat.add_left_cancel_iff, Nat.add_eq_left, Nat.left_eq_add, and_false, false_and, and_true, true_and, if_true, if_false, and_self, not_true, not_false_iff, reduceCtorEq, sb_yplan S]⟩
  have hx := fun (β : Type) (k : Option β) => q_ckx (show j < 5 by omega) (by decide) k
  have hc := nI_clamp (n := j) hj
  have c3 : nI j < nI n := nI_lt c1 (by omega)
  have c4 : -1 ≤ nI j ∧ nI j ≤ nI n - 1 := by
    obtain ⟨m, rfl⟩ : ∃ m, n = m + 1 := ⟨n - 1, by omega⟩
    rw [nI_pred]
    exact ⟨Int32.le_trans (by decide) (nI_pos' hj), nI_le (by omega) (by omega)⟩
  by_cases e2 : b = 0
  · subst e2
    exact ⟨mm_i h (B + 38) j, by simp only [c, cb, e1, c0, c3, h2, hx, hc, q_rf, q_lt, q_cl, q_jn, q_b, q_b1, q_ck, kd_I, kd_J, kd_R, n_I, n_J, n_R, r_I, r_J, c_I, c_J, c_R, i_J, i_R, j_I, j_R, y_in, y_isDay, x_within, x_isDay, x_isTown, q_10, q_01, eq_self, i_I, Nat.reduceEqDiff, Nat.add_left_cancel_iff, Nat.add_eq_left, Nat.left_eq_add, and_false, false_and, and_true, true_and, if_true, if_false, and_self, not_true, not_false_iff, reduceCtorEq, sb_xplan S], by simp only [c2, cb, c4, e1, h3, hx, hc, (h7 j c1).1, q_rf, q_lt, q_cl, q_jn, q_b, q_b1, q_ck, kd_I, kd_J, kd_R, n_I, n_J, n_R, r_I, r_J, c_I, c_J, c_R, i_J, i_R, j_I, j_R, y_in, y_isDay, x_within, x_isDay, x_isTown, q_10, q_01, eq_self, i_I, Nat.reduceEqDiff, Nat.add_left_cancel_iff, Nat.add_eq_left, Nat.left_eq_add, and_false, false_and, and_true, true_and, if_true, if_false, and_self, not_true, not_false_iff, reduceCtorEq, sb_yplan S]⟩
  · exact ⟨shF h B j, by simp only [c, cb, e1, e2, c0, c3, h2, x_shipOf S hn hq h2 h5 c1, q_rf, q_lt, q_cl, q_jn, q_b, q_b1, q_ck, kd_I, kd_J, kd_R, n_I, n_J, n_R, r_I, r_J, c_I, c_J, c_R, i_J, i_R, j_I, j_R, y_in, y_isDay, x_within, x_isDay, x_isTown, q_10, q_01, eq_self, i_I, Nat.reduceEqDiff, Nat.add_left_cancel_iff, Nat.add_eq_left, Nat.left_eq_add, and_false, false_and, and_true, true_and, if_true, if_false, and_self, not_true, not_false_iff, reduceCtorEq, sb_xplan S], by simp only [c2, cb, c4, e1, e2, h3, hx, hc, (h7 j c1).2, q_rf, q_lt, q_cl, q_jn, q_b, q_b1, q_ck, kd_I, kd_J, kd_R, n_I, n_J, n_R, r_I, r_J, c_I, c_J, c_R, i_J, i_R, j_I, j_R, y_in, y_isDay, x_within, x_isDay, x_isTown, q_10, q_01, eq_self, i_I, Nat.reduceEqDiff, Nat.add_left_cancel_iff, Nat.add_eq_left, Nat.left_eq_add, and_false, false_and, and_true, true_and, if_true, if_false, and_self, not_true, not_false_iff, reduceCtorEq, sb_yplan S]⟩
end PL
