/-! weighings -/
def RWe (B : Nat) (h : mm_H) : Prop := ∃ n : Nat, n ≤ 100 ∧ mm_i h (B + 17) 5 = nI n ∧ mm_i h (B + 66) 61 = nI n ∧ ∀ k, k < n → (mm_i h (B + 111) k = mm_i h (B + 18) k ∧ mm_i h (B + 112) k = mm_i h (B + 19) k ∧ mm_i h (B + 113) k = mm_i h (B + 20) k ∧ mm_i h (B + 114) k = mm_i h (B + 21) k) ∧ (2 ≤ mm_i h (B + 19) k ∧ mm_i h (B + 19) k ≤ 100000) ∧ (1 ≤ mm_i h (B + 20) k ∧ mm_i h (B + 20) k ≤ 100000) ∧ ((mm_i h (B + 22) k = -1 ∧ mm_i h (B + 115) k = 100000) ∨ (0 ≤ mm_i h (B + 22) k ∧ mm_i h (B + 22) k ≤ 3999 ∧ mm_i h (B + 115) k = mm_i h (B + 22) k))
def wWe (B : Nat) : Nat → Nat → Prop := fun a k => (a = B + 17 ∧ k = 5) ∨ (a = B + 66 ∧ k = 61) ∨ a = B + 18 ∨ a = B + 19 ∨ a = B + 20 ∨ a = B + 21 ∨ a = B + 22 ∨ a = B + 111 ∨ a = B + 112 ∨ a = B + 113 ∨ a = B + 114 ∨ a = B + 115
section WE
variable {B : Nat} {h : mm_H}
theorem T_weigh (S : mS B h) (N : RNow B h) (R : RWe B h) (a b c : Int32) : ∃ r h1 h2, fX11_weigh B a b c h = some (r, h1) ∧ fX12_weigh (B + 66) a b c h1 = some (r, h2) ∧ mW (wWe B) h h2 ∧ RWe B h2 := by
  obtain ⟨n, h1, h2, h3, h4⟩ := R
  obtain ⟨N1, N2, N3⟩ := N
  unfold fX11_weigh fX8_add fX12_weigh
  have e20 : (nI n < 100) = (n < 100) := propext (nI_ltI (b := 100) (by omega) (by omega))
  have e20' : (nI n = 100) = (n = 100) := propext (nI_eq (b := 100) (by omega) (by omega))
  by_cases c1 : 0 ≤ a ∧ a ≤ 7
  case neg => exact ⟨-1, h, h, by simp only [c1, x_isKind, q_rf, q_lt, q_cl, q_jn, q_b, q_b1, q_ck, kd_I, kd_J, kd_R, n_I, n_J, n_R, r_I, r_J, c_I, c_J, c_R, i_J, i_R, j_I, j_R, y_in, y_isDay, x_within, x_isDay, x_isTown, q_10, q_01, eq_self, i_I, Nat.reduceEqDiff, Nat.add_left_cancel_iff, Nat.add_eq_left, Nat.left_eq_add, and_false, false_and, and_true, true_and, if_true, if_false, and_self, not_true, not_false_iff, reduceCtorEq, sb_xmeas S], by simp only [c1, h3, N1, q_rf, q_lt, q_cl, q_jn, q_b, q_b1, q_ck, kd_I, kd_J, kd_R, n_I, n_J, n_R, r_I, r_J, c_I, c_J, c_R, i_J, i_R, j_I, j_R, y_in, y_isDay, x_within, x_isDay, x_isTown, q_10, q_01, eq_self, i_I, Nat.reduceEqDiff, Nat.add_left_cancel_iff, Nat.add_eq_left, Nat.left_eq_add, and_false, false_and, and_true, true_and, if_true, if_false, and_self, not_true, not_false_iff, reduceCtorEq, sb_yweigh S, ite_self], mW.rf, ⟨n, h1, h2, h3, h4⟩⟩
  by_cases c2 : 2 ≤ b ∧ b ≤ 100000
  case neg => exact ⟨-1, h, h, by simp only [c1, c2, x_isKind, q_rf, q_lt, q_cl, q_jn, q_b, q_b1, q_ck, kd_I, kd_J, kd_R, n_I, n_J, n_R, r_I, r_J, c_I, c_J, c_R, i_J, i_R, j_I, j_R, y_in, y_isDay, x_within, x_isDay, x_isTown, q_10, q_01, eq_self, i_I, Nat.reduceEqDiff, Nat.add_left_cancel_iff, Nat.add_eq_left, Nat.left_eq_add, and_false, false_and, and_true, true_and, if_true, if_false, and_self, not_true, not_false_iff, reduceCtorEq, sb_xmeas S], by simp only [c1, c2, h3, N1, q_rf, q_lt, q_cl, q_jn, q_b, q_b1, q_ck, kd_I, kd_J, kd_R, n_I, n_J, n_R, r_I, r_J, c_I, c_J, c_R, i_J, i_R, j_I, j_R, y_in, y_isDay, x_within, x_isDay, x_isTown, q_10, q_01, eq_self, i_I, Nat.reduceEqDiff, Nat.add_left_cancel_iff, Nat.add_eq_left, Nat.left_eq_add, and_false, false_and, and_true, true_and, if_true, if_false, and_self, not_true, not_false_iff, reduceCtorEq, sb_yweigh S, ite_self], mW.rf, ⟨n, h1, h2, h3, h4⟩⟩
  by_cases c3 : 1 ≤ c ∧ c ≤ 100000
  case neg => exact ⟨-1, h, h, by simp only [c1, c2, c3, x_isKind, q_rf, q_lt, q_cl, q_jn, q_b, q_b1, q_ck, kd_I, kd_J, kd_R, n_I, n_J, n_R, r_I, r_J, c_I, c_J, c_R, i_J, i_R, j_I, j_R, y_in, y_isDay, x_within, x_isDay, x_isTown, q_10, q_01, eq_self, i_I, Nat.reduceEqDiff, Nat.add_left_cancel_iff, Nat.add_eq_left, Nat.left_eq_add, and_false, false_and, and_true, true_and, if_true, if_false, and_self, not_true, not_false_iff, reduceCtorEq, sb_xmeas S], by simp only [c1, c2, c3, h3, N1, q_rf, q_lt, q_cl, q_jn, q_b, q_b1, q_ck, kd_I, kd_J, kd_R, n_I, n_J, n_R, r_I, r_J, c_I, c_J, c_R, i_J, i_R, j_I, j_R, y_in, y_isDay, x_within, x_isDay, x_isTown, q_10, q_01, eq_self, i_I, Nat.reduceEqDiff, Nat.add_left_cancel_iff, Nat.add_eq_left, Nat.left_eq_add, and_false, false_and, and_true, true_and, if_true, if_false, and_self, not_true, not_false_iff, reduceCtorEq, sb_yweigh S, ite_self], mW.rf, ⟨n, h1, h2, h3, h4⟩⟩
  by_cases c5 : n = 100
  case pos =>
    have c6 : ¬ nI n < 100 := by rw [e20]; omega
    have c7 : nI n = 100 := by rw [e20']; exact c5
    exact ⟨-1, h, h, by simp only [c1, c2, c3, c6, h2, x_isKind, q_rf, q_lt, q_cl, q_jn, q_b, q_b1, q_ck, kd_I, kd_J, kd_R, n_I, n_J, n_R, r_I, r_J, c_I, c_J, c_R, i_J, i_R, j_I, j_R, y_in, y_isDay, x_within, x_isDay, x_isTown, q_10, q_01, eq_self, i_I, Nat.reduceEqDiff, Nat.add_left_cancel_iff, Nat.add_eq_left, Nat.left_eq_add, and_false, false_and, and_true, true_and, if_true, if_false, and_self, not_true, not_false_iff, reduceCtorEq, sb_xmeas S], by simp only [q_rf, q_lt, q_cl, q_jn, q_b, q_b1, q_ck, kd_I, kd_J, kd_R, n_I, n_J, n_R, r_I, r_J, c_I, c_J, c_R, i_J, i_R, j_I, j_R, y_in, y_isDay, x_within, x_isDay, x_isTown, q_10, q_01, eq_self, i_I, Nat.reduceEqDiff, Nat.add_left_cancel_iff, Nat.add_eq_left, Nat.left_eq_add, and_false, false_and, and_true, true_and, if_true, if_false, and_self, not_true, not_false_iff, reduceCtorEq, sb_yweigh S, h3, c7], mW.rf, ⟨n, h1, h2, h3, h4⟩⟩
  have hn : n < 100 := by omega
  have hx := fun (β : Type) (k : Option β) => q_ckx hn (by decide) k
  have hc := nI_clamp (n := n) (by omega)
  have c6 : nI n < 100 := by rw [e20]; omega
  have c7 : ¬ nI n = 100 := by rw [e20']; exact c5
  refine ⟨nI n, _, _, by simp only [c1, c2, c3, c6, hx, hc, x_isKind, q_rf, q_lt, q_cl, q_jn, q_b, q_b1, q_ck, kd_I, kd_J, kd_R, n_I, n_J, n_R, r_I, r_J, c_I, c_J, c_R, i_J, i_R, j_I, j_R, y_in, y_isDay, x_within, x_isDay, x_isTown, q_10, q_01, eq_self, i_I, Nat.reduceEqDiff, Nat.add_left_cancel_iff, Nat.add_eq_left, Nat.left_eq_add, and_false, false_and, and_true, true_and, if_true, if_false, and_self, not_true, not_false_iff, reduceCtorEq, sb_xmeas S, h2, nI_1, nI_pred]; rfl, by simp only [c1, c2, c3, c7, hx, hc, N1, q_rf, q_lt, q_cl, q_jn, q_b, q_b1, q_ck, kd_I, kd_J, kd_R, n_I, n_J, n_R, r_I, r_J, c_I, c_J, c_R, i_J, i_R, j_I, j_R, y_in, y_isDay, x_within, x_isDay, x_isTown, q_10, q_01, eq_self, i_I, Nat.reduceEqDiff, Nat.add_left_cancel_iff, Nat.add_eq_left, Nat.left_eq_add, and_false, false_and, and_true, true_and, if_true, if_false, and_self, not_true, not_false_iff, reduceCtorEq, sb_yweigh S, h3, nI_1, nI_pred]; rfl, ?_, ?_⟩
  · (repeat refine mW.I ?_ (by simp [wWe])); exact mW.rf
  · refine ⟨n + 1, by omega, by simp [i_I, h2, nI_1], by simp [i_I, h3, nI_1], fun k hk => ?_⟩
    by_cases e : k = n
    · subst e
      simp only [q_10, q_01, eq_self, i_I, Nat.reduceEqDiff, Nat.add_left_cancel_iff, Nat.add_eq_left, Nat.left_eq_add, and_false, false_and, and_true, true_and, if_true, if_false, and_self, not_true, not_false_iff, reduceCtorEq]
      exact ⟨c2, c3, Or.inl trivial⟩
    · have := h4 k (by omega)
      simpa only [q_10, q_01, eq_self, i_I, Nat.reduceEqDiff, Nat.add_left_cancel_iff, Nat.add_eq_left, Nat.left_eq_add, and_false, false_and, and_true, true_and, if_true, if_false, and_self, not_true, not_false_iff, reduceCtorEq, e] using this
theorem T_takeBack (S : mS B h) (N : RNow B h) (R : RWe B h) (a : Int32) : ∃ r h1 h2, fX11_takeBack B a h = some (r, h1) ∧ fX12_takeBack (B + 66) a h1 = some (r, h2) ∧ mW (wWe B) h h2 ∧ RWe B h2 := by
  obtain ⟨n, h1, h2, h3, h4⟩ := R
  obtain ⟨N1, N2, N3⟩ := N
  unfold fX11_takeBack fX8_withdraw fX12_takeBack
  by_cases c0 : a < 0
  case pos =>
    have c1 : ¬ (0 ≤ a ∧ a ≤ mm_i h (B + 66) 61 - 1) := fun z => absurd z.1 (Int32.not_le.mpr c0)
    exact ⟨0, h, h, by simp only [c0, q_rf, q_lt, q_cl, q_jn, q_b, q_b1, q_ck, kd_I, kd_J, kd_R, n_I, n_J, n_R, r_I, r_J, c_I, c_J, c_R, i_J, i_R, j_I, j_R, y_in, y_isDay, x_within, x_isDay, x_isTown, q_10, q_01, eq_self, i_I, Nat.reduceEqDiff, Nat.add_left_cancel_iff, Nat.add_eq_left, Nat.left_eq_add, and_false, false_and, and_true, true_and, if_true, if_false, and_self, not_true, not_false_iff, reduceCtorEq, sb_xmeas S, true_or], by simp only [c1, q_rf, q_lt, q_cl, q_jn, q_b, q_b1, q_ck, kd_I, kd_J, kd_R, n_I, n_J, n_R, r_I, r_J, c_I, c_J, c_R, i_J, i_R, j_I, j_R, y_in, y_isDay, x_within, x_isDay, x_isTown, q_10, q_01, eq_self, i_I, Nat.reduceEqDiff, Nat.add_left_cancel_iff, Nat.add_eq_left, Nat.left_eq_add, and_false, false_and, and_true, true_and, if_true, if_false, and_self, not_true, not_false_iff, reduceCtorEq, sb_yweigh S], mW.rf, ⟨n, h1, h2, h3, h4⟩⟩
  by_cases c1 : nI n ≤ a
  case pos =>
    have c2 : ¬ (0 ≤ a ∧ a ≤ nI n - 1) := by
      rintro ⟨z1, z2⟩
      rcases Nat.eq_zero_or_pos n with e | e
      · subst e
        exact absurd (Int32.le_trans z1 z2) (by decide)
      · obtain ⟨m, rfl⟩ : ∃ m, n = m + 1 := ⟨n - 1, by omega⟩
        rw [nI_pred] at z2
        exact absurd (Int32.le_trans c1 z2) (nI_ge (by omega) (by omega))
    exact ⟨0, h, h, by simp only [c0, c1, h2, q_rf, q_lt, q_cl, q_jn, q_b, q_b1, q_ck, kd_I, kd_J, kd_R, n_I, n_J, n_R, r_I, r_J, c_I, c_J, c_R, i_J, i_R, j_I, j_R, y_in, y_isDay, x_within, x_isDay, x_isTown, q_10, q_01, eq_self, i_I, Nat.reduceEqDiff, Nat.add_left_cancel_iff, Nat.add_eq_left, Nat.left_eq_add, and_false, false_and, and_true, true_and, if_true, if_false, and_self, not_true, not_false_iff, reduceCtorEq, sb_xmeas S, true_or], by simp only [c2, h3, q_rf, q_lt, q_cl, q_jn, q_b, q_b1, q_ck, kd_I, kd_J, kd_R, n_I, n_J, n_R, r_I, r_J, c_I, c_J, c_R, i_J, i_R, j_I, j_R, y_in, y_isDay, x_within, x_isDay, x_isTown, q_10, q_01, eq_self, i_I, Nat.reduceEqDiff, Nat.add_left_cancel_iff, Nat.add_eq_left, Nat.left_eq_add, and_false, false_and, and_true, true_and, if_true, if_false, and_self, not_true, not_false_iff, reduceCtorEq, sb_yweigh S], mW.rf, ⟨n, h1, h2, h3, h4⟩⟩
  obtain ⟨j, hj, rfl⟩ := q_rng (by omega) c0 c1
  have c2 : 0 ≤ nI j ∧ nI j ≤ nI n - 1 := by
    obtain ⟨m, rfl⟩ : ∃ m, n = m + 1 := ⟨n - 1, by omega⟩
    rw [nI_pred]
    exact ⟨nI_pos' (by omega), nI_le (by omega) (by omega)⟩
  have hx := fun (β : Type) (k : Option β) => q_ckx (show j < 100 by omega) (by decide) k
  have hc := nI_clamp (n := j) (by omega)
  obtain ⟨-, -, -, a4⟩ := h4 j hj
  rcases a4 with ⟨a4, a5⟩ | ⟨a4, a5, a6⟩
  · refine ⟨1, mm_setI h (B + 22) j (mm_i h B 11), mm_setI (mm_setI h (B + 22) j (mm_i h B 11)) (B + 115) j (mm_i h B 11), by simp only [c0, c1, a4, h2, hx, hc, q_rf, q_lt, q_cl, q_jn, q_b, q_b1, q_ck, kd_I, kd_J, kd_R, n_I, n_J, n_R, r_I, r_J, c_I, c_J, c_R, i_J, i_R, j_I, j_R, y_in, y_isDay, x_within, x_isDay, x_isTown, q_10, q_01, eq_self, i_I, Nat.reduceEqDiff, Nat.add_left_cancel_iff, Nat.add_eq_left, Nat.left_eq_add, and_false, false_and, and_true, true_and, if_true, if_false, and_self, not_true, not_false_iff, reduceCtorEq, sb_xmeas S, or_true], by simp only [c2, h3, a5, hx, hc, N1, q_rf, q_lt, q_cl, q_jn, q_b, q_b1, q_ck, kd_I, kd_J, kd_R, n_I, n_J, n_R, r_I, r_J, c_I, c_J, c_R, i_J, i_R, j_I, j_R, y_in, y_isDay, x_within, x_isDay, x_isTown, q_10, q_01, eq_self, i_I, Nat.reduceEqDiff, Nat.add_left_cancel_iff, Nat.add_eq_left, Nat.left_eq_add, and_false, false_and, and_true, true_and, if_true, if_false, and_self, not_true, not_false_iff, reduceCtorEq, sb_yweigh S], (mW.rf.I (by simp [wWe])).I (by simp [wWe]), ⟨n, h1, by simp [i_I, h2], by simp [i_I, h3], fun k hk => ?_⟩⟩
    have := h4 k hk
    by_cases e : k = j
    · subst e
      refine ⟨by simpa only [q_10, q_01, eq_self, i_I, Nat.reduceEqDiff, Nat.add_left_cancel_iff, Nat.add_eq_left, Nat.left_eq_add, and_false, false_and, and_true, true_and, if_true, if_false, and_self, not_true, not_false_iff, reduceCtorEq] using this.1, by simpa only [q_10, q_01, eq_self, i_I, Nat.reduceEqDiff, Nat.add_left_cancel_iff, Nat.add_eq_left, Nat.left_eq_add, and_false, false_and, and_true, true_and, if_true, if_false, and_self, not_true, not_false_iff, reduceCtorEq] using this.2.1, by simpa only [q_10, q_01, eq_self, i_I, Nat.reduceEqDiff, Nat.add_left_cancel_iff, Nat.add_eq_left, Nat.left_eq_add, and_false, false_and, and_true, true_and, if_true, if_false, and_self, not_true, not_false_iff, reduceCtorEq] using this.2.2.1, Or.inr ?_⟩
      simp only [q_10, q_01, eq_self, i_I, Nat.reduceEqDiff, Nat.add_left_cancel_iff, Nat.add_eq_left, Nat.left_eq_add, and_false, false_and, and_true, true_and, if_true, if_false, and_self, not_true, not_false_iff, reduceCtorEq]
      exact ⟨N2, N3⟩
    · simpa only [q_10, q_01, eq_self, i_I, Nat.reduceEqDiff, Nat.add_left_cancel_iff, Nat.add_eq_left, Nat.left_eq_add, and_false, false_and, and_true, true_and, if_true, if_false, and_self, not_true, not_false_iff, reduceCtorEq, e] using this
  · have d1 : ¬ mm_i h (B + 22) j = -1 := fun z => absurd (z ▸ a4) (by decide)
    have d2 : ¬ mm_i h (B + 115) j = 100000 := fun z => absurd (z ▸ a6 ▸ a5) (by decide)
    exact ⟨0, h, h, by simp only [c0, c1, d1, h2, hx, hc, q_rf, q_lt, q_cl, q_jn, q_b, q_b1, q_ck, kd_I, kd_J, kd_R, n_I, n_J, n_R, r_I, r_J, c_I, c_J, c_R, i_J, i_R, j_I, j_R, y_in, y_isDay, x_within, x_isDay, x_isTown, q_10, q_01, eq_self, i_I, Nat.reduceEqDiff, Nat.add_left_cancel_iff, Nat.add_eq_left, Nat.left_eq_add, and_false, false_and, and_true, true_and, if_true, if_false, and_self, not_true, not_false_iff, reduceCtorEq, sb_xmeas S, true_or], by simp only [c2, h3, d2, hx, hc, N1, q_rf, q_lt, q_cl, q_jn, q_b, q_b1, q_ck, kd_I, kd_J, kd_R, n_I, n_J, n_R, r_I, r_J, c_I, c_J, c_R, i_J, i_R, j_I, j_R, y_in, y_isDay, x_within, x_isDay, x_isTown, q_10, q_01, eq_self, i_I, Nat.reduceEqDiff, Nat.add_left_cancel_iff, Nat.add_eq_left, Nat.left_eq_add, and_false, false_and, and_true, true_and, if_true, if_false, and_self, not_true, not_false_iff, reduceCtorEq, sb_yweigh S], mW.rf, ⟨n, h1, h2, h3, h4⟩⟩
end WE
