/-! reading of a closing; ships -/
def wRd (B : Nat) : Nat → Nat → Prop := fun a _ => a = B + 36 ∨ a = B + 95
def RRd (B : Nat) (h : mm_H) : Prop := ∀ k : Nat, k < 20 → mm_i h (B + 36) k ≤ mm_i h B 11
def RSh (B : Nat) (h : mm_H) : Prop := ∃ n : Nat, n ≤ 20 ∧ mm_i h (B + 23) 4 = nI n ∧ mm_i h (B + 66) 76 = nI n ∧ ∀ k, k < n → (mm_i h (B + 117) k = mm_i h (B + 24) k ∧ mm_i h (B + 118) k = mm_i h (B + 25) k ∧ mm_i h (B + 119) k = mm_i h (B + 26) k ∧ mm_i h (B + 120) k = mm_i h (B + 27) k) ∧ (0 ≤ mm_i h (B + 24) k ∧ mm_i h (B + 24) k ≤ 7) ∧ (0 ≤ mm_i h (B + 25) k ∧ mm_i h (B + 25) k ≤ 3999) ∧ (1 ≤ mm_i h (B + 26) k ∧ mm_i h (B + 26) k ≤ 99) ∧ (1 ≤ mm_i h (B + 27) k ∧ mm_i h (B + 27) k ≤ 1000000)
def wSh (B : Nat) : Nat → Nat → Prop := fun a k => (a = B + 23 ∧ k = 4) ∨ (a = B + 66 ∧ k = 76) ∨ a = B + 24 ∨ a = B + 25 ∨ a = B + 26 ∨ a = B + 27 ∨ a = B + 117 ∨ a = B + 118 ∨ a = B + 119 ∨ a = B + 120
section SH
variable {B : Nat} {h : mm_H}
theorem T_readShut (S : mS B h) (N : RNow B h) (R : RPo B h) (a : Int32) : ∃ r h1 h2, fX11_readShut B a h = some (r, h1) ∧ fX12_readShut (B + 66) a h1 = some (r, h2) ∧ mW (wRd B) h h2 ∧ RPo B h2 ∧ ∀ k, mm_i h2 (B + 36) k = mm_i h (B + 36) k ∨ mm_i h2 (B + 36) k = mm_i h B 11 := by
  obtain ⟨n, h1, h2, h3, h4⟩ := R
  obtain ⟨N1, N2, N3⟩ := N
  unfold fX11_readShut fX10_readClosing fX12_readShut
  have em : nI n - 1 = Int32.ofNat n - 1 := rfl
  by_cases c0 : a < 0
  case pos =>
    have c1 : ¬ (0 ≤ a ∧ a ≤ mm_i h (B + 66) 38 - 1) := fun z => absurd z.1 (Int32.not_le.mpr c0)
    exact ⟨0, h, h, by simp only [c0, q_rf, q_lt, q_cl, q_jn, q_b, q_b1, q_ck, kd_I, kd_J, kd_R, n_I, n_J, n_R, r_I, r_J, c_I, c_J, c_R, i_J, i_R, j_I, j_R, y_in, y_isDay, x_within, x_isDay, x_isTown, q_10, q_01, eq_self, i_I, Nat.reduceEqDiff, Nat.add_left_cancel_iff, Nat.add_eq_left, Nat.left_eq_add, and_false, false_and, and_true, true_and, if_true, if_false, and_self, not_true, not_false_iff, reduceCtorEq, sb_xsea S, true_or], by simp only [c1, q_rf, q_lt, q_cl, q_jn, q_b, q_b1, q_ck, kd_I, kd_J, kd_R, n_I, n_J, n_R, r_I, r_J, c_I, c_J, c_R, i_J, i_R, j_I, j_R, y_in, y_isDay, x_within, x_isDay, x_isTown, q_10, q_01, eq_self, i_I, Nat.reduceEqDiff, Nat.add_left_cancel_iff, Nat.add_eq_left, Nat.left_eq_add, and_false, false_and, and_true, true_and, if_true, if_false, and_self, not_true, not_false_iff, reduceCtorEq, sb_yports S], mW.rf, ⟨n, h1, h2, h3, h4⟩, fun k => Or.inl rfl⟩
  by_cases c1 : nI n ≤ a
  case pos =>
    have c2 : ¬ (0 ≤ a ∧ a ≤ nI n - 1) := by
      rintro ⟨z1, z2⟩
      rcases Nat.eq_zero_or_pos n with e | e
      · subst e
        exact absurd (Int32.le_trans z1 z2) (by decide)
      · obtain ⟨m, rfl⟩ : ∃ m, n = m + 1 := ⟨n - 1, by omega⟩
        rw [nI_pred] at z2
        exact absurd (Int32.le_trans c1 z2) (nI_ge (by omega) (by omega))
    exact ⟨0, h, h, by simp only [c0, c1, h2, q_rf, q_lt, q_cl, q_jn, q_b, q_b1, q_ck, kd_I, kd_J, kd_R, n_I, n_J, n_R, r_I, r_J, c_I, c_J, c_R, i_J, i_R, j_I, j_R, y_in, y_isDay, x_within, x_isDay, x_isTown, q_10, q_01, eq_self, i_I, Nat.reduceEqDiff, Nat.add_left_cancel_iff, Nat.add_eq_left, Nat.left_eq_add, and_false, false_and, and_true, true_and, if_true, if_false, and_self, not_true, not_false_iff, reduceCtorEq, sb_xsea S, true_or], by simp only [c2, h3, q_rf, q_lt, q_cl, q_jn, q_b, q_b1, q_ck, kd_I, kd_J, kd_R, n_I, n_J, n_R, r_I, r_J, c_I, c_J, c_R, i_J, i_R, j_I, j_R, y_in, y_isDay, x_within, x_isDay, x_isTown, q_10, q_01, eq_self, i_I, Nat.reduceEqDiff, Nat.add_left_cancel_iff, Nat.add_eq_left, Nat.left_eq_add, and_false, false_and, and_true, true_and, if_true, if_false, and_self, not_true, not_false_iff, reduceCtorEq, sb_yports S], mW.rf, ⟨n, h1, h2, h3, h4⟩, fun k => Or.inl rfl⟩
  obtain ⟨j, hj, rfl⟩ := q_rng (by omega) c0 c1
  have c2 : 0 ≤ nI j ∧ nI j ≤ nI n - 1 := by
    obtain ⟨m, rfl⟩ : ∃ m, n = m + 1 := ⟨n - 1, by omega⟩
    rw [nI_pred]
    exact ⟨nI_pos' (by omega), nI_le (by omega) (by omega)⟩
  have hx := fun (β : Type) (k : Option β) => q_ckx (show j < 20 by omega) (by decide) k
  have hc := nI_clamp (n := j) (by omega)
  obtain ⟨a1, a2, a3, a4⟩ := h4 j hj
  rcases a4 with ⟨a4, a5⟩ | ⟨a4, a5, a6⟩
  · refine ⟨1, mm_setI h (B + 36) j (mm_i h B 11), mm_setI (mm_setI h (B + 36) j (mm_i h B 11)) (B + 95) j (mm_i h B 11), by simp only [c0, c1, a4, h2, hx, hc, q_rf, q_lt, q_cl, q_jn, q_b, q_b1, q_ck, kd_I, kd_J, kd_R, n_I, n_J, n_R, r_I, r_J, c_I, c_J, c_R, i_J, i_R, j_I, j_R, y_in, y_isDay, x_within, x_isDay, x_isTown, q_10, q_01, eq_self, i_I, Nat.reduceEqDiff, Nat.add_left_cancel_iff, Nat.add_eq_left, Nat.left_eq_add, and_false, false_and, and_true, true_and, if_true, if_false, and_self, not_true, not_false_iff, reduceCtorEq, sb_xsea S, or_true], by simp only [c2, h3, a5, hx, hc, N1, q_rf, q_lt, q_cl, q_jn, q_b, q_b1, q_ck, kd_I, kd_J, kd_R, n_I, n_J, n_R, r_I, r_J, c_I, c_J, c_R, i_J, i_R, j_I, j_R, y_in, y_isDay, x_within, x_isDay, x_isTown, q_10, q_01, eq_self, i_I, Nat.reduceEqDiff, Nat.add_left_cancel_iff, Nat.add_eq_left, Nat.left_eq_add, and_false, false_and, and_true, true_and, if_true, if_false, and_self, not_true, not_false_iff, reduceCtorEq, sb_yports S], (mW.rf.I (by simp [wRd])).I (by simp [wRd]), ⟨n, h1, by simp [i_I, h2], by simp [i_I, h3], fun k hk => ?_⟩, fun k => ?_⟩
    · have := h4 k hk
      by_cases e : k = j
      · subst e
        refine ⟨by simpa only [q_10, q_01, eq_self, i_I, Nat.reduceEqDiff, Nat.add_left_cancel_iff, Nat.add_eq_left, Nat.left_eq_add, and_false, false_and, and_true, true_and, if_true, if_false, and_self, not_true, not_false_iff, reduceCtorEq] using this.1, by simpa only [q_10, q_01, eq_self, i_I, Nat.reduceEqDiff, Nat.add_left_cancel_iff, Nat.add_eq_left, Nat.left_eq_add, and_false, false_and, and_true, true_and, if_true, if_false, and_self, not_true, not_false_iff, reduceCtorEq] using this.2.1, by simpa only [q_10, q_01, eq_self, i_I, Nat.reduceEqDiff, Nat.add_left_cancel_iff, Nat.add_eq_left, Nat.left_eq_add, and_false, false_and, and_true, true_and, if_true, if_false, and_self, not_true, not_false_iff, reduceCtorEq] using this.2.2.1, Or.inr ?_⟩
        simp only [q_10, q_01, eq_self, i_I, Nat.reduceEqDiff, Nat.add_left_cancel_iff, Nat.add_eq_left, Nat.left_eq_add, and_false, false_and, and_true, true_and, if_true, if_false, and_self, not_true, not_false_iff, reduceCtorEq]
        exact ⟨N2, N3⟩
      · simpa only [q_10, q_01, eq_self, i_I, Nat.reduceEqDiff, Nat.add_left_cancel_iff, Nat.add_eq_left, Nat.left_eq_add, and_false, false_and, and_true, true_and, if_true, if_false, and_self, not_true, not_false_iff, reduceCtorEq, e] using this
    · by_cases e : k = j
      · subst e
        exact Or.inr (by simp only [q_10, q_01, eq_self, i_I, Nat.reduceEqDiff, Nat.add_left_cancel_iff, Nat.add_eq_left, Nat.left_eq_add, and_false, false_and, and_true, true_and, if_true, if_false, and_self, not_true, not_false_iff, reduceCtorEq])
      · exact Or.inl (by simp only [q_10, q_01, eq_self, i_I, Nat.reduceEqDiff, Nat.add_left_cancel_iff, Nat.add_eq_left, Nat.left_eq_add, and_false, false_and, and_true, true_and, if_true, if_false, and_self, not_true, not_false_iff, reduceCtorEq, e])
  · have d1 : ¬ mm_i h (B + 36) j = -1 := fun z => absurd (z ▸ a4) (by decide)
    have d2 : ¬ mm_i h (B + 95) j = 100000 := fun z => absurd (z ▸ a6 ▸ a5) (by decide)
    exact ⟨0, h, h, by simp only [c0, c1, d1, h2, hx, hc, q_rf, q_lt, q_cl, q_jn, q_b, q_b1, q_ck, kd_I, kd_J, kd_R, n_I, n_J, n_R, r_I, r_J, c_I, c_J, c_R, i_J, i_R, j_I, j_R, y_in, y_isDay, x_within, x_isDay, x_isTown, q_10, q_01, eq_self, i_I, Nat.reduceEqDiff, Nat.add_left_cancel_iff, Nat.add_eq_left, Nat.left_eq_add, and_false, false_and, and_true, true_and, if_true, if_false, and_self, not_true, not_false_iff, reduceCtorEq, sb_xsea S, true_or], by simp only [c2, h3, d2, hx, hc, N1, q_rf, q_lt, q_cl, q_jn, q_b, q_b1, q_ck, kd_I, kd_J, kd_R, n_I, n_J, n_R, r_I, r_J, c_I, c_J, c_R, i_J, i_R, j_I, j_R, y_in, y_isDay, x_within, x_isDay, x_isTown, q_10, q_01, eq_self, i_I, Nat.reduceEqDiff, Nat.add_left_cancel_iff, Nat.add_eq_left, Nat.left_eq_add, and_false, false_and, and_true, true_and, if_true, if_false, and_self, not_true, not_false_iff, reduceCtorEq, sb_yports S], mW.rf, ⟨n, h1, h2, h3, h4⟩, fun k => Or.inl rfl⟩
theorem T_ship (S : mS B h) (N : RNow B h) (R : RSh B h) (a b c d : Int32) : ∃ r h1 h2, fX11_ship B a b c d h = some (r, h1) ∧ fX12_ship (B + 66) a b c d h1 = some (r, h2) ∧ mW (wSh B) h h2 ∧ RSh B h2 := by
  obtain ⟨n, h1, h2, h3, h4⟩ := R
  obtain ⟨N1, N2, N3⟩ := N
  unfold fX11_ship fX10_addShip fX12_ship
  have e20 : (nI n < 20) = (n < 20) := propext (nI_ltI (b := 20) (by omega) (by omega))
  have e20' : (nI n = 20) = (n = 20) := propext (nI_eq (b := 20) (by omega) (by omega))
  by_cases c1 : 0 ≤ a ∧ a ≤ 7
  case neg => exact ⟨-1, h, h, by simp only [c1, q_rf, q_lt, q_cl, q_jn, q_b, q_b1, q_ck, kd_I, kd_J, kd_R, n_I, n_J, n_R, r_I, r_J, c_I, c_J, c_R, i_J, i_R, j_I, j_R, y_in, y_isDay, x_within, x_isDay, x_isTown, q_10, q_01, eq_self, i_I, Nat.reduceEqDiff, Nat.add_left_cancel_iff, Nat.add_eq_left, Nat.left_eq_add, and_false, false_and, and_true, true_and, if_true, if_false, and_self, not_true, not_false_iff, reduceCtorEq, sb_xsea S], by simp only [c1, h3, N1, q_rf, q_lt, q_cl, q_jn, q_b, q_b1, q_ck, kd_I, kd_J, kd_R, n_I, n_J, n_R, r_I, r_J, c_I, c_J, c_R, i_J, i_R, j_I, j_R, y_in, y_isDay, x_within, x_isDay, x_isTown, q_10, q_01, eq_self, i_I, Nat.reduceEqDiff, Nat.add_left_cancel_iff, Nat.add_eq_left, Nat.left_eq_add, and_false, false_and, and_true, true_and, if_true, if_false, and_self, not_true, not_false_iff, reduceCtorEq, sb_yships S, ite_self], mW.rf, ⟨n, h1, h2, h3, h4⟩⟩
  by_cases c2 : mm_i h B 11 ≤ b ∧ b ≤ 3999
  case neg => exact ⟨-1, h, h, by simp only [c1, c2, q_rf, q_lt, q_cl, q_jn, q_b, q_b1, q_ck, kd_I, kd_J, kd_R, n_I, n_J, n_R, r_I, r_J, c_I, c_J, c_R, i_J, i_R, j_I, j_R, y_in, y_isDay, x_within, x_isDay, x_isTown, q_10, q_01, eq_self, i_I, Nat.reduceEqDiff, Nat.add_left_cancel_iff, Nat.add_eq_left, Nat.left_eq_add, and_false, false_and, and_true, true_and, if_true, if_false, and_self, not_true, not_false_iff, reduceCtorEq, sb_xsea S], by simp only [c1, c2, h3, N1, q_rf, q_lt, q_cl, q_jn, q_b, q_b1, q_ck, kd_I, kd_J, kd_R, n_I, n_J, n_R, r_I, r_J, c_I, c_J, c_R, i_J, i_R, j_I, j_R, y_in, y_isDay, x_within, x_isDay, x_isTown, q_10, q_01, eq_self, i_I, Nat.reduceEqDiff, Nat.add_left_cancel_iff, Nat.add_eq_left, Nat.left_eq_add, and_false, false_and, and_true, true_and, if_true, if_false, and_self, not_true, not_false_iff, reduceCtorEq, sb_yships S, ite_self], mW.rf, ⟨n, h1, h2, h3, h4⟩⟩
  by_cases c3 : 1 ≤ c ∧ c ≤ 99
  case neg => exact ⟨-1, h, h, by simp only [c1, c2, c3, q_rf, q_lt, q_cl, q_jn, q_b, q_b1, q_ck, kd_I, kd_J, kd_R, n_I, n_J, n_R, r_I, r_J, c_I, c_J, c_R, i_J, i_R, j_I, j_R, y_in, y_isDay, x_within, x_isDay, x_isTown, q_10, q_01, eq_self, i_I, Nat.reduceEqDiff, Nat.add_left_cancel_iff, Nat.add_eq_left, Nat.left_eq_add, and_false, false_and, and_true, true_and, if_true, if_false, and_self, not_true, not_false_iff, reduceCtorEq, sb_xsea S], by simp only [c1, c2, c3, h3, N1, q_rf, q_lt, q_cl, q_jn, q_b, q_b1, q_ck, kd_I, kd_J, kd_R, n_I, n_J, n_R, r_I, r_J, c_I, c_J, c_R, i_J, i_R, j_I, j_R, y_in, y_isDay, x_within, x_isDay, x_isTown, q_10, q_01, eq_self, i_I, Nat.reduceEqDiff, Nat.add_left_cancel_iff, Nat.add_eq_left, Nat.left_eq_add, and_false, false_and, and_true, true_and, if_true, if_false, and_self, not_true, not_false_iff, reduceCtorEq, sb_yships S, ite_self], mW.rf, ⟨n, h1, h2, h3, h4⟩⟩
  by_cases c4 : 1 ≤ d ∧ d ≤ 1000000
  case neg => exact ⟨-1, h, h, by simp only [c1, c2, c3, c4, q_rf, q_lt, q_cl, q_jn, q_b, q_b1, q_ck, kd_I, kd_J, kd_R, n_I, n_J, n_R, r_I, r_J, c_I, c_J, c_R, i_J, i_R, j_I, j_R, y_in, y_isDay, x_within, x_isDay, x_isTown, q_10, q_01, eq_self, i_I, Nat.reduceEqDiff, Nat.add_left_cancel_iff, Nat.add_eq_left, Nat.left_eq_add, and_false, false_and, and_true, true_and, if_true, if_false, and_self, not_true, not_false_iff, reduceCtorEq, sb_xsea S], by simp only [c1, c2, c3, c4, h3, N1, q_rf, q_lt, q_cl, q_jn, q_b, q_b1, q_ck, kd_I, kd_J, kd_R, n_I, n_J, n_R, r_I, r_J, c_I, c_J, c_R, i_J, i_R, j_I, j_R, y_in, y_isDay, x_within, x_isDay, x_isTown, q_10, q_01, eq_self, i_I, Nat.reduceEqDiff, Nat.add_left_cancel_iff, Nat.add_eq_left, Nat.left_eq_add, and_false, false_and, and_true, true_and, if_true, if_false, and_self, not_true, not_false_iff, reduceCtorEq, sb_yships S, ite_self], mW.rf, ⟨n, h1, h2, h3, h4⟩⟩
  by_cases c5 : n = 20
  case pos =>
    have c6 : ¬ nI n < 20 := by rw [e20]; omega
    have c7 : nI n = 20 := by rw [e20']; exact c5
    exact ⟨-1, h, h, by simp only [c1, c2, c3, c4, c6, h2, q_rf, q_lt, q_cl, q_jn, q_b, q_b1, q_ck, kd_I, kd_J, kd_R, n_I, n_J, n_R, r_I, r_J, c_I, c_J, c_R, i_J, i_R, j_I, j_R, y_in, y_isDay, x_within, x_isDay, x_isTown, q_10, q_01, eq_self, i_I, Nat.reduceEqDiff, Nat.add_left_cancel_iff, Nat.add_eq_left, Nat.left_eq_add, and_false, false_and, and_true, true_and, if_true, if_false, and_self, not_true, not_false_iff, reduceCtorEq, sb_xsea S], by simp only [q_rf, q_lt, q_cl, q_jn, q_b, q_b1, q_ck, kd_I, kd_J, kd_R, n_I, n_J, n_R, r_I, r_J, c_I, c_J, c_R, i_J, i_R, j_I, j_R, y_in, y_isDay, x_within, x_isDay, x_isTown, q_10, q_01, eq_self, i_I, Nat.reduceEqDiff, Nat.add_left_cancel_iff, Nat.add_eq_left, Nat.left_eq_add, and_false, false_and, and_true, true_and, if_true, if_false, and_self, not_true, not_false_iff, reduceCtorEq, sb_yships S, h3, c7], mW.rf, ⟨n, h1, h2, h3, h4⟩⟩
  have hn : n < 20 := by omega
  have hx := fun (β : Type) (k : Option β) => q_ckx hn (by decide) k
  have hc := nI_clamp (n := n) (by omega)
  have c6 : nI n < 20 := by rw [e20]; omega
  have c7 : ¬ nI n = 20 := by rw [e20']; exact c5
  refine ⟨nI n, _, _, by simp only [c1, c2, c3, c4, c6, hx, hc, q_rf, q_lt, q_cl, q_jn, q_b, q_b1, q_ck, kd_I, kd_J, kd_R, n_I, n_J, n_R, r_I, r_J, c_I, c_J, c_R, i_J, i_R, j_I, j_R, y_in, y_isDay, x_within, x_isDay, x_isTown, q_10, q_01, eq_self, i_I, Nat.reduceEqDiff, Nat.add_left_cancel_iff, Nat.add_eq_left, Nat.left_eq_add, and_false, false_and, and_true, true_and, if_true, if_false, and_self, not_true, not_false_iff, reduceCtorEq, sb_xsea S, h2, nI_1, nI_pred]; rfl, by simp only [c1, c2, c3, c4, c7, hx, hc, N1, q_rf, q_lt, q_cl, q_jn, q_b, q_b1, q_ck, kd_I, kd_J, kd_R, n_I, n_J, n_R, r_I, r_J, c_I, c_J, c_R, i_J, i_R, j_I, j_R, y_in, y_isDay, x_within, x_isDay, x_isTown, q_10, q_01, eq_self, i_I, Nat.reduceEqDiff, Nat.add_left_cancel_iff, Nat.add_eq_left, Nat.left_eq_add, and_false, false_and, and_true, true_and, if_true, if_false, and_self, not_true, not_false_iff, reduceCtorEq, sb_yships S, h3, nI_1, nI_pred]; rfl, ?_, ?_⟩
  · repeat' (first | exact mW.rf | refine mW.I ?_ (by simp [wSh]))
  · refine ⟨n + 1, by omega, by simp [i_I, h2, nI_1], by simp [i_I, h3, nI_1], fun k hk => ?_⟩
    by_cases e : k = n
    · subst e
      simp only [q_10, q_01, eq_self, i_I, Nat.reduceEqDiff, Nat.add_left_cancel_iff, Nat.add_eq_left, Nat.left_eq_add, and_false, false_and, and_true, true_and, if_true, if_false, and_self, not_true, not_false_iff, reduceCtorEq]
      exact ⟨c1, ⟨Int32.le_trans N2 c2.1, c2.2⟩, c3, c4⟩
    · have := h4 k (by omega)
      simpa only [q_10, q_01, eq_self, i_I, Nat.reduceEqDiff, Nat.add_left_cancel_iff, Nat.add_eq_left, Nat.left_eq_add, and_false, false_and, and_true, true_and, if_true, if_false, and_self, not_true, not_false_iff, reduceCtorEq, e] using this
end SH
