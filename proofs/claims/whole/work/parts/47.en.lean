/-! the books, on: entry -/
def RMc (B : Nat) (h : mm_H) : Prop := ∃ n : Nat, n < 2 ^ 30 ∧ mm_i h (B + 1) 2 = nI n ∧ mm_i h (B + 66) 2 = nI n
def wEn (B : Nat) : Nat → Nat → Prop := fun a k => (a = B + 53 ∧ (k = 0 ∨ k = 1)) ∨ (a = B + 141 ∧ (k = 0 ∨ k = 1)) ∨ (a = B + 52 ∧ k = 7) ∨ (a = B + 66 ∧ k = 108) ∨ a = B + 55 ∨ a = B + 56 ∨ a = B + 58 ∨ a = B + 59 ∨ a = B + 61 ∨ a = B + 62 ∨ a = B + 142 ∨ a = B + 143 ∨ a = B + 144
theorem q_pre {a : Int32} {n : Nat} (hn : n < 2 ^ 31) : (0 ≤ a ∧ a ≤ nI n - 1) = (¬ a < 0 ∧ ¬ nI n ≤ a) := by
  by_cases c0 : a < 0
  · exact propext ⟨fun z => absurd z.1 (Int32.not_le.mpr c0), fun z => absurd c0 z.1⟩
  obtain ⟨j, hj, rfl⟩ := nI_of c0
  refine propext ⟨fun z => ⟨c0, fun z2 => ?_⟩, fun z => ⟨nI_pos' hj, ?_⟩⟩
  · rcases Nat.eq_zero_or_pos n with e | e
    · subst e
      exact absurd (Int32.le_trans (nI_pos' hj) z.2) (by decide)
    · obtain ⟨q, rfl⟩ : ∃ q, n = q + 1 := ⟨n - 1, by omega⟩
      have := z.2
      rw [nI_pred] at this
      have k1 := (nI_leI hj (by omega)).mp this
      have k2 := (nI_leI hn hj).mp z2
      omega
  · have k : j < n := Nat.not_le.mp fun q => z.2 (nI_le q hj)
    obtain ⟨q, rfl⟩ : ∃ q, n = q + 1 := ⟨n - 1, by omega⟩
    rw [nI_pred]
    exact nI_le (by omega) (by omega)
section EN
variable {B : Nat} {h : mm_H}
theorem y_isMan (S : mS B h) {n : Nat} (hn : n < 2 ^ 30) (h2 : mm_i h (B + 66) 2 = nI n) (a : Int32) : fX12_isMan (B + 66) a h = some (if ¬ a < 0 ∧ ¬ nI n ≤ a then 1 else 0, h) := by
  unfold fX12_isMan
  simp only [h2, sk66 S, q_rf, q_lt, q_cl, q_jn, q_b, q_b1, q_ck, kd_I, kd_J, kd_R, n_I, n_J, n_R, r_I, r_J, c_I, c_J, c_R, i_J, i_R, j_I, j_R, y_in, y_isDay, x_within, x_isDay, x_isTown, q_pre (show n < 2 ^ 31 by omega)]
  refine q_ck ?_
  by_cases c : ¬ a < 0 ∧ ¬ nI n ≤ a
  · exact Or.inr (if_pos c)
  · exact Or.inl c
theorem T_entry0 (S : mS B h) (R : RBk B h) (M : RMc B h) (b c d : Int32) : ∃ r h1 h2, fX11_entry B 0 b c d h = some (r, h1) ∧ fX12_entry (B + 66) 0 b c d h1 = some (r, h2) ∧ mW (wEn B) h h2 ∧ RBk B h2 := by
  obtain ⟨n0, n1, ⟨⟨a1, a2, a3, a4⟩, b1, b2, b3, b4⟩, R2⟩ := id R
  obtain ⟨m, hm, m1, m2⟩ := M
  have z1 : (0 : Int32) ≤ 0 ∧ (0 : Int32) ≤ 1 := by decide
  have z2 : ¬ (0 : Int32) < 0 := by decide
  have z3 : ¬ (1 : Int32) < 0 := by decide
  have e10 : (nI n0 < 10) = (n0 < 10) := propext (nI_ltI (b := 10) (by omega) (by decide))
  have e10' : (nI n0 = 10) = (n0 = 10) := propext (nI_eq (b := 10) (by omega) (by decide))
  have hM := y_isMan S hm m2 c
  unfold fX11_entry fX1_add fJx4a65c_size_8abf5 fX12_entry
  by_cases c5 : n0 = 10
  case pos =>
    have k1 : ¬ nI n0 < 10 := by rw [e10]; omega
    have k2 : nI n0 = 10 := by rw [e10']; exact c5
    refine ⟨-1, h, h, ?_, by simp only [z1, a3, k2, q_ix0, q_c0, q_rf, q_lt, q_cl, q_jn, q_b, q_b1, q_ck, kd_I, kd_J, kd_R, n_I, n_J, n_R, r_I, r_J, c_I, c_J, c_R, i_J, i_R, j_I, j_R, y_in, y_isDay, x_within, x_isDay, x_isTown, q_10, q_01, eq_self, i_I, Nat.reduceEqDiff, Nat.add_left_cancel_iff, Nat.add_eq_left, Nat.left_eq_add, and_false, false_and, and_true, true_and, if_true, if_false, and_self, not_true, not_false_iff, reduceCtorEq, sb_ybooks S], mW.rf, R⟩
    simp only [z1, z2, z3, m1, a2, k1, q_ix0, q_c0, q_rf, q_lt, q_cl, q_jn, q_b, q_b1, q_ck, kd_I, kd_J, kd_R, n_I, n_J, n_R, r_I, r_J, c_I, c_J, c_R, i_J, i_R, j_I, j_R, y_in, y_isDay, x_within, x_isDay, x_isTown, q_10, q_01, eq_self, i_I, Nat.reduceEqDiff, Nat.add_left_cancel_iff, Nat.add_eq_left, Nat.left_eq_add, and_false, false_and, and_true, true_and, if_true, if_false, and_self, not_true, not_false_iff, reduceCtorEq, sb_xbooks S, sk1 S, sr0_0 S, ite_self]
  by_cases c1 : 0 ≤ b ∧ b ≤ 3999
  case neg => exact ⟨-1, h, h, by simp only [z1, c1, q_rf, q_lt, q_cl, q_jn, q_b, q_b1, q_ck, kd_I, kd_J, kd_R, n_I, n_J, n_R, r_I, r_J, c_I, c_J, c_R, i_J, i_R, j_I, j_R, y_in, y_isDay, x_within, x_isDay, x_isTown, q_10, q_01, eq_self, i_I, Nat.reduceEqDiff, Nat.add_left_cancel_iff, Nat.add_eq_left, Nat.left_eq_add, and_false, false_and, and_true, true_and, if_true, if_false, and_self, not_true, not_false_iff, reduceCtorEq, sb_xbooks S], by simp only [z1, c1, a3, e10', c5, q_ix0, q_c0, q_rf, q_lt, q_cl, q_jn, q_b, q_b1, q_ck, kd_I, kd_J, kd_R, n_I, n_J, n_R, r_I, r_J, c_I, c_J, c_R, i_J, i_R, j_I, j_R, y_in, y_isDay, x_within, x_isDay, x_isTown, q_10, q_01, eq_self, i_I, Nat.reduceEqDiff, Nat.add_left_cancel_iff, Nat.add_eq_left, Nat.left_eq_add, and_false, false_and, and_true, true_and, if_true, if_false, and_self, not_true, not_false_iff, reduceCtorEq, sb_ybooks S], mW.rf, R⟩
  by_cases c2 : c < 0
  case pos => exact ⟨-1, h, h, by simp only [z1, c1, c2, q_rf, q_lt, q_cl, q_jn, q_b, q_b1, q_ck, kd_I, kd_J, kd_R, n_I, n_J, n_R, r_I, r_J, c_I, c_J, c_R, i_J, i_R, j_I, j_R, y_in, y_isDay, x_within, x_isDay, x_isTown, q_10, q_01, eq_self, i_I, Nat.reduceEqDiff, Nat.add_left_cancel_iff, Nat.add_eq_left, Nat.left_eq_add, and_false, false_and, and_true, true_and, if_true, if_false, and_self, not_true, not_false_iff, reduceCtorEq, sb_xbooks S], by simp only [z1, c1, c2, hM, a3, e10', c5, q_ix0, q_c0, q_rf, q_lt, q_cl, q_jn, q_b, q_b1, q_ck, kd_I, kd_J, kd_R, n_I, n_J, n_R, r_I, r_J, c_I, c_J, c_R, i_J, i_R, j_I, j_R, y_in, y_isDay, x_within, x_isDay, x_isTown, q_10, q_01, eq_self, i_I, Nat.reduceEqDiff, Nat.add_left_cancel_iff, Nat.add_eq_left, Nat.left_eq_add, and_false, false_and, and_true, true_and, if_true, if_false, and_self, not_true, not_false_iff, reduceCtorEq, sb_ybooks S], mW.rf, R⟩
  by_cases c3 : nI m ≤ c
  case pos => exact ⟨-1, h, h, by simp only [z1, c1, c2, c3, m1, q_rf, q_lt, q_cl, q_jn, q_b, q_b1, q_ck, kd_I, kd_J, kd_R, n_I, n_J, n_R, r_I, r_J, c_I, c_J, c_R, i_J, i_R, j_I, j_R, y_in, y_isDay, x_within, x_isDay, x_isTown, q_10, q_01, eq_self, i_I, Nat.reduceEqDiff, Nat.add_left_cancel_iff, Nat.add_eq_left, Nat.left_eq_add, and_false, false_and, and_true, true_and, if_true, if_false, and_self, not_true, not_false_iff, reduceCtorEq, sb_xbooks S, sk1 S, sr0_0 S], by simp only [z1, c1, c2, c3, hM, a3, e10', c5, q_ix0, q_c0, q_rf, q_lt, q_cl, q_jn, q_b, q_b1, q_ck, kd_I, kd_J, kd_R, n_I, n_J, n_R, r_I, r_J, c_I, c_J, c_R, i_J, i_R, j_I, j_R, y_in, y_isDay, x_within, x_isDay, x_isTown, q_10, q_01, eq_self, i_I, Nat.reduceEqDiff, Nat.add_left_cancel_iff, Nat.add_eq_left, Nat.left_eq_add, and_false, false_and, and_true, true_and, if_true, if_false, and_self, not_true, not_false_iff, reduceCtorEq, sb_ybooks S], mW.rf, R⟩
  by_cases c4 : 0 ≤ d ∧ d ≤ 1000000
  case neg => exact ⟨-1, h, h, by simp only [z1, c1, c2, c3, c4, m1, q_rf, q_lt, q_cl, q_jn, q_b, q_b1, q_ck, kd_I, kd_J, kd_R, n_I, n_J, n_R, r_I, r_J, c_I, c_J, c_R, i_J, i_R, j_I, j_R, y_in, y_isDay, x_within, x_isDay, x_isTown, q_10, q_01, eq_self, i_I, Nat.reduceEqDiff, Nat.add_left_cancel_iff, Nat.add_eq_left, Nat.left_eq_add, and_false, false_and, and_true, true_and, if_true, if_false, and_self, not_true, not_false_iff, reduceCtorEq, sb_xbooks S, sk1 S, sr0_0 S], by simp only [z1, c1, c2, c3, c4, hM, a3, e10', c5, q_ix0, q_c0, q_rf, q_lt, q_cl, q_jn, q_b, q_b1, q_ck, kd_I, kd_J, kd_R, n_I, n_J, n_R, r_I, r_J, c_I, c_J, c_R, i_J, i_R, j_I, j_R, y_in, y_isDay, x_within, x_isDay, x_isTown, q_10, q_01, eq_self, i_I, Nat.reduceEqDiff, Nat.add_left_cancel_iff, Nat.add_eq_left, Nat.left_eq_add, and_false, false_and, and_true, true_and, if_true, if_false, and_self, not_true, not_false_iff, reduceCtorEq, sb_ybooks S], mW.rf, R⟩
  have k1 : n0 < 10 := by omega
  have hx := fun (β : Type) (k : Option β) => q_ckx k1 (by decide) k
  have hc := nI_clamp (n := n0) (by omega)
  have hx2 := fun (β : Type) (k : Option β) => q_ckx (show n0 < 20 by omega) (by decide) k
  have hc2 := nI_clamp (n := n0) (by omega)
  have ml : (10 : Int32) * 0 + nI n0 = nI n0 := by
    rw [show (10 : Int32) * 0 = nI 0 by decide, nI_add]; first | rfl | (congr 1; omega)
  have k2 : nI n0 < 10 := by rw [e10]; exact k1
  have k3 : ¬ nI n0 = 10 := by rw [e10']; omega
  have hM2 := y_isMan (B := B) (h := (mm_setI (mm_setI (mm_setI (mm_setI (mm_setI h (B + 55) n0 b) (B + 58) n0 c) (B + 61) n0 d) (B + 53) 0 (nI (n0 + 1))) (B + 52) 7 0)) S hm (by simp [i_I, m2]) c
  refine ⟨nI n0, _, _, by simp only [z1, z2, z3, c1, c2, c3, c4, m1, a2, k2, hx, hc, nI_1, q_ix0, q_c0, q_rf, q_lt, q_cl, q_jn, q_b, q_b1, q_ck, kd_I, kd_J, kd_R, n_I, n_J, n_R, r_I, r_J, c_I, c_J, c_R, i_J, i_R, j_I, j_R, y_in, y_isDay, x_within, x_isDay, x_isTown, q_10, q_01, eq_self, i_I, Nat.reduceEqDiff, Nat.add_left_cancel_iff, Nat.add_eq_left, Nat.left_eq_add, and_false, false_and, and_true, true_and, if_true, if_false, and_self, not_true, not_false_iff, reduceCtorEq, sb_xbooks S, sk1 S, sr0_0 S]; rfl, by simp only [z1, c1, c2, c3, c4, hM2, a3, k3, ml, hx2, hc2, nI_1, nI_pred, q_ix0, q_c0, q_rf, q_lt, q_cl, q_jn, q_b, q_b1, q_ck, kd_I, kd_J, kd_R, n_I, n_J, n_R, r_I, r_J, c_I, c_J, c_R, i_J, i_R, j_I, j_R, y_in, y_isDay, x_within, x_isDay, x_isTown, q_10, q_01, eq_self, i_I, Nat.reduceEqDiff, Nat.add_left_cancel_iff, Nat.add_eq_left, Nat.left_eq_add, and_false, false_and, and_true, true_and, if_true, if_false, and_self, not_true, not_false_iff, reduceCtorEq, sb_ybooks S]; rfl, ?_, ?_⟩
  · (repeat refine mW.I ?_ (by simp [wEn])); exact mW.rf
  · refine ⟨n0 + 1, n1, ⟨⟨by omega, by simp [i_I, a2, nI_1], by simp [i_I, a3, nI_1], fun k hk => ?_⟩, b1, by simp [i_I, b2], by simp [i_I, b3], fun k hk => ?_⟩, Or.inl ⟨by simp [i_I], by simp [i_I]⟩⟩
    · by_cases e : k = n0
      · subst e
        simp only [q_10, q_01, eq_self, i_I, Nat.reduceEqDiff, Nat.add_left_cancel_iff, Nat.add_eq_left, Nat.left_eq_add, and_false, false_and, and_true, true_and, if_true, if_false, and_self, not_true, not_false_iff, reduceCtorEq]
        exact ⟨c1, c4⟩
      · simpa only [q_10, q_01, eq_self, i_I, Nat.reduceEqDiff, Nat.add_left_cancel_iff, Nat.add_eq_left, Nat.left_eq_add, and_false, false_and, and_true, true_and, if_true, if_false, and_self, not_true, not_false_iff, reduceCtorEq, e] using a4 k (by omega)
    · have e : ¬ 10 + k = n0 := by omega
      simpa only [q_10, q_01, eq_self, i_I, Nat.reduceEqDiff, Nat.add_left_cancel_iff, Nat.add_eq_left, Nat.left_eq_add, and_false, false_and, and_true, true_and, if_true, if_false, and_self, not_true, not_false_iff, reduceCtorEq, e] using b4 k hk
theorem T_entry1 (S : mS B h) (R : RBk B h) (M : RMc B h) (b c d : Int32) : ∃ r h1 h2, fX11_entry B 1 b c d h = some (r, h1) ∧ fX12_entry (B + 66) 1 b c d h1 = some (r, h2) ∧ mW (wEn B) h h2 ∧ RBk B h2 := by
  obtain ⟨n0, n1, ⟨⟨a1, a2, a3, a4⟩, b1, b2, b3, b4⟩, R2⟩ := id R
  obtain ⟨m, hm, m1, m2⟩ := M
  have z1 : (0 : Int32) ≤ 1 ∧ (1 : Int32) ≤ 1 := by decide
  have z2 : ¬ (1 : Int32) < 0 := by decide
  have z3 : ¬ (1 : Int32) < 1 := by decide
  have e10 : (nI n1 < 10) = (n1 < 10) := propext (nI_ltI (b := 10) (by omega) (by decide))
  have e10' : (nI n1 = 10) = (n1 = 10) := propext (nI_eq (b := 10) (by omega) (by decide))
  have hM := y_isMan S hm m2 c
  unfold fX11_entry fX1_add fJx4a65c_size_8abf5 fX12_entry
  by_cases c5 : n1 = 10
  case pos =>
    have k1 : ¬ nI n1 < 10 := by rw [e10]; omega
    have k2 : nI n1 = 10 := by rw [e10']; exact c5
    refine ⟨-1, h, h, ?_, by simp only [z1, b3, k2, q_ix1, q_c1, q_rf, q_lt, q_cl, q_jn, q_b, q_b1, q_ck, kd_I, kd_J, kd_R, n_I, n_J, n_R, r_I, r_J, c_I, c_J, c_R, i_J, i_R, j_I, j_R, y_in, y_isDay, x_within, x_isDay, x_isTown, q_10, q_01, eq_self, i_I, Nat.reduceEqDiff, Nat.add_left_cancel_iff, Nat.add_eq_left, Nat.left_eq_add, and_false, false_and, and_true, true_and, if_true, if_false, and_self, not_true, not_false_iff, reduceCtorEq, sb_ybooks S], mW.rf, R⟩
    simp only [z1, z2, z3, m1, b2, k1, q_ix1, q_c1, q_rf, q_lt, q_cl, q_jn, q_b, q_b1, q_ck, kd_I, kd_J, kd_R, n_I, n_J, n_R, r_I, r_J, c_I, c_J, c_R, i_J, i_R, j_I, j_R, y_in, y_isDay, x_within, x_isDay, x_isTown, q_10, q_01, eq_self, i_I, Nat.reduceEqDiff, Nat.add_left_cancel_iff, Nat.add_eq_left, Nat.left_eq_add, and_false, false_and, and_true, true_and, if_true, if_false, and_self, not_true, not_false_iff, reduceCtorEq, sb_xbooks S, sk1 S, sr0_0 S, ite_self]
  by_cases c1 : 0 ≤ b ∧ b ≤ 3999
  case neg => exact ⟨-1, h, h, by simp only [z1, c1, q_rf, q_lt, q_cl, q_jn, q_b, q_b1, q_ck, kd_I, kd_J, kd_R, n_I, n_J, n_R, r_I, r_J, c_I, c_J, c_R, i_J, i_R, j_I, j_R, y_in, y_isDay, x_within, x_isDay, x_isTown, q_10, q_01, eq_self, i_I, Nat.reduceEqDiff, Nat.add_left_cancel_iff, Nat.add_eq_left, Nat.left_eq_add, and_false, false_and, and_true, true_and, if_true, if_false, and_self, not_true, not_false_iff, reduceCtorEq, sb_xbooks S], by simp only [z1, c1, b3, e10', c5, q_ix1, q_c1, q_rf, q_lt, q_cl, q_jn, q_b, q_b1, q_ck, kd_I, kd_J, kd_R, n_I, n_J, n_R, r_I, r_J, c_I, c_J, c_R, i_J, i_R, j_I, j_R, y_in, y_isDay, x_within, x_isDay, x_isTown, q_10, q_01, eq_self, i_I, Nat.reduceEqDiff, Nat.add_left_cancel_iff, Nat.add_eq_left, Nat.left_eq_add, and_false, false_and, and_true, true_and, if_true, if_false, and_self, not_true, not_false_iff, reduceCtorEq, sb_ybooks S], mW.rf, R⟩
  by_cases c2 : c < 0
  case pos => exact ⟨-1, h, h, by simp only [z1, c1, c2, q_rf, q_lt, q_cl, q_jn, q_b, q_b1, q_ck, kd_I, kd_J, kd_R, n_I, n_J, n_R, r_I, r_J, c_I, c_J, c_R, i_J, i_R, j_I, j_R, y_in, y_isDay, x_within, x_isDay, x_isTown, q_10, q_01, eq_self, i_I, Nat.reduceEqDiff, Nat.add_left_cancel_iff, Nat.add_eq_left, Nat.left_eq_add, and_false, false_and, and_true, true_and, if_true, if_false, and_self, not_true, not_false_iff, reduceCtorEq, sb_xbooks S], by simp only [z1, c1, c2, hM, b3, e10', c5, q_ix1, q_c1, q_rf, q_lt, q_cl, q_jn, q_b, q_b1, q_ck, kd_I, kd_J, kd_R, n_I, n_J, n_R, r_I, r_J, c_I, c_J, c_R, i_J, i_R, j_I, j_R, y_in, y_isDay, x_within, x_isDay, x_isTown, q_10, q_01, eq_self, i_I, Nat.reduceEqDiff, Nat.add_left_cancel_iff, Nat.add_eq_left, Nat.left_eq_add, and_false, false_and, and_true, true_and, if_true, if_false, and_self, not_true, not_false_iff, reduceCtorEq, sb_ybooks S], mW.rf, R⟩
  by_cases c3 : nI m ≤ c
  case pos => exact ⟨-1, h, h, by simp only [z1, c1, c2, c3, m1, q_rf, q_lt, q_cl, q_jn, q_b, q_b1, q_ck, kd_I, kd_J, kd_R, n_I, n_J, n_R, r_I, r_J, c_I, c_J, c_R, i_J, i_R, j_I, j_R, y_in, y_isDay, x_within, x_isDay, x_isTown, q_10, q_01, eq_self, i_I, Nat.reduceEqDiff, Nat.add_left_cancel_iff, Nat.add_eq_left, Nat.left_eq_add, and_false, false_and, and_true, true_and, if_true, if_false, and_self, not_true, not_false_iff, reduceCtorEq, sb_xbooks S, sk1 S, sr0_0 S], by simp only [z1, c1, c2, c3, hM, b3, e10', c5, q_ix1, q_c1, q_rf, q_lt, q_cl, q_jn, q_b, q_b1, q_ck, kd_I, kd_J, kd_R, n_I, n_J, n_R, r_I, r_J, c_I, c_J, c_R, i_J, i_R, j_I, j_R, y_in, y_isDay, x_within, x_isDay, x_isTown, q_10, q_01, eq_self, i_I, Nat.reduceEqDiff, Nat.add_left_cancel_iff, Nat.add_eq_left, Nat.left_eq_add, and_false, false_and, and_true, true_and, if_true, if_false, and_self, not_true, not_false_iff, reduceCtorEq, sb_ybooks S], mW.rf, R⟩
  by_cases c4 : 0 ≤ d ∧ d ≤ 1000000
  case neg => exact ⟨-1, h, h, by simp only [z1, c1, c2, c3, c4, m1, q_rf, q_lt, q_cl, q_jn, q_b, q_b1, q_ck, kd_I, kd_J, kd_R, n_I, n_J, n_R, r_I, r_J, c_I, c_J, c_R, i_J, i_R, j_I, j_R, y_in, y_isDay, x_within, x_isDay, x_isTown, q_10, q_01, eq_self, i_I, Nat.reduceEqDiff, Nat.add_left_cancel_iff, Nat.add_eq_left, Nat.left_eq_add, and_false, false_and, and_true, true_and, if_true, if_false, and_self, not_true, not_false_iff, reduceCtorEq, sb_xbooks S, sk1 S, sr0_0 S], by simp only [z1, c1, c2, c3, c4, hM, b3, e10', c5, q_ix1, q_c1, q_rf, q_lt, q_cl, q_jn, q_b, q_b1, q_ck, kd_I, kd_J, kd_R, n_I, n_J, n_R, r_I, r_J, c_I, c_J, c_R, i_J, i_R, j_I, j_R, y_in, y_isDay, x_within, x_isDay, x_isTown, q_10, q_01, eq_self, i_I, Nat.reduceEqDiff, Nat.add_left_cancel_iff, Nat.add_eq_left, Nat.left_eq_add, and_false, false_and, and_true, true_and, if_true, if_false, and_self, not_true, not_false_iff, reduceCtorEq, sb_ybooks S], mW.rf, R⟩
  have k1 : n1 < 10 := by omega
  have hx := fun (β : Type) (k : Option β) => q_ckx k1 (by decide) k
  have hc := nI_clamp (n := n1) (by omega)
  have hx2 := fun (β : Type) (k : Option β) => q_ckx (show (10 + n1) < 20 by omega) (by decide) k
  have hc2 := nI_clamp (n := (10 + n1)) (by omega)
  have ml : (10 : Int32) * 1 + nI n1 = nI (10 + n1) := by
    rw [show (10 : Int32) * 1 = nI 10 by decide, nI_add]
  have k2 : nI n1 < 10 := by rw [e10]; exact k1
  have k3 : ¬ nI n1 = 10 := by rw [e10']; omega
  have hM2 := y_isMan (B := B) (h := (mm_setI (mm_setI (mm_setI (mm_setI (mm_setI h (B + 56) n1 b) (B + 59) n1 c) (B + 62) n1 d) (B + 53) 1 (nI (n1 + 1))) (B + 52) 7 0)) S hm (by simp [i_I, m2]) c
  refine ⟨nI n1, _, _, by simp only [z1, z2, z3, c1, c2, c3, c4, m1, b2, k2, hx, hc, nI_1, q_ix1, q_c1, q_rf, q_lt, q_cl, q_jn, q_b, q_b1, q_ck, kd_I, kd_J, kd_R, n_I, n_J, n_R, r_I, r_J, c_I, c_J, c_R, i_J, i_R, j_I, j_R, y_in, y_isDay, x_within, x_isDay, x_isTown, q_10, q_01, eq_self, i_I, Nat.reduceEqDiff, Nat.add_left_cancel_iff, Nat.add_eq_left, Nat.left_eq_add, and_false, false_and, and_true, true_and, if_true, if_false, and_self, not_true, not_false_iff, reduceCtorEq, sb_xbooks S, sk1 S, sr0_0 S]; rfl, by simp only [z1, c1, c2, c3, c4, hM2, b3, k3, ml, hx2, hc2, nI_1, nI_pred, q_ix1, q_c1, q_rf, q_lt, q_cl, q_jn, q_b, q_b1, q_ck, kd_I, kd_J, kd_R, n_I, n_J, n_R, r_I, r_J, c_I, c_J, c_R, i_J, i_R, j_I, j_R, y_in, y_isDay, x_within, x_isDay, x_isTown, q_10, q_01, eq_self, i_I, Nat.reduceEqDiff, Nat.add_left_cancel_iff, Nat.add_eq_left, Nat.left_eq_add, and_false, false_and, and_true, true_and, if_true, if_false, and_self, not_true, not_false_iff, reduceCtorEq, sb_ybooks S]; rfl, ?_, ?_⟩
  · (repeat refine mW.I ?_ (by simp [wEn])); exact mW.rf
  · refine ⟨n0, n1 + 1, ⟨⟨a1, by simp [i_I, a2], by simp [i_I, a3], fun k hk => ?_⟩, by omega, by simp [i_I, b2, nI_1], by simp [i_I, b3, nI_1], fun k hk => ?_⟩, Or.inl ⟨by simp [i_I], by simp [i_I]⟩⟩
    · have e : ¬ k = 10 + n1 := by omega
      simpa only [q_10, q_01, eq_self, i_I, Nat.reduceEqDiff, Nat.add_left_cancel_iff, Nat.add_eq_left, Nat.left_eq_add, and_false, false_and, and_true, true_and, if_true, if_false, and_self, not_true, not_false_iff, reduceCtorEq, e] using a4 k hk
    · by_cases e : k = n1
      · subst e
        simp only [q_10, q_01, eq_self, i_I, Nat.reduceEqDiff, Nat.add_left_cancel_iff, Nat.add_eq_left, Nat.left_eq_add, and_false, false_and, and_true, true_and, if_true, if_false, and_self, not_true, not_false_iff, reduceCtorEq]
        exact ⟨c1, c4⟩
      · simpa only [q_10, q_01, eq_self, i_I, Nat.reduceEqDiff, Nat.add_left_cancel_iff, Nat.add_eq_left, Nat.left_eq_add, and_false, false_and, and_true, true_and, if_true, if_false, and_self, not_true, not_false_iff, reduceCtorEq, e] using b4 k (by omega)
end EN
