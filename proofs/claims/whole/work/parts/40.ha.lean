/-! hands -/
def RHa (B : Nat) (h : mm_H) : Prop := (∃ n : Nat, n ≤ 8 ∧ mm_i h (B + 47) 3 = nI n ∧ mm_i h (B + 66) 102 = nI n ∧ ∀ k, k < n → mm_i h (B + 137) k = mm_i h (B + 48) k ∧ mm_i h (B + 138) k = mm_i h (B + 49) k ∧ mm_i h (B + 139) k = mm_i h (B + 50) k) ∧ ∃ m : Nat, m ≤ 256 ∧ mm_i h (B + 47) 5 = nI m ∧ mm_i h (B + 66) 103 = nI m ∧ ∀ k, k < m → mm_i h (B + 140) k = mm_i h (B + 51) k
def wHa (B : Nat) : Nat → Nat → Prop := fun a k => (a = B + 47 ∧ k = 3) ∨ (a = B + 66 ∧ k = 102) ∨ a = B + 48 ∨ a = B + 49 ∨ a = B + 50 ∨ a = B + 137 ∨ a = B + 138 ∨ a = B + 139
section HA
variable {B : Nat} {h : mm_H}
theorem T_hand (S : mS B h) (R : RHa B h) (a b c d : Int32) : ∃ r h1 h2, fX11_hand B a b c d h = some (r, h1) ∧ fX12_hand (B + 66) a b c d h1 = some (r, h2) ∧ mW (wHa B) h h2 ∧ RHa B h2 := by
  obtain ⟨⟨n, h1, h2, h3, h4⟩, m, m1, m2, m3, m4⟩ := R
  have R' : RHa B h := ⟨⟨n, h1, h2, h3, h4⟩, m, m1, m2, m3, m4⟩
  have e8 : (8 ≤ nI n) = (8 ≤ n) := propext (nI_leI (a := 8) (by decide) (by omega))
  have z1 : ∀ x : Int32, (x = 0 ∨ x = 1) → mm_ck (x = 0 ∨ x = 1) (some (x, h)) = some (x, h) := fun x e => q_ck e
  unfold fX11_hand fX3_setHand fX12_hand
  by_cases c2 : 0 ≤ b ∧ b ≤ 9999
  case neg =>
    refine ⟨0, h, h, by simp only [c2, q_rf, q_lt, q_cl, q_jn, q_b, q_b1, q_ck, kd_I, kd_J, kd_R, n_I, n_J, n_R, r_I, r_J, c_I, c_J, c_R, i_J, i_R, j_I, j_R, y_in, y_isDay, x_within, x_isDay, x_isTown, q_10, q_01, eq_self, i_I, Nat.reduceEqDiff, Nat.add_left_cancel_iff, Nat.add_eq_left, Nat.left_eq_add, and_false, false_and, and_true, true_and, if_true, if_false, and_self, not_true, not_false_iff, reduceCtorEq, sb_xhands S], ?_, mW.rf, R'⟩
    simp only [c2, h3, q_rf, q_lt, q_cl, q_jn, q_b, q_b1, q_ck, kd_I, kd_J, kd_R, n_I, n_J, n_R, r_I, r_J, c_I, c_J, c_R, i_J, i_R, j_I, j_R, y_in, y_isDay, x_within, x_isDay, x_isTown, q_10, q_01, eq_self, i_I, Nat.reduceEqDiff, Nat.add_left_cancel_iff, Nat.add_eq_left, Nat.left_eq_add, and_false, false_and, and_true, true_and, if_true, if_false, and_self, not_true, not_false_iff, reduceCtorEq, sb_yhands S, ite_self]
  by_cases c3 : 0 ≤ c ∧ c ≤ 9999
  case neg =>
    refine ⟨0, h, h, by simp only [c2, c3, q_rf, q_lt, q_cl, q_jn, q_b, q_b1, q_ck, kd_I, kd_J, kd_R, n_I, n_J, n_R, r_I, r_J, c_I, c_J, c_R, i_J, i_R, j_I, j_R, y_in, y_isDay, x_within, x_isDay, x_isTown, q_10, q_01, eq_self, i_I, Nat.reduceEqDiff, Nat.add_left_cancel_iff, Nat.add_eq_left, Nat.left_eq_add, and_false, false_and, and_true, true_and, if_true, if_false, and_self, not_true, not_false_iff, reduceCtorEq, sb_xhands S], ?_, mW.rf, R'⟩
    simp only [c2, c3, h3, q_rf, q_lt, q_cl, q_jn, q_b, q_b1, q_ck, kd_I, kd_J, kd_R, n_I, n_J, n_R, r_I, r_J, c_I, c_J, c_R, i_J, i_R, j_I, j_R, y_in, y_isDay, x_within, x_isDay, x_isTown, q_10, q_01, eq_self, i_I, Nat.reduceEqDiff, Nat.add_left_cancel_iff, Nat.add_eq_left, Nat.left_eq_add, and_false, false_and, and_true, true_and, if_true, if_false, and_self, not_true, not_false_iff, reduceCtorEq, sb_yhands S, ite_self]
  by_cases c4 : 1 ≤ d ∧ d ≤ 8
  case neg =>
    refine ⟨0, h, h, by simp only [c2, c3, c4, q_rf, q_lt, q_cl, q_jn, q_b, q_b1, q_ck, kd_I, kd_J, kd_R, n_I, n_J, n_R, r_I, r_J, c_I, c_J, c_R, i_J, i_R, j_I, j_R, y_in, y_isDay, x_within, x_isDay, x_isTown, q_10, q_01, eq_self, i_I, Nat.reduceEqDiff, Nat.add_left_cancel_iff, Nat.add_eq_left, Nat.left_eq_add, and_false, false_and, and_true, true_and, if_true, if_false, and_self, not_true, not_false_iff, reduceCtorEq, sb_xhands S], ?_, mW.rf, R'⟩
    simp only [c2, c3, c4, h3, q_rf, q_lt, q_cl, q_jn, q_b, q_b1, q_ck, kd_I, kd_J, kd_R, n_I, n_J, n_R, r_I, r_J, c_I, c_J, c_R, i_J, i_R, j_I, j_R, y_in, y_isDay, x_within, x_isDay, x_isTown, q_10, q_01, eq_self, i_I, Nat.reduceEqDiff, Nat.add_left_cancel_iff, Nat.add_eq_left, Nat.left_eq_add, and_false, false_and, and_true, true_and, if_true, if_false, and_self, not_true, not_false_iff, reduceCtorEq, sb_yhands S, ite_self]
  by_cases c5 : a < 0
  case pos =>
    have c6 : ∀ v : Int32, ¬ (0 ≤ a ∧ a ≤ v) := fun v z => absurd z.1 (Int32.not_le.mpr c5)
    refine ⟨0, h, h, by simp only [c2, c3, c4, c5, q_rf, q_lt, q_cl, q_jn, q_b, q_b1, q_ck, kd_I, kd_J, kd_R, n_I, n_J, n_R, r_I, r_J, c_I, c_J, c_R, i_J, i_R, j_I, j_R, y_in, y_isDay, x_within, x_isDay, x_isTown, q_10, q_01, eq_self, i_I, Nat.reduceEqDiff, Nat.add_left_cancel_iff, Nat.add_eq_left, Nat.left_eq_add, and_false, false_and, and_true, true_and, if_true, if_false, and_self, not_true, not_false_iff, reduceCtorEq, sb_xhands S, true_or], ?_, mW.rf, R'⟩
    simp only [c6, h3, q_rf, q_lt, q_cl, q_jn, q_b, q_b1, q_ck, kd_I, kd_J, kd_R, n_I, n_J, n_R, r_I, r_J, c_I, c_J, c_R, i_J, i_R, j_I, j_R, y_in, y_isDay, x_within, x_isDay, x_isTown, q_10, q_01, eq_self, i_I, Nat.reduceEqDiff, Nat.add_left_cancel_iff, Nat.add_eq_left, Nat.left_eq_add, and_false, false_and, and_true, true_and, if_true, if_false, and_self, not_true, not_false_iff, reduceCtorEq, sb_yhands S, ite_self]
  obtain ⟨j, hj, rfl⟩ := nI_of c5
  have p0 : (0 : Int32) ≤ nI j := nI_pos' hj
  have p7 : (nI j ≤ 7) = (j ≤ 7) := propext (nI_leI (b := 7) hj (by decide))
  have p8 : (8 ≤ nI j) = (8 ≤ j) := propext (nI_leI (a := 8) (by decide) hj)
  have pn : (nI j ≤ nI n) = (j ≤ n) := propext (nI_leI hj (by omega))
  by_cases c6 : 8 ≤ j
  case pos =>
    have k7 : ¬ j ≤ 7 := by omega
    have kn : 8 ≤ n ∨ ¬ j ≤ n := by omega
    refine ⟨0, h, h, by simp only [c2, c3, c4, c5, p8, c6, q_rf, q_lt, q_cl, q_jn, q_b, q_b1, q_ck, kd_I, kd_J, kd_R, n_I, n_J, n_R, r_I, r_J, c_I, c_J, c_R, i_J, i_R, j_I, j_R, y_in, y_isDay, x_within, x_isDay, x_isTown, q_10, q_01, eq_self, i_I, Nat.reduceEqDiff, Nat.add_left_cancel_iff, Nat.add_eq_left, Nat.left_eq_add, and_false, false_and, and_true, true_and, if_true, if_false, and_self, not_true, not_false_iff, reduceCtorEq, sb_xhands S, true_or], ?_, mW.rf, R'⟩
    by_cases k8 : 8 ≤ n
    · simp only [p7, k7, h3, e8, k8, q_rf, q_lt, q_cl, q_jn, q_b, q_b1, q_ck, kd_I, kd_J, kd_R, n_I, n_J, n_R, r_I, r_J, c_I, c_J, c_R, i_J, i_R, j_I, j_R, y_in, y_isDay, x_within, x_isDay, x_isTown, q_10, q_01, eq_self, i_I, Nat.reduceEqDiff, Nat.add_left_cancel_iff, Nat.add_eq_left, Nat.left_eq_add, and_false, false_and, and_true, true_and, if_true, if_false, and_self, not_true, not_false_iff, reduceCtorEq, sb_yhands S]
    · have : ¬ j ≤ n := by omega
      simp only [pn, this, h3, e8, k8, q_rf, q_lt, q_cl, q_jn, q_b, q_b1, q_ck, kd_I, kd_J, kd_R, n_I, n_J, n_R, r_I, r_J, c_I, c_J, c_R, i_J, i_R, j_I, j_R, y_in, y_isDay, x_within, x_isDay, x_isTown, q_10, q_01, eq_self, i_I, Nat.reduceEqDiff, Nat.add_left_cancel_iff, Nat.add_eq_left, Nat.left_eq_add, and_false, false_and, and_true, true_and, if_true, if_false, and_self, not_true, not_false_iff, reduceCtorEq, sb_yhands S]
  by_cases c7 : j ≤ n
  case neg =>
    refine ⟨0, h, h, by simp only [c2, c3, c4, c5, p8, c6, h2, pn, c7, q_rf, q_lt, q_cl, q_jn, q_b, q_b1, q_ck, kd_I, kd_J, kd_R, n_I, n_J, n_R, r_I, r_J, c_I, c_J, c_R, i_J, i_R, j_I, j_R, y_in, y_isDay, x_within, x_isDay, x_isTown, q_10, q_01, eq_self, i_I, Nat.reduceEqDiff, Nat.add_left_cancel_iff, Nat.add_eq_left, Nat.left_eq_add, and_false, false_and, and_true, true_and, if_true, if_false, and_self, not_true, not_false_iff, reduceCtorEq, sb_xhands S, true_or], ?_, mW.rf, R'⟩
    have k8 : ¬ 8 ≤ n := by omega
    simp only [pn, c7, h3, e8, k8, q_rf, q_lt, q_cl, q_jn, q_b, q_b1, q_ck, kd_I, kd_J, kd_R, n_I, n_J, n_R, r_I, r_J, c_I, c_J, c_R, i_J, i_R, j_I, j_R, y_in, y_isDay, x_within, x_isDay, x_isTown, q_10, q_01, eq_self, i_I, Nat.reduceEqDiff, Nat.add_left_cancel_iff, Nat.add_eq_left, Nat.left_eq_add, and_false, false_and, and_true, true_and, if_true, if_false, and_self, not_true, not_false_iff, reduceCtorEq, sb_yhands S]
  have hx := fun (β : Type) (k : Option β) => q_ckx (show j < 8 by omega) (by decide) k
  have hc := nI_clamp (n := j) (by omega)
  have k7 : j ≤ 7 := by omega
  have pe : (nI j = nI n) = (j = n) := propext (nI_eq hj (by omega))
  have pl : (nI n < nI (j + 1)) = (n < j + 1) := propext (nI_ltI (by omega) (by omega))
  have fin : ∀ n' : Nat, n' ≤ 8 → (n' = n ∨ (n' = n + 1 ∧ j = n)) → RHa B (mm_setI (mm_setI (mm_setI (mm_setI (mm_setI (mm_setI (mm_setI (mm_setI h (B + 48) j b) (B + 49) j c) (B + 50) j d) (B + 47) 3 (nI n')) (B + 137) j b) (B + 138) j c) (B + 139) j d) (B + 66) 102 (nI n')) := by
    intro n' hn' hq
    refine ⟨⟨n', hn', by simp [i_I], by simp [i_I], fun k hk => ?_⟩, m, m1, by simp [i_I, m2], by simp [i_I, m3], fun k hk => by simpa [i_I] using m4 k hk⟩
    by_cases e : k = j
    · subst e
      simp only [q_10, q_01, eq_self, i_I, Nat.reduceEqDiff, Nat.add_left_cancel_iff, Nat.add_eq_left, Nat.left_eq_add, and_false, false_and, and_true, true_and, if_true, if_false, and_self, not_true, not_false_iff, reduceCtorEq]
    · have := h4 k (by omega)
      simpa only [q_10, q_01, eq_self, i_I, Nat.reduceEqDiff, Nat.add_left_cancel_iff, Nat.add_eq_left, Nat.left_eq_add, and_false, false_and, and_true, true_and, if_true, if_false, and_self, not_true, not_false_iff, reduceCtorEq, e] using this
  by_cases e : j = n
  · subst e
    have k2 : ¬ 8 ≤ j := c6
    have k3 : j < j + 1 := by omega
    refine ⟨1, _, _, by simp only [c2, c3, c4, c5, p8, c6, h2, pn, Nat.le_refl, hx, hc, nI_1, pl, k3, q_rf, q_lt, q_cl, q_jn, q_b, q_b1, q_ck, kd_I, kd_J, kd_R, n_I, n_J, n_R, r_I, r_J, c_I, c_J, c_R, i_J, i_R, j_I, j_R, y_in, y_isDay, x_within, x_isDay, x_isTown, q_10, q_01, eq_self, i_I, Nat.reduceEqDiff, Nat.add_left_cancel_iff, Nat.add_eq_left, Nat.left_eq_add, and_false, false_and, and_true, true_and, if_true, if_false, and_self, not_true, not_false_iff, reduceCtorEq, sb_xhands S, or_true]; rfl, by simp only [c2, c3, c4, p0, pn, Nat.le_refl, h3, e8, k2, hx, hc, nI_1, q_rf, q_lt, q_cl, q_jn, q_b, q_b1, q_ck, kd_I, kd_J, kd_R, n_I, n_J, n_R, r_I, r_J, c_I, c_J, c_R, i_J, i_R, j_I, j_R, y_in, y_isDay, x_within, x_isDay, x_isTown, q_10, q_01, eq_self, i_I, Nat.reduceEqDiff, Nat.add_left_cancel_iff, Nat.add_eq_left, Nat.left_eq_add, and_false, false_and, and_true, true_and, if_true, if_false, and_self, not_true, not_false_iff, reduceCtorEq, sb_yhands S], ?_, fin (j + 1) (by omega) (Or.inr ⟨rfl, rfl⟩)⟩
    (repeat refine mW.I ?_ (by simp [wHa])); exact mW.rf
  · have k3 : ¬ n < j + 1 := by omega
    by_cases k8 : 8 ≤ n
    · refine ⟨1, _, _, by simp only [c2, c3, c4, c5, p8, c6, h2, pn, c7, hx, hc, nI_1, pl, k3, q_rf, q_lt, q_cl, q_jn, q_b, q_b1, q_ck, kd_I, kd_J, kd_R, n_I, n_J, n_R, r_I, r_J, c_I, c_J, c_R, i_J, i_R, j_I, j_R, y_in, y_isDay, x_within, x_isDay, x_isTown, q_10, q_01, eq_self, i_I, Nat.reduceEqDiff, Nat.add_left_cancel_iff, Nat.add_eq_left, Nat.left_eq_add, and_false, false_and, and_true, true_and, if_true, if_false, and_self, not_true, not_false_iff, reduceCtorEq, sb_xhands S, or_true]; rfl, by simp only [c2, c3, c4, p0, p7, k7, h3, e8, k8, hx, hc, nI_1, pe, e, q_rf, q_lt, q_cl, q_jn, q_b, q_b1, q_ck, kd_I, kd_J, kd_R, n_I, n_J, n_R, r_I, r_J, c_I, c_J, c_R, i_J, i_R, j_I, j_R, y_in, y_isDay, x_within, x_isDay, x_isTown, q_10, q_01, eq_self, i_I, Nat.reduceEqDiff, Nat.add_left_cancel_iff, Nat.add_eq_left, Nat.left_eq_add, and_false, false_and, and_true, true_and, if_true, if_false, and_self, not_true, not_false_iff, reduceCtorEq, sb_yhands S], ?_, fin n h1 (Or.inl rfl)⟩
      (repeat refine mW.I ?_ (by simp [wHa])); exact mW.rf
    · refine ⟨1, _, _, by simp only [c2, c3, c4, c5, p8, c6, h2, pn, c7, hx, hc, nI_1, pl, k3, q_rf, q_lt, q_cl, q_jn, q_b, q_b1, q_ck, kd_I, kd_J, kd_R, n_I, n_J, n_R, r_I, r_J, c_I, c_J, c_R, i_J, i_R, j_I, j_R, y_in, y_isDay, x_within, x_isDay, x_isTown, q_10, q_01, eq_self, i_I, Nat.reduceEqDiff, Nat.add_left_cancel_iff, Nat.add_eq_left, Nat.left_eq_add, and_false, false_and, and_true, true_and, if_true, if_false, and_self, not_true, not_false_iff, reduceCtorEq, sb_xhands S, or_true]; rfl, by simp only [c2, c3, c4, p0, pn, c7, h3, e8, k8, hx, hc, nI_1, pe, e, q_rf, q_lt, q_cl, q_jn, q_b, q_b1, q_ck, kd_I, kd_J, kd_R, n_I, n_J, n_R, r_I, r_J, c_I, c_J, c_R, i_J, i_R, j_I, j_R, y_in, y_isDay, x_within, x_isDay, x_isTown, q_10, q_01, eq_self, i_I, Nat.reduceEqDiff, Nat.add_left_cancel_iff, Nat.add_eq_left, Nat.left_eq_add, and_false, false_and, and_true, true_and, if_true, if_false, and_self, not_true, not_false_iff, reduceCtorEq, sb_yhands S], ?_, fin n h1 (Or.inl rfl)⟩
      (repeat refine mW.I ?_ (by simp [wHa])); exact mW.rf
end HA
