/-! the ports' towns -/
def RPt (B : Nat) (h : mm_H) : Prop := ∀ k : Nat, mm_i h (B + 33) k ≤ 7
section PT2
variable {B : Nat} {h h' : mm_H} {ow : Nat → Nat × Nat} {ms : List Nat}
theorem RPt.up (R : RPt B h) (x : mY B ow ms h h') (h1 : 11 ∉ ms) : RPt B h' := fun k => by
  rw [x.iF (j := 33) (k := k) (m := 11) (by omega) rfl h1]; exact R k
theorem x_closed8 (R : RPt B h) (d r : Int32) (m : Nat) : anyF (xShut h B 8 d r) m 0 = false := by
  have hf : ∀ e i, anyF (xShut h B 8 d r) e i = false := by
    intro e
    induction e with
    | zero => intro i; rfl
    | succ e ih =>
      intro i
      have hne : ¬ mm_i h (B + 33) i = 8 := fun z => absurd (z ▸ R i) (by decide)
      simp only [anyF, ih, Bool.or_false]
      unfold xShut xCov
      simp [hne]
  exact hf m 0
theorem T_shut2 (S : mS B h) (R : RPo B h) (a b c : Int32) : ∃ r h1 h2, fX11_shut B a b c h = some (r, h1) ∧ fX12_shut (B + 66) a b c h1 = some (r, h2) ∧ mW (wPo B) h h2 ∧ RPo B h2 ∧ ∀ k, mm_i h2 (B + 33) k = mm_i h (B + 33) k ∨ mm_i h2 (B + 33) k ≤ 7 := by
  obtain ⟨n, h1, h2, h3, h4⟩ := R
  unfold fX11_shut fX10_addClosing fX12_shut
  simp only [q_rf, q_lt, q_cl, q_jn, q_b, q_b1, q_ck, kd_I, kd_J, kd_R, n_I, n_J, n_R, r_I, r_J, c_I, c_J, c_R, i_J, i_R, j_I, j_R, y_in, y_isDay, x_within, x_isDay, x_isTown, sb_xsea S, h2]
  have e20 : (nI n < 20) = (n < 20) := propext (nI_ltI (b := 20) (by omega) (by omega))
  have e20' : (nI n = 20) = (n = 20) := propext (nI_eq (b := 20) (by omega) (by omega))
  by_cases c1 : 0 ≤ a ∧ a ≤ 7
  case neg => exact ⟨-1, h, h, by simp [c1], by simp [q_rf, q_lt, q_cl, q_jn, q_b, q_b1, q_ck, kd_I, kd_J, kd_R, n_I, n_J, n_R, r_I, r_J, c_I, c_J, c_R, i_J, i_R, j_I, j_R, y_in, y_isDay, x_within, x_isDay, x_isTown, sb_yports S, h3, e20', c1], mW.rf, ⟨n, h1, h2, h3, h4⟩, fun _ => Or.inl rfl⟩
  by_cases c2 : 0 ≤ b ∧ b ≤ 3999
  case neg => exact ⟨-1, h, h, by simp [c1, c2], by simp [q_rf, q_lt, q_cl, q_jn, q_b, q_b1, q_ck, kd_I, kd_J, kd_R, n_I, n_J, n_R, r_I, r_J, c_I, c_J, c_R, i_J, i_R, j_I, j_R, y_in, y_isDay, x_within, x_isDay, x_isTown, sb_yports S, h3, e20', c1, c2], mW.rf, ⟨n, h1, h2, h3, h4⟩, fun _ => Or.inl rfl⟩
  by_cases c3 : 0 ≤ c ∧ c ≤ 3999
  case neg =>
    refine ⟨-1, h, h, by simp [c1, c2, c3], ?_, mW.rf, ⟨n, h1, h2, h3, h4⟩, fun _ => Or.inl rfl⟩
    have : ¬ (b ≤ c ∧ c ≤ 3999) := fun z => c3 ⟨Int32.le_trans c2.1 z.1, z.2⟩
    simp [q_rf, q_lt, q_cl, q_jn, q_b, q_b1, q_ck, kd_I, kd_J, kd_R, n_I, n_J, n_R, r_I, r_J, c_I, c_J, c_R, i_J, i_R, j_I, j_R, y_in, y_isDay, x_within, x_isDay, x_isTown, sb_yports S, h3, e20', c1, c2, this]
  by_cases c4 : b ≤ c
  case neg => exact ⟨-1, h, h, by simp [c1, c2, c3, c4], by simp [q_rf, q_lt, q_cl, q_jn, q_b, q_b1, q_ck, kd_I, kd_J, kd_R, n_I, n_J, n_R, r_I, r_J, c_I, c_J, c_R, i_J, i_R, j_I, j_R, y_in, y_isDay, x_within, x_isDay, x_isTown, sb_yports S, h3, e20', c1, c2, c4], mW.rf, ⟨n, h1, h2, h3, h4⟩, fun _ => Or.inl rfl⟩
  by_cases c5 : n = 20
  case pos =>
    have c6 : ¬ nI n < 20 := by rw [e20]; omega
    have c7 : nI n = 20 := by rw [e20']; exact c5
    exact ⟨-1, h, h, by simp only [c1, c2, c3, c4, c6, q_rf, q_lt, q_cl, q_jn, q_b, q_b1, q_ck, kd_I, kd_J, kd_R, n_I, n_J, n_R, r_I, r_J, c_I, c_J, c_R, i_J, i_R, j_I, j_R, y_in, y_isDay, x_within, x_isDay, x_isTown, q_10, q_01, eq_self, i_I, Nat.reduceEqDiff, Nat.add_left_cancel_iff, Nat.add_eq_left, Nat.left_eq_add, and_false, false_and, and_true, true_and, if_true, if_false, and_self, not_true, not_false_iff, reduceCtorEq], by simp only [q_rf, q_lt, q_cl, q_jn, q_b, q_b1, q_ck, kd_I, kd_J, kd_R, n_I, n_J, n_R, r_I, r_J, c_I, c_J, c_R, i_J, i_R, j_I, j_R, y_in, y_isDay, x_within, x_isDay, x_isTown, q_10, q_01, eq_self, i_I, Nat.reduceEqDiff, Nat.add_left_cancel_iff, Nat.add_eq_left, Nat.left_eq_add, and_false, false_and, and_true, true_and, if_true, if_false, and_self, not_true, not_false_iff, reduceCtorEq, sb_yports S, h3, c7], mW.rf, ⟨n, h1, h2, h3, h4⟩, fun _ => Or.inl rfl⟩
  have hn : n < 20 := by omega
  have hx := fun (β : Type) (k : Option β) => q_ckx hn (by decide) k
  have hc := nI_clamp (n := n) (by omega)
  have c6 : nI n < 20 := by rw [e20]; omega
  have c7 : ¬ nI n = 20 := by rw [e20']; exact c5
  refine ⟨nI n, _, _, by simp only [c1, c2, c3, c4, c6, hx, hc, q_rf, q_lt, q_cl, q_jn, q_b, q_b1, q_ck, kd_I, kd_J, kd_R, n_I, n_J, n_R, r_I, r_J, c_I, c_J, c_R, i_J, i_R, j_I, j_R, y_in, y_isDay, x_within, x_isDay, x_isTown, q_10, q_01, eq_self, i_I, Nat.reduceEqDiff, Nat.add_left_cancel_iff, Nat.add_eq_left, Nat.left_eq_add, and_false, false_and, and_true, true_and, if_true, if_false, and_self, not_true, not_false_iff, reduceCtorEq, sb_xsea S, h2, nI_1, nI_pred]; rfl, by simp only [c1, c2, c3, c4, c7, hx, hc, q_rf, q_lt, q_cl, q_jn, q_b, q_b1, q_ck, kd_I, kd_J, kd_R, n_I, n_J, n_R, r_I, r_J, c_I, c_J, c_R, i_J, i_R, j_I, j_R, y_in, y_isDay, x_within, x_isDay, x_isTown, q_10, q_01, eq_self, i_I, Nat.reduceEqDiff, Nat.add_left_cancel_iff, Nat.add_eq_left, Nat.left_eq_add, and_false, false_and, and_true, true_and, if_true, if_false, and_self, not_true, not_false_iff, reduceCtorEq, sb_yports S, h3, nI_1, nI_pred]; rfl, ?_, ?_, fun k => ?_⟩
  · (repeat refine mW.I ?_ (by simp [wPo])); exact mW.rf
  · refine ⟨n + 1, by omega, by simp [i_I, h2, nI_1], by simp [i_I, h3, nI_1], fun k hk => ?_⟩
    by_cases e : k = n
    · subst e
      simp [i_I]
    · have := h4 k (by omega)
      simpa [i_I, e] using this
  · by_cases e : k = n
    · refine Or.inr ?_
      subst e
      simp [i_I]
      exact c1.2
    · refine Or.inl ?_
      simp [i_I, e]
end PT2
