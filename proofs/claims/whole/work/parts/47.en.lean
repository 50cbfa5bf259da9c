/-! the books, on: entry -/
def RMc (B : Nat) (h : mm_H) : Prop := ∃ n : Nat, n < 2 ^ 30 ∧ mm_i h (B + 1) 2 = nI n ∧ mm_i h (B + 66) 2 = nI n
def wEn (B : Nat) : Nat → Nat → Prop := fun a k => (a = B + 53 ∧ (k = 0 ∨ k = 1)) ∨ (a = B + 141 ∧ (k = 0 ∨ k = 1)) ∨ (a = B + 52 ∧ k = 7) ∨ (a = B + 66 ∧ k = 108) ∨ a = B + 55 ∨ a = B + 56 ∨ a = B + 58 ∨ a = B + 59 ∨ a = B + 61 ∨ a = B + 62 ∨ a = B + 142 ∨ a = B + 143 ∨ a = B + 144
theorem q_pre {a : Int32} {n : Nat} (hn : n < 2 ^ 31) : (0 ≤ a ∧ a ≤ nI n - 1) = (¬ a < 0 ∧ ¬ nI n ≤ a) := by
  by_cases c0 : a < 0
  · exact propext ⟨fun z => absurd z.1 (Int32.not_le.mpr c0), fun z => absurd c0 z.1⟩
  obtain ⟨j, hj, rfl⟩ := nI_of c0
  refine propext ⟨fun z => ⟨c0, fun z2 => ?_⟩, fun z => ⟨nI_pos' hj, ?_⟩⟩
  · rcases Nat.eq_zero_or_pos n with e | e
    · subst e
      exact absurd (Int32.le_trans (nI_pos' hj) z.2) (by decide)
    · obtain ⟨q, rfl⟩ : ∃ q, n = q + 1 := ⟨n - 1, by omega⟩
      have := z.2
      rw [nI_pred] at this
      have k1 := (nI_leI hj (by omega)).mp this
      have k2 := (nI_leI hn hj).mp z2
      omega
  · have k : j < n := Nat.not_le.mp fun q => z.2 (nI_le q hj)
    obtain ⟨q, rfl⟩ : ∃ q, n = q + 1 := ⟨n - 1, by omega⟩
    rw [nI_pred]
    exact nI_le (by omega) (by omega)
section EN
variable {B : Nat} {h : mm_H}
theorem y_isMan (S : mS B h) {n : Nat} (hn : n < 2 ^ 30) (h2 : mm_i h (B + 66) 2 = nI n) (a : Int32) : fX12_isMan (B + 66) a h = some (if ¬ a < 0 ∧ ¬ nI n ≤ a then 1 else 0, h) := by
  unfold fX12_isMan
  simp only [h2, sk66 S, q_rf, q_lt, q_cl, q_jn, q_b, q_b1, q_ck, kd_I, kd_J, kd_R, n_I, n_J, n_R, r_I, r_J, c_I, c_J, c_R, i_J, i_R, j_I, j_R, y_in, y_isDay, x_within, x_isDay, x_isTown, q_pre (show n < 2 ^ 31 by omega)]
  refine q_ck ?_
  by_cases c : ¬ a < 0 ∧ ¬ nI n ≤ a
  · exact Or.inr (if_pos c)
  · exact Or.inl c
end EN
