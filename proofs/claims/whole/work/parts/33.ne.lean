/-! news and prices -/
/-- the last place below n with P -/
def lastF (P : Nat → Bool) : Nat → Option Nat
  | 0 => none
  | n + 1 => if P n then some n else lastF P n
theorem lastF_congr {P Q : Nat → Bool} : ∀ {n : Nat}, (∀ j, j < n → P j = Q j) → lastF P n = lastF Q n := by
  intro n
  induction n with
  | zero => intro _; rfl
  | succ n ih => intro h; simp only [lastF]; rw [h n (by omega), ih (fun j hj => h j (by omega))]
theorem lastF_lt {P : Nat → Bool} : ∀ {n k : Nat}, lastF P n = some k → k < n := by
  intro n
  induction n with
  | zero => intro k h; cases h
  | succ n ih =>
    intro k h
    simp only [lastF] at h
    split at h
    · cases h; omega
    · have := ih h; omega
/-- from i on, d places, the value of the last with P -/
def fwdF (P : Nat → Bool) (V : Nat → Int32) : Nat → Nat → Int32 → Int32
  | 0, _, v => v
  | d + 1, i, v => fwdF P V d (i + 1) (if P i then V i else v)
theorem fwdF_last {P : Nat → Bool} {V : Nat → Int32} : ∀ (d i : Nat) (v : Int32), fwdF P V d i v = match lastF (fun j => P (i + j)) d with
    | none => v
    | some k => V (i + k) := by
  intro d
  induction d with
  | zero => intro i v; rfl
  | succ d ih =>
    intro i v
    have key : ∀ (d i : Nat) (v : Int32), fwdF P V (d + 1) i v = if P (i + d) then V (i + d) else fwdF P V d i v := by
      intro d
      induction d with
      | zero => intro i v; simp [fwdF]
      | succ d ih2 =>
        intro i v
        rw [fwdF, ih2, show i + 1 + d = i + (d + 1) by omega]
        rfl
    rw [key, ih]
    simp only [lastF]
    by_cases e : P (i + d) = true <;> simp [e]
def RNe (B : Nat) (h : mm_H) : Prop := ∃ n : Nat, n ≤ 200 ∧ mm_i h (B + 23) 10 = nI n ∧ mm_i h (B + 66) 77 = nI n ∧ ∀ k, k < n → (mm_i h (B + 121) k = mm_i h (B + 28) k ∧ mm_i h (B + 122) k = mm_i h (B + 29) k ∧ mm_i h (B + 123) k = mm_i h (B + 30) k ∧ mm_i h (B + 124) k = mm_i h (B + 31) k ∧ mm_i h (B + 125) k = mm_i h (B + 32) k) ∧ (0 ≤ mm_i h (B + 30) k ∧ mm_i h (B + 30) k ≤ 9999) ∧ (0 ≤ mm_i h (B + 31) k ∧ mm_i h (B + 31) k ≤ 9999)
def wNe (B : Nat) : Nat → Nat → Prop := fun a k => (a = B + 23 ∧ k = 10) ∨ (a = B + 66 ∧ k = 77) ∨ a = B + 28 ∨ a = B + 29 ∨ a = B + 30 ∨ a = B + 31 ∨ a = B + 32 ∨ a = B + 121 ∨ a = B + 122 ∨ a = B + 123 ∨ a = B + 124 ∨ a = B + 125
def xNe (h : mm_H) (B : Nat) (t g d : Int32) (k : Nat) : Bool := decide (mm_i h (B + 28) k = t) && (decide (mm_i h (B + 29) k = g) && decide (mm_i h (B + 32) k ≤ d))
def yNe (h : mm_H) (B : Nat) (t g d : Int32) (k : Nat) : Bool := decide (mm_i h (B + 121) k = t) && (decide (mm_i h (B + 122) k = g) && decide (mm_i h (B + 125) k ≤ d))
section NE
variable {B : Nat} {h : mm_H}
theorem x_isKind {a : Int32} {h : mm_H} : fX11_isKind a h = some (if 0 ≤ a ∧ a ≤ 7 then 1 else 0, h) := x_isTown
theorem T_news (S : mS B h) (N : RNow B h) (R : RNe B h) (a b c d : Int32) : ∃ r h1 h2, fX11_news B a b c d h = some (r, h1) ∧ fX12_news (B + 66) a b c d h1 = some (r, h2) ∧ mW (wNe B) h h2 ∧ RNe B h2 := by
  obtain ⟨n, h1, h2, h3, h4⟩ := R
  obtain ⟨N1, N2, N3⟩ := N
  unfold fX11_news fX10_addNews fX12_news
  have e20 : (nI n < 200) = (n < 200) := propext (nI_ltI (b := 200) (by omega) (by omega))
  have e20' : (nI n = 200) = (n = 200) := propext (nI_eq (b := 200) (by omega) (by omega))
  by_cases c1 : 0 ≤ a ∧ a ≤ 8
  case neg => exact ⟨-1, h, h, by simp only [c1, q_rf, q_lt, q_cl, q_jn, q_b, q_b1, q_ck, kd_I, kd_J, kd_R, n_I, n_J, n_R, r_I, r_J, c_I, c_J, c_R, i_J, i_R, j_I, j_R, y_in, y_isDay, x_within, x_isDay, x_isTown, q_10, q_01, eq_self, i_I, Nat.reduceEqDiff, Nat.add_left_cancel_iff, Nat.add_eq_left, Nat.left_eq_add, and_false, false_and, and_true, true_and, if_true, if_false, and_self, not_true, not_false_iff, reduceCtorEq, sb_xsea S], by simp only [c1, h3, N1, q_rf, q_lt, q_cl, q_jn, q_b, q_b1, q_ck, kd_I, kd_J, kd_R, n_I, n_J, n_R, r_I, r_J, c_I, c_J, c_R, i_J, i_R, j_I, j_R, y_in, y_isDay, x_within, x_isDay, x_isTown, q_10, q_01, eq_self, i_I, Nat.reduceEqDiff, Nat.add_left_cancel_iff, Nat.add_eq_left, Nat.left_eq_add, and_false, false_and, and_true, true_and, if_true, if_false, and_self, not_true, not_false_iff, reduceCtorEq, sb_yships S, ite_self], mW.rf, ⟨n, h1, h2, h3, h4⟩⟩
  by_cases c2 : 0 ≤ b ∧ b ≤ 7
  case neg => exact ⟨-1, h, h, by simp only [c1, c2, x_isKind, q_rf, q_lt, q_cl, q_jn, q_b, q_b1, q_ck, kd_I, kd_J, kd_R, n_I, n_J, n_R, r_I, r_J, c_I, c_J, c_R, i_J, i_R, j_I, j_R, y_in, y_isDay, x_within, x_isDay, x_isTown, q_10, q_01, eq_self, i_I, Nat.reduceEqDiff, Nat.add_left_cancel_iff, Nat.add_eq_left, Nat.left_eq_add, and_false, false_and, and_true, true_and, if_true, if_false, and_self, not_true, not_false_iff, reduceCtorEq, sb_xsea S], by simp only [c1, c2, h3, N1, q_rf, q_lt, q_cl, q_jn, q_b, q_b1, q_ck, kd_I, kd_J, kd_R, n_I, n_J, n_R, r_I, r_J, c_I, c_J, c_R, i_J, i_R, j_I, j_R, y_in, y_isDay, x_within, x_isDay, x_isTown, q_10, q_01, eq_self, i_I, Nat.reduceEqDiff, Nat.add_left_cancel_iff, Nat.add_eq_left, Nat.left_eq_add, and_false, false_and, and_true, true_and, if_true, if_false, and_self, not_true, not_false_iff, reduceCtorEq, sb_yships S, ite_self], mW.rf, ⟨n, h1, h2, h3, h4⟩⟩
  by_cases c3 : 0 ≤ c ∧ c ≤ 9999
  case neg => exact ⟨-1, h, h, by simp only [c1, c2, c3, x_isKind, q_rf, q_lt, q_cl, q_jn, q_b, q_b1, q_ck, kd_I, kd_J, kd_R, n_I, n_J, n_R, r_I, r_J, c_I, c_J, c_R, i_J, i_R, j_I, j_R, y_in, y_isDay, x_within, x_isDay, x_isTown, q_10, q_01, eq_self, i_I, Nat.reduceEqDiff, Nat.add_left_cancel_iff, Nat.add_eq_left, Nat.left_eq_add, and_false, false_and, and_true, true_and, if_true, if_false, and_self, not_true, not_false_iff, reduceCtorEq, sb_xsea S], by simp only [c1, c2, c3, h3, N1, q_rf, q_lt, q_cl, q_jn, q_b, q_b1, q_ck, kd_I, kd_J, kd_R, n_I, n_J, n_R, r_I, r_J, c_I, c_J, c_R, i_J, i_R, j_I, j_R, y_in, y_isDay, x_within, x_isDay, x_isTown, q_10, q_01, eq_self, i_I, Nat.reduceEqDiff, Nat.add_left_cancel_iff, Nat.add_eq_left, Nat.left_eq_add, and_false, false_and, and_true, true_and, if_true, if_false, and_self, not_true, not_false_iff, reduceCtorEq, sb_yships S, ite_self], mW.rf, ⟨n, h1, h2, h3, h4⟩⟩
  by_cases c4 : c ≤ d ∧ d ≤ 9999
  case neg => exact ⟨-1, h, h, by simp only [c1, c2, c3, c4, x_isKind, q_rf, q_lt, q_cl, q_jn, q_b, q_b1, q_ck, kd_I, kd_J, kd_R, n_I, n_J, n_R, r_I, r_J, c_I, c_J, c_R, i_J, i_R, j_I, j_R, y_in, y_isDay, x_within, x_isDay, x_isTown, q_10, q_01, eq_self, i_I, Nat.reduceEqDiff, Nat.add_left_cancel_iff, Nat.add_eq_left, Nat.left_eq_add, and_false, false_and, and_true, true_and, if_true, if_false, and_self, not_true, not_false_iff, reduceCtorEq, sb_xsea S], by simp only [c1, c2, c3, c4, h3, N1, q_rf, q_lt, q_cl, q_jn, q_b, q_b1, q_ck, kd_I, kd_J, kd_R, n_I, n_J, n_R, r_I, r_J, c_I, c_J, c_R, i_J, i_R, j_I, j_R, y_in, y_isDay, x_within, x_isDay, x_isTown, q_10, q_01, eq_self, i_I, Nat.reduceEqDiff, Nat.add_left_cancel_iff, Nat.add_eq_left, Nat.left_eq_add, and_false, false_and, and_true, true_and, if_true, if_false, and_self, not_true, not_false_iff, reduceCtorEq, sb_yships S, ite_self], mW.rf, ⟨n, h1, h2, h3, h4⟩⟩
  by_cases c5 : n = 200
  case pos =>
    have c6 : ¬ nI n < 200 := by rw [e20]; omega
    have c7 : nI n = 200 := by rw [e20']; exact c5
    exact ⟨-1, h, h, by simp only [c1, c2, c3, c4, c6, h2, x_isKind, q_rf, q_lt, q_cl, q_jn, q_b, q_b1, q_ck, kd_I, kd_J, kd_R, n_I, n_J, n_R, r_I, r_J, c_I, c_J, c_R, i_J, i_R, j_I, j_R, y_in, y_isDay, x_within, x_isDay, x_isTown, q_10, q_01, eq_self, i_I, Nat.reduceEqDiff, Nat.add_left_cancel_iff, Nat.add_eq_left, Nat.left_eq_add, and_false, false_and, and_true, true_and, if_true, if_false, and_self, not_true, not_false_iff, reduceCtorEq, sb_xsea S], by simp only [q_rf, q_lt, q_cl, q_jn, q_b, q_b1, q_ck, kd_I, kd_J, kd_R, n_I, n_J, n_R, r_I, r_J, c_I, c_J, c_R, i_J, i_R, j_I, j_R, y_in, y_isDay, x_within, x_isDay, x_isTown, q_10, q_01, eq_self, i_I, Nat.reduceEqDiff, Nat.add_left_cancel_iff, Nat.add_eq_left, Nat.left_eq_add, and_false, false_and, and_true, true_and, if_true, if_false, and_self, not_true, not_false_iff, reduceCtorEq, sb_yships S, h3, c7], mW.rf, ⟨n, h1, h2, h3, h4⟩⟩
  have hn : n < 200 := by omega
  have hx := fun (β : Type) (k : Option β) => q_ckx hn (by decide) k
  have hc := nI_clamp (n := n) (by omega)
  have c6 : nI n < 200 := by rw [e20]; omega
  have c7 : ¬ nI n = 200 := by rw [e20']; exact c5
  refine ⟨nI (n + 1), _, _, by simp only [c1, c2, c3, c4, c6, hx, hc, x_isKind, q_rf, q_lt, q_cl, q_jn, q_b, q_b1, q_ck, kd_I, kd_J, kd_R, n_I, n_J, n_R, r_I, r_J, c_I, c_J, c_R, i_J, i_R, j_I, j_R, y_in, y_isDay, x_within, x_isDay, x_isTown, q_10, q_01, eq_self, i_I, Nat.reduceEqDiff, Nat.add_left_cancel_iff, Nat.add_eq_left, Nat.left_eq_add, and_false, false_and, and_true, true_and, if_true, if_false, and_self, not_true, not_false_iff, reduceCtorEq, sb_xsea S, h2, nI_1, nI_pred]; rfl, by simp only [c1, c2, c3, c4, c7, hx, hc, N1, q_rf, q_lt, q_cl, q_jn, q_b, q_b1, q_ck, kd_I, kd_J, kd_R, n_I, n_J, n_R, r_I, r_J, c_I, c_J, c_R, i_J, i_R, j_I, j_R, y_in, y_isDay, x_within, x_isDay, x_isTown, q_10, q_01, eq_self, i_I, Nat.reduceEqDiff, Nat.add_left_cancel_iff, Nat.add_eq_left, Nat.left_eq_add, and_false, false_and, and_true, true_and, if_true, if_false, and_self, not_true, not_false_iff, reduceCtorEq, sb_yships S, h3, nI_1, nI_pred]; rfl, ?_, ?_⟩
  · (repeat refine mW.I ?_ (by simp [wNe])); exact mW.rf
  · refine ⟨n + 1, by omega, by simp [i_I, h2, nI_1], by simp [i_I, h3, nI_1], fun k hk => ?_⟩
    by_cases e : k = n
    · subst e
      simp only [q_10, q_01, eq_self, i_I, Nat.reduceEqDiff, Nat.add_left_cancel_iff, Nat.add_eq_left, Nat.left_eq_add, and_false, false_and, and_true, true_and, if_true, if_false, and_self, not_true, not_false_iff, reduceCtorEq]
      exact ⟨c3, ⟨Int32.le_trans c3.1 c4.1, c4.2⟩⟩
    · have := h4 k (by omega)
      simpa only [q_10, q_01, eq_self, i_I, Nat.reduceEqDiff, Nat.add_left_cancel_iff, Nat.add_eq_left, Nat.left_eq_add, and_false, false_and, and_true, true_and, if_true, if_false, and_self, not_true, not_false_iff, reduceCtorEq, e] using this
end NE
