/-! the words of the pure programs, as rows for simp -/
section QQ
variable {α β : Type}
theorem q_ck {c : Prop} [Decidable c] {k : Option β} (h : c) : mm_ck c k = k := if_pos h
theorem q_rf (a : Nat) (k : Nat → Option β) : mm_rf (some a) k = k a := rfl
theorem q_lt (x : α) (k : α → Option β) : mm_lt x k = k x := rfl
theorem q_cl (v : α) (h : mm_H) (k : α → mm_H → Option β) : mm_cl (some (v, h)) k = k v h := rfl
theorem q_jn (k : α) (b : α → Option β) : mm_jn k b = b k := rfl
theorem q_b (c : Prop) [Decidable c] : ((if c then (1 : Int32) else 0) = 0) = ¬ c := by
  by_cases h : c <;> simp [h]
theorem q_b1 (c : Prop) [Decidable c] : ((if c then (1 : Int32) else 0) = 0 ∨ (if c then (1 : Int32) else 0) = 1) = True := by
  by_cases h : c <;> simp [h]
theorem q_b2 (c : Prop) [Decidable c] : ((if c then (1 : Int32) else 0) &&& 1) = if c then 1 else 0 := by
  by_cases h : c <;> simp [h]
theorem q_10 : ((1 : Int32) = 0) = False := by simp
theorem q_01 : ((0 : Int32) = 1) = False := by simp
end QQ
section QH
variable (h : mm_H) (a k b j n : Nat) (v : Int32) (w : Int64) (o : Option Nat)
theorem kd_I : mm_kd (mm_setI h a k v) = mm_kd h := rfl
theorem kd_J : mm_kd (mm_setJ h a k w) = mm_kd h := rfl
theorem kd_R : mm_kd (mm_setR h a k o) = mm_kd h := rfl
theorem n_I : mm_n (mm_setI h a k v) = mm_n h := rfl
theorem n_J : mm_n (mm_setJ h a k w) = mm_n h := rfl
theorem n_R : mm_n (mm_setR h a k o) = mm_n h := rfl
theorem c_I : mm_c (mm_setI h a k v) = mm_c h := rfl
theorem c_J : mm_c (mm_setJ h a k w) = mm_c h := rfl
theorem c_R : mm_c (mm_setR h a k o) = mm_c h := rfl
theorem sz_I : mm_sz (mm_setI h a k v) = mm_sz h := rfl
theorem sz_J : mm_sz (mm_setJ h a k w) = mm_sz h := rfl
theorem sz_R : mm_sz (mm_setR h a k o) = mm_sz h := rfl
theorem r_I : mm_r (mm_setI h a k v) = mm_r h := rfl
theorem r_J : mm_r (mm_setJ h a k w) = mm_r h := rfl
theorem j_I : mm_j (mm_setI h a k v) = mm_j h := rfl
theorem j_R : mm_j (mm_setR h a k o) = mm_j h := rfl
theorem i_J : mm_i (mm_setJ h a k w) = mm_i h := rfl
theorem i_R : mm_i (mm_setR h a k o) = mm_i h := rfl
theorem i_I : mm_i (mm_setI h a k v) b j = if b = a ∧ j = k then v else mm_i h b j := rfl
theorem j_J : mm_j (mm_setJ h a k w) b j = if b = a ∧ j = k then w else mm_j h b j := rfl
theorem r_R : mm_r (mm_setR h a k o) b j = if b = a ∧ j = k then o else mm_r h b j := rfl
theorem i_I_ne {h : mm_H} {a k b j : Nat} {v : Int32} (e : b ≠ a) : mm_i (mm_setI h a k v) b j = mm_i h b j := if_neg fun z => e z.1
theorem i_I_eq {h : mm_H} {a k : Nat} {v : Int32} : mm_i (mm_setI h a k v) a k = v := if_pos ⟨rfl, rfl⟩
theorem i_I_at {h : mm_H} {a k j : Nat} {v : Int32} : mm_i (mm_setI h a k v) a j = if j = k then v else mm_i h a j := by
  rw [i_I]; by_cases e : j = k <;> simp [e]
theorem S_I {B : Nat} : mS B (mm_setI h a k v) = mS B h := rfl
theorem S_J {B : Nat} : mS B (mm_setJ h a k w) = mS B h := rfl
end QH
theorem q_ix {j n : Nat} (h : j < n) (hn : n < 2 ^ 31) : mm_ix (nI j) n := by
  unfold mm_ix
  exact nI_in h hn
/-- some place from i on, d of them, with P -/
def anyF (P : Nat → Bool) : Nat → Nat → Bool
  | 0, _ => false
  | d + 1, i => P i || anyF P d (i + 1)
theorem anyF_iff {P : Nat → Bool} : ∀ {d i : Nat}, anyF P d i = true ↔ ∃ j, i ≤ j ∧ j < i + d ∧ P j = true := by
  intro d
  induction d with
  | zero => intro i; simp [anyF]; omega
  | succ d ih =>
    intro i
    simp only [anyF, Bool.or_eq_true, ih]
    constructor
    · rintro (h | ⟨j, h1, h2, h3⟩)
      · exact ⟨i, Nat.le_refl _, by omega, h⟩
      · exact ⟨j, by omega, by omega, h3⟩
    · rintro ⟨j, h1, h2, h3⟩
      by_cases e : i = j
      · subst e; exact Or.inl h3
      · exact Or.inr ⟨j, by omega, by omega, h3⟩
theorem anyF_congr {P Q : Nat → Bool} : ∀ {d i : Nat}, (∀ j, i ≤ j → j < i + d → P j = Q j) → anyF P d i = anyF Q d i := by
  intro d
  induction d with
  | zero => intro i _; rfl
  | succ d ih =>
    intro i h
    simp only [anyF]
    rw [h i (Nat.le_refl _) (by omega), ih (fun j h1 h2 => h j (by omega) (by omega))]
theorem y_in {a b c : Int32} {h : mm_H} : fX12_in a b c h = some (if b ≤ a ∧ a ≤ c then 1 else 0, h) := by
  unfold fX12_in
  by_cases h1 : a < b
  · simp [h1, Int32.not_le.mpr h1]
  · by_cases h2 : c < a
    · simp [h1, h2, Int32.not_le.mpr h2]
    · simp [h1, h2, Int32.not_lt.mp h1, Int32.not_lt.mp h2]
theorem y_isDay {a : Int32} {h : mm_H} : fX12_isDay a h = some (if 0 ≤ a ∧ a ≤ 3999 then 1 else 0, h) := by
  unfold fX12_isDay
  simp only [y_in, q_cl, q_b1, q_ck]
theorem x_within {a b c : Int32} {h : mm_H} : fX11_within a b c h = some (if b ≤ a ∧ a ≤ c then 1 else 0, h) := y_in
theorem x_isDay {a : Int32} {h : mm_H} : fX11_isDay a h = some (if 0 ≤ a ∧ a ≤ 3999 then 1 else 0, h) := y_in
theorem x_isTown {a : Int32} {h : mm_H} : fX11_isTown a h = some (if 0 ≤ a ∧ a ≤ 7 then 1 else 0, h) := by
  unfold fX11_isTown
  have e : ∀ a : Int32, (8 ≤ a) = (7 < a) := by
    intro a
    rw [Int32.le_iff_toInt_le, Int32.lt_iff_toInt_lt]
    have h1 : (8 : Int32).toInt = 8 := by decide
    have h2 : (7 : Int32).toInt = 7 := by decide
    rw [h1, h2]
    exact propext (by omega)
  simp only [e]
  exact y_in (b := 0) (c := 7)
theorem q_ckx {j n : Nat} (h : j < n) (hn : n < 2 ^ 31) {β : Type} (k : Option β) : mm_ck (mm_ix (nI j) n) k = k := q_ck (q_ix h hn)
