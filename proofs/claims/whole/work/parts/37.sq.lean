/-! spans and theirs: what both programs answer of the weighings -/
/-- the first place from i on, d of them, with P -/
def firstF (P : Nat → Bool) : Nat → Nat → Option Nat
  | 0, _ => none
  | d + 1, i => if P i then some i else firstF P d (i + 1)
theorem firstF_congr {P Q : Nat → Bool} : ∀ {d i : Nat}, (∀ j, i ≤ j → j < i + d → P j = Q j) → firstF P d i = firstF Q d i := by
  intro d
  induction d with
  | zero => intro i _; rfl
  | succ d ih =>
    intro i h
    simp only [firstF]
    rw [h i (Nat.le_refl _) (by omega), ih (fun j h1 h2 => h j (by omega) (by omega))]
theorem firstF_lt {P : Nat → Bool} : ∀ {d i k : Nat}, firstF P d i = some k → i ≤ k ∧ k < i + d ∧ P k = true := by
  intro d
  induction d with
  | zero => intro i k h; cases h
  | succ d ih =>
    intro i k h
    simp only [firstF] at h
    split at h
    · cases h; exact ⟨Nat.le_refl _, by omega, by assumption⟩
    · have := ih h; exact ⟨by omega, by omega, this.2.2⟩
theorem anyF_first {P : Nat → Bool} : ∀ {d i : Nat}, anyF P d i = (firstF P d i).isSome := by
  intro d
  induction d with
  | zero => intro i; rfl
  | succ d ih =>
    intro i
    simp only [anyF, firstF, ih]
    by_cases e : P i = true <;> simp [e]
def oI : Option Nat → Int32
  | none => -1
  | some k => nI k
theorem lN_le2 {a b : Nat} (ha : a < 2 ^ 62) (hb : b < 2 ^ 62) : lN a ≤ lN b ↔ a ≤ b := by
  rw [Int64.le_iff_toInt_le, show (lN a).toInt = (a : Int) from lg_ofNat_toInt (by omega), show (lN b).toInt = (b : Int) from lg_ofNat_toInt (by omega)]
  omega
theorem q_mulb {a b : Nat} (ha : a < 2 ^ 30) (hb : b < 2 ^ 30) : a * b < 2 ^ 62 := by
  have := Nat.mul_lt_mul'' ha hb
  omega
theorem q_cmpm {a b c d : Nat} (ha : a < 2 ^ 30) (hb : b < 2 ^ 30) (hc : c < 2 ^ 30) (hd : d < 2 ^ 30) : (lg_cmp (lN a * lN b) (lN c * lN d) ≤ 0) ↔ a * b ≤ c * d := by
  rw [lg_cmp_le, lN_mul, lN_mul, lN_le2 (q_mulb ha hb) (q_mulb hc hd)]
theorem q_cmpg {a b c d : Nat} (ha : a < 2 ^ 30) (hb : b < 2 ^ 30) (hc : c < 2 ^ 30) (hd : d < 2 ^ 30) : (0 ≤ lg_cmp (lN a * lN b) (lN c * lN d)) ↔ c * d ≤ a * b := by
  rw [lg_cmp_ge, lN_mul, lN_mul, lN_le2 (q_mulb hc hd) (q_mulb ha hb)]
def wO (h : mm_H) (B k : Nat) : Nat := max 2 (mm_i h (B + 19) k).toNatClampNeg
theorem wO_2 (h : mm_H) (B k : Nat) : 2 ≤ wO h B k := Nat.le_max_left _ _
def wT (h : mm_H) (B k : Nat) : Nat := (mm_i h (B + 20) k).toNatClampNeg
def xKn (h : mm_H) (B : Nat) (t d : Int32) (k : Nat) : Bool := decide (mm_i h (B + 18) k = t) && (decide (mm_i h (B + 21) k ≤ d) && (decide (mm_i h (B + 22) k = -1) || decide (d < mm_i h (B + 22) k)))
def yKn (h : mm_H) (B : Nat) (t d : Int32) (k : Nat) : Bool := decide (mm_i h (B + 111) k = t) && (decide (mm_i h (B + 114) k ≤ d) && decide (d < mm_i h (B + 115) k))
/-- what the weighings below n say -/
def RW2 (B n : Nat) (h : mm_H) : Prop := n ≤ 100 ∧ mm_i h (B + 17) 5 = nI n ∧ mm_i h (B + 66) 61 = nI n ∧ ∀ k, k < n → (mm_i h (B + 19) k = nI (wO h B k) ∧ mm_i h (B + 112) k = nI (wO h B k) ∧ 2 ≤ wO h B k ∧ wO h B k ≤ 100000) ∧ (mm_i h (B + 20) k = nI (wT h B k) ∧ mm_i h (B + 113) k = nI (wT h B k) ∧ 1 ≤ wT h B k ∧ wT h B k ≤ 100000)
theorem q_rng2 {v : Int32} {a b : Nat} (hb : b < 2 ^ 31) (h1 : nI a ≤ v) (h2 : v ≤ nI b) (ha : a < 2 ^ 31) : v = nI v.toNatClampNeg ∧ a ≤ v.toNatClampNeg ∧ v.toNatClampNeg ≤ b := by
  have h0 : ¬ v < 0 := Int32.not_lt.mpr (Int32.le_trans (nI_pos' ha) h1)
  obtain ⟨j, hj, rfl⟩ := nI_of h0
  rw [nI_clamp hj]
  exact ⟨rfl, (nI_leI ha hj).mp h1, (nI_leI hj hb).mp h2⟩
section SQ
variable {B : Nat} {h : mm_H}
theorem RWe_2 (R : RWe B h) : ∃ n, RW2 B n h ∧ ∀ t d : Int32, 0 ≤ d ∧ d ≤ 3999 → ∀ k, k < n → xKn h B t d k = yKn h B t d k := by
  obtain ⟨n, h1, h2, h3, h4⟩ := R
  refine ⟨n, ⟨h1, h2, h3, fun k hk => ?_⟩, fun t d hd k hk => ?_⟩
  · obtain ⟨⟨a1, a2, a3, a4⟩, ⟨b1, b2⟩, ⟨c1, c2⟩, -⟩ := h4 k hk
    have e1 := q_rng2 (a := 2) (b := 100000) (by decide) b1 b2 (by decide)
    have e2 := q_rng2 (a := 1) (b := 100000) (by decide) c1 c2 (by decide)
    have z : wO h B k = (mm_i h (B + 19) k).toNatClampNeg := Nat.max_eq_right e1.2.1
    rw [z]
    exact ⟨⟨e1.1, a2.trans e1.1, e1.2⟩, ⟨e2.1, a3.trans e2.1, e2.2⟩⟩
  · obtain ⟨⟨a1, a2, a3, a4⟩, -, -, a5⟩ := h4 k hk
    unfold xKn yKn
    rw [a1, a4]
    rcases a5 with ⟨a5, a6⟩ | ⟨a5, a6, a7⟩
    · have : d < 100000 := by
        have := hd.2
        rw [Int32.le_iff_toInt_le] at this
        rw [Int32.lt_iff_toInt_lt]
        have e1 : (3999 : Int32).toInt = 3999 := by decide
        have e2 : (100000 : Int32).toInt = 100000 := by decide
        omega
      simp [a5, a6, this]
    · have : ¬ mm_i h (B + 22) k = -1 := fun z => absurd (z ▸ a5) (by decide)
      simp [a7, this]
variable {n : Nat}
theorem x_isKnown (S : mS B h) (R : RW2 B n h) {k : Nat} (hk : k < n) (t d : Int32) : fX8_isKnown (B + 17) (nI k) t d h = some (if xKn h B t d k then 1 else 0, h) := by
  have hn := R.1
  unfold fX8_isKnown
  have hx := fun (β : Type) (z : Option β) => q_ckx (show k < 100 by omega) (by decide) z
  have hc := nI_clamp (n := k) (by omega)
  simp only [q_rf, q_lt, q_cl, q_jn, q_b, q_b1, q_ck, kd_I, kd_J, kd_R, n_I, n_J, n_R, r_I, r_J, c_I, c_J, c_R, i_J, i_R, j_I, j_R, y_in, y_isDay, x_within, x_isDay, x_isTown, sb_xmeas S, hx, hc, xKn]
  by_cases h1 : mm_i h (B + 18) k = t <;> by_cases h2 : d < mm_i h (B + 21) k <;> by_cases h3 : mm_i h (B + 22) k = -1 <;> by_cases h4 : mm_i h (B + 22) k ≤ d <;> simp [h1, h2, h3, h4, Int32.not_le.mpr, Int32.not_lt.mp, Int32.not_lt.mpr, Int32.not_le.mp]
theorem x_isW (S : mS B h) (R : RW2 B n h) {k : Nat} (hk : k < n) : fX8_isWeighing (B + 17) (nI k) h = some (1, h) := by
  have hn := R.1
  unfold fX8_isWeighing
  simp only [q_rf, q_lt, q_cl, q_jn, q_b, q_b1, q_ck, kd_I, kd_J, kd_R, n_I, n_J, n_R, r_I, r_J, c_I, c_J, c_R, i_J, i_R, j_I, j_R, y_in, y_isDay, x_within, x_isDay, x_isTown, sb_xmeas S, R.2.1]
  rw [if_neg (nI_pos (by omega)), if_neg (nI_ge hk (by omega))]
theorem x_isW0 (S : mS B h) : fX8_isWeighing (B + 17) (-1) h = some (0, h) := by
  unfold fX8_isWeighing
  rw [if_pos (by decide)]
theorem x_lowerAbove (S : mS B h) (R : RW2 B n h) {k : Nat} (hk : k < n) : fX8_lowerAbove (B + 17) (nI k) h = some (nI (wT h B k - 1), h) := by
  have hn := R.1
  unfold fX8_lowerAbove
  have hx := fun (β : Type) (z : Option β) => q_ckx (show k < 100 by omega) (by decide) z
  have hc := nI_clamp (n := k) (by omega)
  obtain ⟨-, e, e1, e2, e3⟩ := R.2.2.2 k hk
  obtain ⟨m, hm⟩ : ∃ m, wT h B k = m + 1 := ⟨wT h B k - 1, by omega⟩
  simp only [q_rf, q_lt, q_cl, q_jn, q_b, q_b1, q_ck, kd_I, kd_J, kd_R, n_I, n_J, n_R, r_I, r_J, c_I, c_J, c_R, i_J, i_R, j_I, j_R, y_in, y_isDay, x_within, x_isDay, x_isTown, sb_xmeas S, hx, hc, x_isW S R hk, q_10, if_false, e, hm, nI_pred, Nat.add_sub_cancel]
theorem x_lowerBelow (S : mS B h) (R : RW2 B n h) {k : Nat} (hk : k < n) : fX8_lowerBelow (B + 17) (nI k) h = some (nI (wO h B k + 1), h) := by
  have hn := R.1
  unfold fX8_lowerBelow
  have hx := fun (β : Type) (z : Option β) => q_ckx (show k < 100 by omega) (by decide) z
  have hc := nI_clamp (n := k) (by omega)
  obtain ⟨⟨e, e1, e2, e3⟩, -⟩ := R.2.2.2 k hk
  simp only [q_rf, q_lt, q_cl, q_jn, q_b, q_b1, q_ck, kd_I, kd_J, kd_R, n_I, n_J, n_R, r_I, r_J, c_I, c_J, c_R, i_J, i_R, j_I, j_R, y_in, y_isDay, x_within, x_isDay, x_isTown, sb_xmeas S, hx, hc, x_isW S R hk, q_10, if_false, e, nI_1]
theorem x_upperAbove (S : mS B h) (R : RW2 B n h) {k : Nat} (hk : k < n) : fX8_upperAbove (B + 17) (nI k) h = some (nI (wT h B k + 1), h) := by
  have hn := R.1
  unfold fX8_upperAbove
  have hx := fun (β : Type) (z : Option β) => q_ckx (show k < 100 by omega) (by decide) z
  have hc := nI_clamp (n := k) (by omega)
  obtain ⟨-, e, e1, e2, e3⟩ := R.2.2.2 k hk
  simp only [q_rf, q_lt, q_cl, q_jn, q_b, q_b1, q_ck, kd_I, kd_J, kd_R, n_I, n_J, n_R, r_I, r_J, c_I, c_J, c_R, i_J, i_R, j_I, j_R, y_in, y_isDay, x_within, x_isDay, x_isTown, sb_xmeas S, hx, hc, x_isW S R hk, q_10, if_false, e, nI_1]
theorem x_upperBelow (S : mS B h) (R : RW2 B n h) {k : Nat} (hk : k < n) : fX8_upperBelow (B + 17) (nI k) h = some (nI (wO h B k - 1), h) := by
  have hn := R.1
  unfold fX8_upperBelow
  have hx := fun (β : Type) (z : Option β) => q_ckx (show k < 100 by omega) (by decide) z
  have hc := nI_clamp (n := k) (by omega)
  obtain ⟨⟨e, e1, e2, e3⟩, -⟩ := R.2.2.2 k hk
  obtain ⟨m, hm⟩ : ∃ m, wO h B k = m + 1 := ⟨wO h B k - 1, by omega⟩
  simp only [q_rf, q_lt, q_cl, q_jn, q_b, q_b1, q_ck, kd_I, kd_J, kd_R, n_I, n_J, n_R, r_I, r_J, c_I, c_J, c_R, i_J, i_R, j_I, j_R, y_in, y_isDay, x_within, x_isDay, x_isTown, sb_xmeas S, hx, hc, x_isW S R hk, q_10, if_false, e, hm, nI_pred, Nat.add_sub_cancel]
theorem x_lowerExceeds (S : mS B h) (R : RW2 B n h) {k f : Nat} (hk : k < n) (hf : f < n) : fX8_lowerExceeds (B + 17) (nI k) (nI f) h = some (if g_lx (wO h B) (wT h B) k f then 1 else 0, h) := by
  obtain ⟨⟨-, -, a1, a2⟩, -, -, a3, a4⟩ := R.2.2.2 k hk
  obtain ⟨⟨-, -, b1, b2⟩, -, -, b3, b4⟩ := R.2.2.2 f hf
  unfold fX8_lowerExceeds
  simp only [q_rf, q_lt, q_cl, q_jn, q_b, q_b1, q_ck, kd_I, kd_J, kd_R, n_I, n_J, n_R, r_I, r_J, c_I, c_J, c_R, i_J, i_R, j_I, j_R, y_in, y_isDay, x_within, x_isDay, x_isTown, sb_xmeas S, x_lowerAbove S R hk, x_lowerAbove S R hf, x_lowerBelow S R hk, x_lowerBelow S R hf]
  rw [nI_l (by omega), nI_l (by omega), nI_l (by omega), nI_l (by omega)]
  simp only [q_cmpm (show wT h B k - 1 < 2 ^ 30 by omega) (show wO h B f + 1 < 2 ^ 30 by omega) (show wT h B f - 1 < 2 ^ 30 by omega) (show wO h B k + 1 < 2 ^ 30 by omega), g_lx, decide_eq_true_eq]
  by_cases e : (wT h B k - 1) * (wO h B f + 1) ≤ (wT h B f - 1) * (wO h B k + 1)
  · rw [if_pos e, if_neg (by omega)]
  · rw [if_neg e, if_pos (by omega)]
theorem x_upperExceeds (S : mS B h) (R : RW2 B n h) {k f : Nat} (hk : k < n) (hf : f < n) : fX8_upperExceeds (B + 17) (nI f) (nI k) h = some (if g_ux (wO h B) (wT h B) k f then 1 else 0, h) := by
  obtain ⟨⟨-, -, a1, a2⟩, -, -, a3, a4⟩ := R.2.2.2 k hk
  obtain ⟨⟨-, -, b1, b2⟩, -, -, b3, b4⟩ := R.2.2.2 f hf
  unfold fX8_upperExceeds
  simp only [q_rf, q_lt, q_cl, q_jn, q_b, q_b1, q_ck, kd_I, kd_J, kd_R, n_I, n_J, n_R, r_I, r_J, c_I, c_J, c_R, i_J, i_R, j_I, j_R, y_in, y_isDay, x_within, x_isDay, x_isTown, sb_xmeas S, x_upperAbove S R hk, x_upperAbove S R hf, x_upperBelow S R hk, x_upperBelow S R hf]
  rw [nI_l (by omega), nI_l (by omega), nI_l (by omega), nI_l (by omega)]
  simp only [q_cmpm (show wT h B f + 1 < 2 ^ 30 by omega) (show wO h B k - 1 < 2 ^ 30 by omega) (show wT h B k + 1 < 2 ^ 30 by omega) (show wO h B f - 1 < 2 ^ 30 by omega), g_ux, decide_eq_true_eq]
  by_cases e : (wT h B f + 1) * (wO h B k - 1) ≤ (wT h B k + 1) * (wO h B f - 1)
  · rw [if_pos e, if_neg (by omega)]
  · rw [if_neg e, if_pos (by omega)]
theorem x_liesAbove (S : mS B h) (R : RW2 B n h) {v w : Nat} (hk : v < n) (hf : w < n) : fX8_liesAbove (B + 17) (nI v) (nI w) h = some (if g_bar (wO h B) (wT h B) v w then 1 else 0, h) := by
  obtain ⟨⟨-, -, a1, a2⟩, -, -, a3, a4⟩ := R.2.2.2 v hk
  obtain ⟨⟨-, -, b1, b2⟩, -, -, b3, b4⟩ := R.2.2.2 w hf
  unfold fX8_liesAbove
  simp only [q_rf, q_lt, q_cl, q_jn, q_b, q_b1, q_ck, kd_I, kd_J, kd_R, n_I, n_J, n_R, r_I, r_J, c_I, c_J, c_R, i_J, i_R, j_I, j_R, y_in, y_isDay, x_within, x_isDay, x_isTown, sb_xmeas S, x_lowerAbove S R hk, x_lowerBelow S R hk, x_upperAbove S R hf, x_upperBelow S R hf]
  rw [nI_l (by omega), nI_l (by omega), nI_l (by omega), nI_l (by omega)]
  simp only [q_cmpm (show wT h B v - 1 < 2 ^ 30 by omega) (show wO h B w - 1 < 2 ^ 30 by omega) (show wT h B w + 1 < 2 ^ 30 by omega) (show wO h B v + 1 < 2 ^ 30 by omega), g_bar, decide_eq_true_eq]
  by_cases e : (wT h B v - 1) * (wO h B w - 1) ≤ (wT h B w + 1) * (wO h B v + 1)
  · rw [if_pos e, if_neg (by omega)]
  · rw [if_neg e, if_pos (by omega)]
theorem y_holds (S : mS B h) (R : RW2 B n h) {k : Nat} (hk : k < n) (t d : Int32) : fX12_holds (B + 66) (nI k) t d h = some (if yKn h B t d k then 1 else 0, h) := by
  have hn := R.1
  unfold fX12_holds
  have hx := fun (β : Type) (z : Option β) => q_ckx (show k < 100 by omega) (by decide) z
  have hc := nI_clamp (n := k) (by omega)
  simp only [q_rf, q_lt, q_cl, q_jn, q_b, q_b1, q_ck, kd_I, kd_J, kd_R, n_I, n_J, n_R, r_I, r_J, c_I, c_J, c_R, i_J, i_R, j_I, j_R, y_in, y_isDay, x_within, x_isDay, x_isTown, sb_yweigh S, hx, hc, yKn]
  by_cases h1 : mm_i h (B + 111) k = t <;> by_cases h2 : d < mm_i h (B + 114) k <;> by_cases h4 : mm_i h (B + 115) k ≤ d <;> simp [h1, h2, h4, Int32.not_le.mpr, Int32.not_lt.mp, Int32.not_lt.mpr, Int32.not_le.mp]
theorem y_bars (S : mS B h) (R : RW2 B n h) {v w : Nat} (hv : v < n) (hw : w < n) : fX12_bars (B + 66) (nI v) (nI w) h = some (if g_bar (wO h B) (wT h B) v w then 1 else 0, h) := by
  have hn := R.1
  unfold fX12_bars
  have hx := fun (β : Type) (z : Option β) => q_ckx (show v < 100 by omega) (by decide) z
  have hc := nI_clamp (n := v) (by omega)
  have hx2 := fun (β : Type) (z : Option β) => q_ckx (show w < 100 by omega) (by decide) z
  have hc2 := nI_clamp (n := w) (by omega)
  obtain ⟨⟨-, o1, a1, a2⟩, -, t1, a3, a4⟩ := R.2.2.2 v hv
  obtain ⟨⟨-, o2, b1, b2⟩, -, t2, b3, b4⟩ := R.2.2.2 w hw
  simp only [q_rf, q_lt, q_cl, q_jn, q_b, q_b1, q_ck, kd_I, kd_J, kd_R, n_I, n_J, n_R, r_I, r_J, c_I, c_J, c_R, i_J, i_R, j_I, j_R, y_in, y_isDay, x_within, x_isDay, x_isTown, sb_yweigh S, hx, hc, hx2, hc2, o1, o2, t1, t2, nI_1]
  obtain ⟨p, hp⟩ : ∃ m, wT h B v = m + 1 := ⟨wT h B v - 1, by omega⟩
  obtain ⟨q, hq⟩ : ∃ m, wO h B w = m + 1 := ⟨wO h B w - 1, by omega⟩
  simp only [hp, hq, nI_pred, g_bar, Nat.add_sub_cancel, decide_eq_true_eq]
  rw [nI_l (by omega), nI_l (by omega), nI_l (by omega), nI_l (by omega)]
  simp only [q_cmpm (show p < 2 ^ 30 by omega) (show q < 2 ^ 30 by omega) (show wT h B w + 1 < 2 ^ 30 by omega) (show wO h B v + 1 < 2 ^ 30 by omega)]
  by_cases e : p * q ≤ (wT h B w + 1) * (wO h B v + 1)
  · rw [if_pos e, if_neg (by omega)]
  · rw [if_neg e, if_pos (by omega)]
/-! the loops of the class -/
theorem oI_ne {k : Nat} (hk : k < 2 ^ 31) : ¬ nI k = -1 := fun z => absurd (z ▸ nI_pos' hk) (by decide)
theorem x_greatestLower_L5 (S : mS B h) (R : RW2 B n h) (t d : Int32) (K : Int32 → mm_H → Option (Int32 × mm_H)) : ∀ (e i fuel : Nat), i + e = n → e < fuel → fX8_greatestLower_L5 (B + 17) t d K fuel (oI (bestF (xKn h B t d) (g_lx (wO h B) (wT h B)) i)) (nI i) h = K (oI (bestF (xKn h B t d) (g_lx (wO h B) (wT h B)) n)) h := by
  have hn2 := R.1
  have hn := R.2.1
  intro e
  induction e with
  | zero =>
    intro i fuel hi hf
    obtain ⟨f, rfl⟩ : ∃ f, fuel = f + 1 := ⟨fuel - 1, by omega⟩
    show fX8_greatestLower_L5_b _ _ _ _ _ _ _ _ = _
    unfold fX8_greatestLower_L5_b
    simp only [q_rf, q_lt, q_cl, q_jn, q_b, q_b1, q_ck, kd_I, kd_J, kd_R, n_I, n_J, n_R, r_I, r_J, c_I, c_J, c_R, i_J, i_R, j_I, j_R, y_in, y_isDay, x_within, x_isDay, x_isTown, sb_xmeas S, hn]
    rw [if_pos (by rw [show i = n by omega]; exact Int32.le_refl _), show i = n by omega]
  | succ e ih =>
    intro i fuel hi hf
    obtain ⟨f, rfl⟩ : ∃ f, fuel = f + 1 := ⟨fuel - 1, by omega⟩
    show fX8_greatestLower_L5_b _ _ _ _ _ _ _ _ = _
    unfold fX8_greatestLower_L5_b
    have ih' := ih (i + 1) f (by omega) (by omega)
    simp only [q_rf, q_lt, q_cl, q_jn, q_b, q_b1, q_ck, kd_I, kd_J, kd_R, n_I, n_J, n_R, r_I, r_J, c_I, c_J, c_R, i_J, i_R, j_I, j_R, y_in, y_isDay, x_within, x_isDay, x_isTown, sb_xmeas S, hn, nI_1, x_isKnown S R (show i < n by omega)]
    rw [if_neg (nI_ge (by omega) (by omega))]
    simp only [bestF] at ih'
    cases hk : xKn h B t d i with
    | false => simpa [hk] using ih'
    | true =>
      cases hb : bestF (xKn h B t d) (g_lx (wO h B) (wT h B)) i with
      | none => simpa [hk, btN, hb, oI] using ih'
      | some g =>
        have hg := bestF_lt hb
        simp only [oI, oI_ne (show g < 2 ^ 31 by omega), x_lowerExceeds S R (show i < n by omega) (show g < n by omega), q_rf, q_lt, q_cl, q_jn, q_b, q_b1, q_ck, kd_I, kd_J, kd_R, n_I, n_J, n_R, r_I, r_J, c_I, c_J, c_R, i_J, i_R, j_I, j_R, y_in, y_isDay, x_within, x_isDay, x_isTown]
        cases hx : g_lx (wO h B) (wT h B) i g <;> simpa [hk, btN, hb, hx, oI] using ih'
end SQ
