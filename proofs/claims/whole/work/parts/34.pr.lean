section PR
variable {B : Nat} {h : mm_H}
theorem nI_m1 (n : Nat) : nI n + (-1 : Int32) = nI n - 1 := (Int32.sub_eq_add_neg _ _).symm
theorem y_price_L45 (S : mS B h) {n : Nat} (hn : mm_i h (B + 66) 77 = nI n) (hn2 : n ≤ 200) (t g d w : Int32) (K : Int32 → mm_H → Option (Int32 × mm_H)) : ∀ (e i fuel : Nat) (acc : Int32), i + e = n → e < fuel → fX12_price_L45 (B + 66) t g d w K fuel acc (nI i) h = K (fwdF (yNe h B t g d) (fun k => if w = 0 then mm_i h (B + 123) k else mm_i h (B + 124) k) e i acc) h := by
  intro e
  induction e with
  | zero =>
    intro i fuel acc hi hf
    obtain ⟨f, rfl⟩ : ∃ f, fuel = f + 1 := ⟨fuel - 1, by omega⟩
    show fX12_price_L45_b _ _ _ _ _ _ _ _ _ _ = _
    unfold fX12_price_L45_b
    simp only [q_rf, q_lt, q_cl, q_jn, q_b, q_b1, q_ck, kd_I, kd_J, kd_R, n_I, n_J, n_R, r_I, r_J, c_I, c_J, c_R, i_J, i_R, j_I, j_R, y_in, y_isDay, x_within, x_isDay, x_isTown, sb_yships S, hn]
    rw [if_pos (by rw [show i = n by omega]; exact Int32.le_refl _)]
    rfl
  | succ e ih =>
    intro i fuel acc hi hf
    obtain ⟨f, rfl⟩ : ∃ f, fuel = f + 1 := ⟨fuel - 1, by omega⟩
    show fX12_price_L45_b _ _ _ _ _ _ _ _ _ _ = _
    unfold fX12_price_L45_b
    have hx := fun (β : Type) (k : Option β) => q_ckx (show i < 200 by omega) (by decide) k
    have hc := nI_clamp (n := i) (by omega)
    simp only [q_rf, q_lt, q_cl, q_jn, q_b, q_b1, q_ck, kd_I, kd_J, kd_R, n_I, n_J, n_R, r_I, r_J, c_I, c_J, c_R, i_J, i_R, j_I, j_R, y_in, y_isDay, x_within, x_isDay, x_isTown, sb_yships S, hn, hx, nI_1, hc, ih (i + 1) f _ (by omega) (by omega)]
    rw [if_neg (nI_ge (by omega) (by omega))]
    simp only [fwdF, yNe]
    by_cases h1 : mm_i h (B + 121) i = t <;> by_cases h2 : mm_i h (B + 122) i = g <;> by_cases h3 : d < mm_i h (B + 125) i <;> by_cases h4 : w = 0 <;> simp [h1, h2, h3, h4, Int32.not_le.mpr, Int32.not_lt.mp]
theorem x_latestNews_L8 (S : mS B h) {n : Nat} (hn2 : n ≤ 200) (t g d : Int32) (K : mm_H → Option (Int32 × mm_H)) : ∀ (m fuel : Nat), m ≤ n → m < fuel → fX10_latestNews_L8 (B + 23) t g d K fuel (nI m - 1) h = match lastF (xNe h B t g d) m with
    | none => K h
    | some k => some (nI k, h) := by
  intro m
  induction m with
  | zero =>
    intro fuel hi hf
    obtain ⟨f, rfl⟩ : ∃ f, fuel = f + 1 := ⟨fuel - 1, by omega⟩
    show fX10_latestNews_L8_b _ _ _ _ _ _ _ _ = _
    unfold fX10_latestNews_L8_b
    rw [if_pos (by decide)]
    rfl
  | succ m ih =>
    intro fuel hi hf
    obtain ⟨f, rfl⟩ : ∃ f, fuel = f + 1 := ⟨fuel - 1, by omega⟩
    show fX10_latestNews_L8_b _ _ _ _ _ _ _ _ = _
    unfold fX10_latestNews_L8_b
    have hx := fun (β : Type) (k : Option β) => q_ckx (show m < 200 by omega) (by decide) k
    have hc := nI_clamp (n := m) (by omega)
    rw [nI_pred, if_neg (nI_pos (by omega))]
    simp only [q_rf, q_lt, q_cl, q_jn, q_b, q_b1, q_ck, kd_I, kd_J, kd_R, n_I, n_J, n_R, r_I, r_J, c_I, c_J, c_R, i_J, i_R, j_I, j_R, y_in, y_isDay, x_within, x_isDay, x_isTown, sb_xsea S, hx, hc, nI_m1, ih f (by omega) (by omega)]
    simp only [lastF, xNe]
    by_cases h1 : mm_i h (B + 28) m = t <;> by_cases h2 : mm_i h (B + 29) m = g <;> by_cases h3 : d < mm_i h (B + 32) m <;> simp [h1, h2, h3, Int32.not_le.mpr, Int32.not_lt.mp]
/-- the price that NEWS tell -/
def prF (h : mm_H) (B n c : Nat) (t g d : Int32) : Int32 := match lastF (yNe h B t g d) n with
  | none => 0
  | some k => mm_i h (B + c) k
theorem xy_ne (R : RNe B h) {n : Nat} (hn : mm_i h (B + 66) 77 = nI n) (hn2 : n ≤ 200) (t g d : Int32) : lastF (xNe h B t g d) n = lastF (yNe h B t g d) n := by
  obtain ⟨n', h1, h2, h3, h4⟩ := R
  have e : n = n' := (nI_eq (by omega) (by omega)).mp (hn.symm.trans h3)
  subst e
  refine lastF_congr fun j hj => ?_
  obtain ⟨⟨a1, a2, a3, a4, a5⟩, -⟩ := h4 j hj
  unfold yNe xNe
  rw [a1, a2, a5]
theorem x_latestNews (S : mS B h) (R : RNe B h) {n : Nat} (hn : mm_i h (B + 66) 77 = nI n) (hn2 : n ≤ 200) (t g d : Int32) : fX10_latestNews (B + 23) t g d h = some ((match lastF (yNe h B t g d) n with
    | none => -1
    | some k => nI k), h) := by
  have hx : mm_i h (B + 23) 10 = nI n := by
    obtain ⟨n', h1, h2, h3, h4⟩ := R
    rw [h2, ← h3, hn]
  unfold fX10_latestNews
  simp only [q_rf, q_lt, q_cl, q_jn, q_b, q_b1, q_ck, kd_I, kd_J, kd_R, n_I, n_J, n_R, r_I, r_J, c_I, c_J, c_R, i_J, i_R, j_I, j_R, y_in, y_isDay, x_within, x_isDay, x_isTown, sb_xsea S, hx]
  rw [x_latestNews_L8 S hn2 t g d _ n mm_F (Nat.le_refl _) (by unfold mm_F; omega), xy_ne R hn hn2]
  cases lastF (yNe h B t g d) n <;> rfl
theorem x_lowPrice (S : mS B h) (R : RNe B h) {n : Nat} (hn : mm_i h (B + 66) 77 = nI n) (hn2 : n ≤ 200) (t g d : Int32) : fX10_lowPrice (B + 23) t g d h = some (prF h B n 123 t g d, h) := by
  unfold fX10_lowPrice prF
  simp only [q_rf, q_lt, q_cl, q_jn, q_b, q_b1, q_ck, kd_I, kd_J, kd_R, n_I, n_J, n_R, r_I, r_J, c_I, c_J, c_R, i_J, i_R, j_I, j_R, y_in, y_isDay, x_within, x_isDay, x_isTown, sb_xsea S, x_latestNews S R hn hn2]
  cases hk : lastF (yNe h B t g d) n with
  | none => simp only [q_10, q_01, eq_self, i_I, Nat.reduceEqDiff, Nat.add_left_cancel_iff, Nat.add_eq_left, Nat.left_eq_add, and_false, false_and, and_true, true_and, if_true, if_false, and_self, not_true, not_false_iff, reduceCtorEq]
  | some k =>
    have hl := lastF_lt hk
    have hx := fun (β : Type) (z : Option β) => q_ckx (show k < 200 by omega) (by decide) z
    have hc := nI_clamp (n := k) (by omega)
    have h1 : ¬ nI k = -1 := fun z => absurd (z ▸ nI_pos' (n := k) (by omega)) (by decide)
    obtain ⟨n', r1, r2, r3, r4⟩ := R
    have e : n = n' := (nI_eq (by omega) (by omega)).mp (hn.symm.trans r3)
    subst e
    simp only [hx, hc, h1, q_10, q_01, eq_self, i_I, Nat.reduceEqDiff, Nat.add_left_cancel_iff, Nat.add_eq_left, Nat.left_eq_add, and_false, false_and, and_true, true_and, if_true, if_false, and_self, not_true, not_false_iff, reduceCtorEq, (r4 k hl).1.2.2.1]
theorem x_highPrice (S : mS B h) (R : RNe B h) {n : Nat} (hn : mm_i h (B + 66) 77 = nI n) (hn2 : n ≤ 200) (t g d : Int32) : fX10_highPrice (B + 23) t g d h = some (prF h B n 124 t g d, h) := by
  unfold fX10_highPrice prF
  simp only [q_rf, q_lt, q_cl, q_jn, q_b, q_b1, q_ck, kd_I, kd_J, kd_R, n_I, n_J, n_R, r_I, r_J, c_I, c_J, c_R, i_J, i_R, j_I, j_R, y_in, y_isDay, x_within, x_isDay, x_isTown, sb_xsea S, x_latestNews S R hn hn2]
  cases hk : lastF (yNe h B t g d) n with
  | none => simp only [q_10, q_01, eq_self, i_I, Nat.reduceEqDiff, Nat.add_left_cancel_iff, Nat.add_eq_left, Nat.left_eq_add, and_false, false_and, and_true, true_and, if_true, if_false, and_self, not_true, not_false_iff, reduceCtorEq]
  | some k =>
    have hl := lastF_lt hk
    have hx := fun (β : Type) (z : Option β) => q_ckx (show k < 200 by omega) (by decide) z
    have hc := nI_clamp (n := k) (by omega)
    have h1 : ¬ nI k = -1 := fun z => absurd (z ▸ nI_pos' (n := k) (by omega)) (by decide)
    obtain ⟨n', r1, r2, r3, r4⟩ := R
    have e : n = n' := (nI_eq (by omega) (by omega)).mp (hn.symm.trans r3)
    subst e
    simp only [hx, hc, h1, q_10, q_01, eq_self, i_I, Nat.reduceEqDiff, Nat.add_left_cancel_iff, Nat.add_eq_left, Nat.left_eq_add, and_false, false_and, and_true, true_and, if_true, if_false, and_self, not_true, not_false_iff, reduceCtorEq, (r4 k hl).1.2.2.2.1]
theorem y_price (S : mS B h) {n : Nat} (hn : mm_i h (B + 66) 77 = nI n) (hn2 : n ≤ 200) {t g d w : Int32} (c1 : 0 ≤ t ∧ t ≤ 8) (c2 : 0 ≤ g ∧ g ≤ 7) (c3 : 0 ≤ d ∧ d ≤ 3999) (c4 : 0 ≤ w ∧ w ≤ 1) : fX12_price (B + 66) t g d w h = some (prF h B n (if w = 0 then 123 else 124) t g d, h) := by
  unfold fX12_price
  simp only [c1, c2, c3, c4, q_rf, q_lt, q_cl, q_jn, q_b, q_b1, q_ck, kd_I, kd_J, kd_R, n_I, n_J, n_R, r_I, r_J, c_I, c_J, c_R, i_J, i_R, j_I, j_R, y_in, y_isDay, x_within, x_isDay, x_isTown, q_10, q_01, eq_self, i_I, Nat.reduceEqDiff, Nat.add_left_cancel_iff, Nat.add_eq_left, Nat.left_eq_add, and_false, false_and, and_true, true_and, if_true, if_false, and_self, not_true, not_false_iff, reduceCtorEq]
  rw [← nI_0, y_price_L45 S hn hn2 t g d w _ n 0 mm_F _ (by omega) (by unfold mm_F; omega), fwdF_last]
  unfold prF
  simp only [Nat.zero_add]
  cases lastF (yNe h B t g d) n with
  | none => rfl
  | some k => by_cases e : w = 0 <;> simp [e, nI_0]
theorem T_price (S : mS B h) (R : RNe B h) (a b c d : Int32) : ∃ r, fX11_price B a b c d h = some (r, h) ∧ fX12_price (B + 66) a b c d h = some (r, h) := by
  obtain ⟨n, h1, h2, h3, h4⟩ := id R
  by_cases c1 : 0 ≤ a ∧ a ≤ 8
  case neg => exact ⟨-1, by unfold fX11_price; simp only [c1, q_rf, q_lt, q_cl, q_jn, q_b, q_b1, q_ck, kd_I, kd_J, kd_R, n_I, n_J, n_R, r_I, r_J, c_I, c_J, c_R, i_J, i_R, j_I, j_R, y_in, y_isDay, x_within, x_isDay, x_isTown, q_10, q_01, eq_self, i_I, Nat.reduceEqDiff, Nat.add_left_cancel_iff, Nat.add_eq_left, Nat.left_eq_add, and_false, false_and, and_true, true_and, if_true, if_false, and_self, not_true, not_false_iff, reduceCtorEq], by unfold fX12_price; simp only [c1, q_rf, q_lt, q_cl, q_jn, q_b, q_b1, q_ck, kd_I, kd_J, kd_R, n_I, n_J, n_R, r_I, r_J, c_I, c_J, c_R, i_J, i_R, j_I, j_R, y_in, y_isDay, x_within, x_isDay, x_isTown, q_10, q_01, eq_self, i_I, Nat.reduceEqDiff, Nat.add_left_cancel_iff, Nat.add_eq_left, Nat.left_eq_add, and_false, false_and, and_true, true_and, if_true, if_false, and_self, not_true, not_false_iff, reduceCtorEq]⟩
  by_cases c2 : 0 ≤ b ∧ b ≤ 7
  case neg => exact ⟨-1, by unfold fX11_price; simp only [c1, c2, x_isKind, q_rf, q_lt, q_cl, q_jn, q_b, q_b1, q_ck, kd_I, kd_J, kd_R, n_I, n_J, n_R, r_I, r_J, c_I, c_J, c_R, i_J, i_R, j_I, j_R, y_in, y_isDay, x_within, x_isDay, x_isTown, q_10, q_01, eq_self, i_I, Nat.reduceEqDiff, Nat.add_left_cancel_iff, Nat.add_eq_left, Nat.left_eq_add, and_false, false_and, and_true, true_and, if_true, if_false, and_self, not_true, not_false_iff, reduceCtorEq], by unfold fX12_price; simp only [c1, c2, q_rf, q_lt, q_cl, q_jn, q_b, q_b1, q_ck, kd_I, kd_J, kd_R, n_I, n_J, n_R, r_I, r_J, c_I, c_J, c_R, i_J, i_R, j_I, j_R, y_in, y_isDay, x_within, x_isDay, x_isTown, q_10, q_01, eq_self, i_I, Nat.reduceEqDiff, Nat.add_left_cancel_iff, Nat.add_eq_left, Nat.left_eq_add, and_false, false_and, and_true, true_and, if_true, if_false, and_self, not_true, not_false_iff, reduceCtorEq]⟩
  by_cases c3 : 0 ≤ c ∧ c ≤ 3999
  case neg => exact ⟨-1, by unfold fX11_price; simp only [c1, c2, c3, x_isKind, q_rf, q_lt, q_cl, q_jn, q_b, q_b1, q_ck, kd_I, kd_J, kd_R, n_I, n_J, n_R, r_I, r_J, c_I, c_J, c_R, i_J, i_R, j_I, j_R, y_in, y_isDay, x_within, x_isDay, x_isTown, q_10, q_01, eq_self, i_I, Nat.reduceEqDiff, Nat.add_left_cancel_iff, Nat.add_eq_left, Nat.left_eq_add, and_false, false_and, and_true, true_and, if_true, if_false, and_self, not_true, not_false_iff, reduceCtorEq], by unfold fX12_price; simp only [c1, c2, c3, q_rf, q_lt, q_cl, q_jn, q_b, q_b1, q_ck, kd_I, kd_J, kd_R, n_I, n_J, n_R, r_I, r_J, c_I, c_J, c_R, i_J, i_R, j_I, j_R, y_in, y_isDay, x_within, x_isDay, x_isTown, q_10, q_01, eq_self, i_I, Nat.reduceEqDiff, Nat.add_left_cancel_iff, Nat.add_eq_left, Nat.left_eq_add, and_false, false_and, and_true, true_and, if_true, if_false, and_self, not_true, not_false_iff, reduceCtorEq]⟩
  by_cases c4 : 0 ≤ d ∧ d ≤ 1
  case neg => exact ⟨-1, by unfold fX11_price; simp only [c1, c2, c3, c4, x_isKind, q_rf, q_lt, q_cl, q_jn, q_b, q_b1, q_ck, kd_I, kd_J, kd_R, n_I, n_J, n_R, r_I, r_J, c_I, c_J, c_R, i_J, i_R, j_I, j_R, y_in, y_isDay, x_within, x_isDay, x_isTown, q_10, q_01, eq_self, i_I, Nat.reduceEqDiff, Nat.add_left_cancel_iff, Nat.add_eq_left, Nat.left_eq_add, and_false, false_and, and_true, true_and, if_true, if_false, and_self, not_true, not_false_iff, reduceCtorEq], by unfold fX12_price; simp only [c1, c2, c3, c4, q_rf, q_lt, q_cl, q_jn, q_b, q_b1, q_ck, kd_I, kd_J, kd_R, n_I, n_J, n_R, r_I, r_J, c_I, c_J, c_R, i_J, i_R, j_I, j_R, y_in, y_isDay, x_within, x_isDay, x_isTown, q_10, q_01, eq_self, i_I, Nat.reduceEqDiff, Nat.add_left_cancel_iff, Nat.add_eq_left, Nat.left_eq_add, and_false, false_and, and_true, true_and, if_true, if_false, and_self, not_true, not_false_iff, reduceCtorEq]⟩
  refine ⟨_, ?_, y_price S h3 h1 c1 c2 c3 c4⟩
  unfold fX11_price
  by_cases e : d = 0
  · subst e
    simp only [c1, c2, c3, c4, x_isKind, q_rf, q_lt, q_cl, q_jn, q_b, q_b1, q_ck, kd_I, kd_J, kd_R, n_I, n_J, n_R, r_I, r_J, c_I, c_J, c_R, i_J, i_R, j_I, j_R, y_in, y_isDay, x_within, x_isDay, x_isTown, q_10, q_01, eq_self, i_I, Nat.reduceEqDiff, Nat.add_left_cancel_iff, Nat.add_eq_left, Nat.left_eq_add, and_false, false_and, and_true, true_and, if_true, if_false, and_self, not_true, not_false_iff, reduceCtorEq, sb_xsea S, x_lowPrice S R h3 h1]
  · simp only [c1, c2, c3, c4, e, x_isKind, q_rf, q_lt, q_cl, q_jn, q_b, q_b1, q_ck, kd_I, kd_J, kd_R, n_I, n_J, n_R, r_I, r_J, c_I, c_J, c_R, i_J, i_R, j_I, j_R, y_in, y_isDay, x_within, x_isDay, x_isTown, q_10, q_01, eq_self, i_I, Nat.reduceEqDiff, Nat.add_left_cancel_iff, Nat.add_eq_left, Nat.left_eq_add, and_false, false_and, and_true, true_and, if_true, if_false, and_self, not_true, not_false_iff, reduceCtorEq, sb_xsea S, x_highPrice S R h3 h1]
end PR
