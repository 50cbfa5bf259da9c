def xCov (h : mm_H) (B : Nat) (t d : Int32) (k : Nat) : Bool := decide (mm_i h (B + 33) k = t) && (decide (mm_i h (B + 34) k ≤ d) && decide (d ≤ mm_i h (B + 35) k))
def xShut (h : mm_H) (B : Nat) (t d r : Int32) (k : Nat) : Bool := xCov h B t d k && (!decide (mm_i h (B + 36) k = -1) && decide (mm_i h (B + 36) k ≤ r))
def wPo (B : Nat) : Nat → Nat → Prop := fun a k => (a = B + 23 ∧ k = 15) ∨ (a = B + 66 ∧ k = 38) ∨ a = B + 33 ∨ a = B + 34 ∨ a = B + 35 ∨ a = B + 36 ∨ a = B + 92 ∨ a = B + 93 ∨ a = B + 94 ∨ a = B + 95
section PP
variable {B : Nat} {h : mm_H}
theorem x_covers (S : mS B h) {i : Nat} (hi : i < 20) (t d : Int32) : fX10_covers (B + 23) (nI i) t d h = some (if xCov h B t d i then 1 else 0, h) := by
  have hx := fun (β : Type) (k : Option β) => q_ckx hi (by decide) k
  have hc := nI_clamp (n := i) (by omega)
  unfold fX10_covers xCov
  simp only [q_rf, q_lt, q_cl, q_jn, q_b, q_b1, q_ck, kd_I, kd_J, kd_R, n_I, n_J, n_R, r_I, r_J, c_I, c_J, c_R, i_J, i_R, j_I, j_R, y_in, y_isDay, x_within, x_isDay, x_isTown, sb_xsea S, hx, hc]
  by_cases h1 : mm_i h (B + 33) i = t <;> by_cases h2 : d < mm_i h (B + 34) i <;> by_cases h3 : mm_i h (B + 35) i < d <;> simp [h1, h2, h3, Int32.not_le.mpr, Int32.not_lt.mp]
theorem x_closedBy_L3 (S : mS B h) {n : Nat} (hn : mm_i h (B + 23) 15 = nI n) (hn2 : n ≤ 20) (t d r : Int32) (K : mm_H → Option (Int32 × mm_H)) : ∀ (e i fuel : Nat), i + e = n → e < fuel → fX10_closedBy_L3 (B + 23) t d r K fuel (nI i) h = if anyF (xShut h B t d r) e i then some (1, h) else K h := by
  intro e
  induction e with
  | zero =>
    intro i fuel hi hf
    obtain ⟨f, rfl⟩ : ∃ f, fuel = f + 1 := ⟨fuel - 1, by omega⟩
    show fX10_closedBy_L3_b _ _ _ _ _ _ _ _ = _
    unfold fX10_closedBy_L3_b
    simp only [q_rf, q_lt, q_cl, q_jn, q_b, q_b1, q_ck, kd_I, kd_J, kd_R, n_I, n_J, n_R, r_I, r_J, c_I, c_J, c_R, i_J, i_R, j_I, j_R, y_in, y_isDay, x_within, x_isDay, x_isTown, sb_xsea S, hn]
    rw [if_pos (by rw [show i = n by omega]; exact Int32.le_refl _)]
    simp [anyF]
  | succ e ih =>
    intro i fuel hi hf
    obtain ⟨f, rfl⟩ : ∃ f, fuel = f + 1 := ⟨fuel - 1, by omega⟩
    show fX10_closedBy_L3_b _ _ _ _ _ _ _ _ = _
    unfold fX10_closedBy_L3_b
    have hx := fun (β : Type) (k : Option β) => q_ckx (show i < 20 by omega) (by decide) k
    have hc := nI_clamp (n := i) (by omega)
    simp only [q_rf, q_lt, q_cl, q_jn, q_b, q_b1, q_ck, kd_I, kd_J, kd_R, n_I, n_J, n_R, r_I, r_J, c_I, c_J, c_R, i_J, i_R, j_I, j_R, y_in, y_isDay, x_within, x_isDay, x_isTown, sb_xsea S, hn, hx, nI_1, hc, x_covers S (show i < 20 by omega), ih (i + 1) f (by omega) (by omega)]
    rw [if_neg (nI_ge (by omega) (by omega))]
    simp only [anyF, xShut]
    by_cases h1 : xCov h B t d i = true <;> by_cases h2 : mm_i h (B + 36) i = -1 <;> by_cases h3 : r < mm_i h (B + 36) i <;> simp [h1, h2, h3, Int32.not_le.mpr, Int32.not_lt.mp]
theorem x_closedBy (S : mS B h) {n : Nat} (hn : mm_i h (B + 23) 15 = nI n) (hn2 : n ≤ 20) (t d r : Int32) : fX10_closedBy (B + 23) t d r h = some (if anyF (xShut h B t d r) n 0 then 1 else 0, h) := by
  unfold fX10_closedBy
  rw [← nI_0, x_closedBy_L3 S hn hn2 t d r _ n 0 mm_F (by omega) (by unfold mm_F; omega)]
  by_cases e : anyF (xShut h B t d r) n 0 = true <;> simp [e]
theorem x_closureTold_L2 (S : mS B h) {n : Nat} (hn : mm_i h (B + 23) 15 = nI n) (hn2 : n ≤ 20) (t d : Int32) (K : mm_H → Option (Int32 × mm_H)) : ∀ (e i fuel : Nat), i + e = n → e < fuel → fX10_closureTold_L2 (B + 23) t d K fuel (nI i) h = if anyF (xCov h B t d) e i then some (1, h) else K h := by
  intro e
  induction e with
  | zero =>
    intro i fuel hi hf
    obtain ⟨f, rfl⟩ : ∃ f, fuel = f + 1 := ⟨fuel - 1, by omega⟩
    show fX10_closureTold_L2_b _ _ _ _ _ _ _ = _
    unfold fX10_closureTold_L2_b
    simp only [q_rf, q_lt, q_cl, q_jn, q_b, q_b1, q_ck, kd_I, kd_J, kd_R, n_I, n_J, n_R, r_I, r_J, c_I, c_J, c_R, i_J, i_R, j_I, j_R, y_in, y_isDay, x_within, x_isDay, x_isTown, sb_xsea S, hn]
    rw [if_pos (by rw [show i = n by omega]; exact Int32.le_refl _)]
    simp [anyF]
  | succ e ih =>
    intro i fuel hi hf
    obtain ⟨f, rfl⟩ : ∃ f, fuel = f + 1 := ⟨fuel - 1, by omega⟩
    show fX10_closureTold_L2_b _ _ _ _ _ _ _ = _
    unfold fX10_closureTold_L2_b
    simp only [q_rf, q_lt, q_cl, q_jn, q_b, q_b1, q_ck, kd_I, kd_J, kd_R, n_I, n_J, n_R, r_I, r_J, c_I, c_J, c_R, i_J, i_R, j_I, j_R, y_in, y_isDay, x_within, x_isDay, x_isTown, sb_xsea S, hn, nI_1, x_covers S (show i < 20 by omega), ih (i + 1) f (by omega) (by omega)]
    rw [if_neg (nI_ge (by omega) (by omega))]
    simp only [anyF]
    by_cases h1 : xCov h B t d i = true <;> simp [h1]
theorem x_closureTold (S : mS B h) {n : Nat} (hn : mm_i h (B + 23) 15 = nI n) (hn2 : n ≤ 20) (t d : Int32) : fX10_closureTold (B + 23) t d h = some (if anyF (xCov h B t d) n 0 then 1 else 0, h) := by
  unfold fX10_closureTold
  rw [← nI_0, x_closureTold_L2 S hn hn2 t d _ n 0 mm_F (by omega) (by unfold mm_F; omega)]
  by_cases e : anyF (xCov h B t d) n 0 = true <;> simp [e]
theorem xy_shut (R : RPo B h) (t d : Int32) {r : Int32} (hr : r ≤ 3999) {n : Nat} (hn : mm_i h (B + 66) 38 = nI n) (hn2 : n ≤ 20) : anyF (yShut h B t d r) n 0 = anyF (xShut h B t d r) n 0 := by
  obtain ⟨n', h1, h2, h3, h4⟩ := R
  have e : n = n' := (nI_eq (by omega) (by omega)).mp (hn.symm.trans h3)
  subst e
  refine anyF_congr fun j _ hj => ?_
  obtain ⟨a1, a2, a3, a4⟩ := h4 j (by omega)
  unfold yShut xShut xCov
  rw [a1, a2, a3]
  rcases a4 with ⟨a4, a5⟩ | ⟨a4, a5, a6⟩
  · rw [a4, a5]
    have : ¬ (100000 : Int32) ≤ r := fun z => absurd (Int32.le_trans z hr) (by decide)
    simp [this]
  · rw [a6]
    have : ¬ mm_i h (B + 36) j = -1 := fun z => absurd (z ▸ a4) (by decide)
    simp [this, Bool.and_assoc]
theorem xy_told (R : RPo B h) (t d : Int32) {n : Nat} (hn : mm_i h (B + 66) 38 = nI n) (hn2 : n ≤ 20) : anyF (yShut h B t d 100000) n 0 = anyF (xCov h B t d) n 0 := by
  obtain ⟨n', h1, h2, h3, h4⟩ := R
  have e : n = n' := (nI_eq (by omega) (by omega)).mp (hn.symm.trans h3)
  subst e
  refine anyF_congr fun j _ hj => ?_
  obtain ⟨a1, a2, a3, a4⟩ := h4 j (by omega)
  unfold yShut xCov
  rw [a1, a2, a3]
  rcases a4 with ⟨a4, a5⟩ | ⟨a4, a5, a6⟩
  · rw [a5]; simp
  · rw [a6]
    have : mm_i h (B + 36) j ≤ 100000 := Int32.le_trans a5 (by decide)
    simp [this]
theorem T_isShut (S : mS B h) (R : RPo B h) (a b c : Int32) : ∃ r, fX11_isShut B a b c h = some (r, h) ∧ fX12_isShut (B + 66) a b c h = some (r, h) := by
  obtain ⟨n, h1, h2, h3, h4⟩ := R
  unfold fX11_isShut fX12_isShut
  simp only [q_rf, q_lt, q_cl, q_jn, q_b, q_b1, q_ck, kd_I, kd_J, kd_R, n_I, n_J, n_R, r_I, r_J, c_I, c_J, c_R, i_J, i_R, j_I, j_R, y_in, y_isDay, x_within, x_isDay, x_isTown, sb_xsea S, sb_yports S, x_closedBy S h2 h1, y_shuts S h3 h1]
  by_cases c1 : 0 ≤ a ∧ a ≤ 7
  case neg => exact ⟨_, by simp [c1]; rfl, by simp [c1]⟩
  by_cases c2 : 0 ≤ b ∧ b ≤ 3999
  case neg => exact ⟨_, by simp [c1, c2]; rfl, by simp [c1, c2]⟩
  by_cases c3 : 0 ≤ c ∧ c ≤ 3999
  case neg => exact ⟨_, by simp [c1, c2, c3]; rfl, by simp [c1, c2, c3]⟩
  rw [xy_shut ⟨n, h1, h2, h3, h4⟩ a b c3.2 h3 h1]
  by_cases e : anyF (xShut h B a b c) n 0 = true
  · exact ⟨1, by simp [c1, c2, c3, e], by simp [c1, c2, c3, e]⟩
  · exact ⟨0, by simp [c1, c2, c3, e], by simp [c1, c2, c3, e]⟩
theorem T_shut (S : mS B h) (R : RPo B h) (a b c : Int32) : ∃ r h1 h2, fX11_shut B a b c h = some (r, h1) ∧ fX12_shut (B + 66) a b c h1 = some (r, h2) ∧ mW (wPo B) h h2 ∧ RPo B h2 := by
  obtain ⟨n, h1, h2, h3, h4⟩ := R
  unfold fX11_shut fX10_addClosing fX12_shut
  simp only [q_rf, q_lt, q_cl, q_jn, q_b, q_b1, q_ck, kd_I, kd_J, kd_R, n_I, n_J, n_R, r_I, r_J, c_I, c_J, c_R, i_J, i_R, j_I, j_R, y_in, y_isDay, x_within, x_isDay, x_isTown, sb_xsea S, h2]
  have e20 : (nI n < 20) = (n < 20) := propext (nI_ltI (b := 20) (by omega) (by omega))
  have e20' : (nI n = 20) = (n = 20) := propext (nI_eq (b := 20) (by omega) (by omega))
  by_cases c1 : 0 ≤ a ∧ a ≤ 7
  case neg => exact ⟨-1, h, h, by simp [c1], by simp [q_rf, q_lt, q_cl, q_jn, q_b, q_b1, q_ck, kd_I, kd_J, kd_R, n_I, n_J, n_R, r_I, r_J, c_I, c_J, c_R, i_J, i_R, j_I, j_R, y_in, y_isDay, x_within, x_isDay, x_isTown, sb_yports S, h3, e20', c1], mW.rf, ⟨n, h1, h2, h3, h4⟩⟩
  by_cases c2 : 0 ≤ b ∧ b ≤ 3999
  case neg => exact ⟨-1, h, h, by simp [c1, c2], by simp [q_rf, q_lt, q_cl, q_jn, q_b, q_b1, q_ck, kd_I, kd_J, kd_R, n_I, n_J, n_R, r_I, r_J, c_I, c_J, c_R, i_J, i_R, j_I, j_R, y_in, y_isDay, x_within, x_isDay, x_isTown, sb_yports S, h3, e20', c1, c2], mW.rf, ⟨n, h1, h2, h3, h4⟩⟩
  by_cases c3 : 0 ≤ c ∧ c ≤ 3999
  case neg =>
    refine ⟨-1, h, h, by simp [c1, c2, c3], ?_, mW.rf, ⟨n, h1, h2, h3, h4⟩⟩
    have : ¬ (b ≤ c ∧ c ≤ 3999) := fun z => c3 ⟨Int32.le_trans c2.1 z.1, z.2⟩
    simp [q_rf, q_lt, q_cl, q_jn, q_b, q_b1, q_ck, kd_I, kd_J, kd_R, n_I, n_J, n_R, r_I, r_J, c_I, c_J, c_R, i_J, i_R, j_I, j_R, y_in, y_isDay, x_within, x_isDay, x_isTown, sb_yports S, h3, e20', c1, c2, this]
  by_cases c4 : b ≤ c
  case neg => exact ⟨-1, h, h, by simp [c1, c2, c3, c4], by simp [q_rf, q_lt, q_cl, q_jn, q_b, q_b1, q_ck, kd_I, kd_J, kd_R, n_I, n_J, n_R, r_I, r_J, c_I, c_J, c_R, i_J, i_R, j_I, j_R, y_in, y_isDay, x_within, x_isDay, x_isTown, sb_yports S, h3, e20', c1, c2, c4], mW.rf, ⟨n, h1, h2, h3, h4⟩⟩
  by_cases c5 : n = 20
  case pos =>
    have c6 : ¬ nI n < 20 := by rw [e20]; omega
    have c7 : nI n = 20 := by rw [e20']; exact c5
    exact ⟨-1, h, h, by simp only [c1, c2, c3, c4, c6, q_rf, q_lt, q_cl, q_jn, q_b, q_b1, q_ck, kd_I, kd_J, kd_R, n_I, n_J, n_R, r_I, r_J, c_I, c_J, c_R, i_J, i_R, j_I, j_R, y_in, y_isDay, x_within, x_isDay, x_isTown, q_10, q_01, eq_self, i_I, Nat.reduceEqDiff, Nat.add_left_cancel_iff, Nat.add_eq_left, Nat.left_eq_add, and_false, false_and, and_true, true_and, if_true, if_false, and_self, not_true, not_false_iff, reduceCtorEq], by simp only [q_rf, q_lt, q_cl, q_jn, q_b, q_b1, q_ck, kd_I, kd_J, kd_R, n_I, n_J, n_R, r_I, r_J, c_I, c_J, c_R, i_J, i_R, j_I, j_R, y_in, y_isDay, x_within, x_isDay, x_isTown, q_10, q_01, eq_self, i_I, Nat.reduceEqDiff, Nat.add_left_cancel_iff, Nat.add_eq_left, Nat.left_eq_add, and_false, false_and, and_true, true_and, if_true, if_false, and_self, not_true, not_false_iff, reduceCtorEq, sb_yports S, h3, c7], mW.rf, ⟨n, h1, h2, h3, h4⟩⟩
  have hn : n < 20 := by omega
  have hx := fun (β : Type) (k : Option β) => q_ckx hn (by decide) k
  have hc := nI_clamp (n := n) (by omega)
  have c6 : nI n < 20 := by rw [e20]; omega
  have c7 : ¬ nI n = 20 := by rw [e20']; exact c5
  refine ⟨nI n, _, _, by simp only [c1, c2, c3, c4, c6, hx, hc, q_rf, q_lt, q_cl, q_jn, q_b, q_b1, q_ck, kd_I, kd_J, kd_R, n_I, n_J, n_R, r_I, r_J, c_I, c_J, c_R, i_J, i_R, j_I, j_R, y_in, y_isDay, x_within, x_isDay, x_isTown, q_10, q_01, eq_self, i_I, Nat.reduceEqDiff, Nat.add_left_cancel_iff, Nat.add_eq_left, Nat.left_eq_add, and_false, false_and, and_true, true_and, if_true, if_false, and_self, not_true, not_false_iff, reduceCtorEq, sb_xsea S, h2, nI_1, nI_pred]; rfl, by simp only [c1, c2, c3, c4, c7, hx, hc, q_rf, q_lt, q_cl, q_jn, q_b, q_b1, q_ck, kd_I, kd_J, kd_R, n_I, n_J, n_R, r_I, r_J, c_I, c_J, c_R, i_J, i_R, j_I, j_R, y_in, y_isDay, x_within, x_isDay, x_isTown, q_10, q_01, eq_self, i_I, Nat.reduceEqDiff, Nat.add_left_cancel_iff, Nat.add_eq_left, Nat.left_eq_add, and_false, false_and, and_true, true_and, if_true, if_false, and_self, not_true, not_false_iff, reduceCtorEq, sb_yports S, h3, nI_1, nI_pred]; rfl, ?_, ?_⟩
  · (repeat refine mW.I ?_ (by simp [wPo])); exact mW.rf
  · refine ⟨n + 1, by omega, by simp [i_I, h2, nI_1], by simp [i_I, h3, nI_1], fun k hk => ?_⟩
    by_cases e : k = n
    · subst e
      simp [i_I]
    · have := h4 k (by omega)
      simpa [i_I, e] using this
end PP
