/-! force; feed, end -/
def ifF (hx : mm_H) (V : Nat → Nat → Nat) (r d : Int32) : Nat → Nat → Int32 → Int32 → Int32
  | 0, _, f, _ => f
  | e + 1, i, f, l => if mm_i hx (V 0 i) 0 = r ∧ ¬ mm_i hx (V 0 i) 2 = -1 ∧ mm_i hx (V 0 i) 2 ≤ d ∧ l ≤ mm_i hx (V 0 i) 2 then ifF hx V r d e (i + 1) (nI i) (mm_i hx (V 0 i) 2) else ifF hx V r d e (i + 1) f l
def byV (a x : Int32) : Int32 := (((Int8.toInt32 (Int32.toInt8 (a >>> (x &&& 31))))).toInt8.toInt32)
section FE
variable {B : Nat} {h hx hy hx' hy' : mm_H} {ow ow' : Nat → Nat × Nat} {n d nm nl nb nw a : Nat} {V Z G E : Nat → Nat → Nat}
theorem ifF_spec (V : Nat → Nat → Nat) (r d : Int32) : ∀ (e i : Nat) (f l : Int32), (f = -1 ∨ ∃ k, k < i ∧ f = nI k ∧ mm_i hx (V 0 k) 0 = r) → ifF hx V r d e i f l = -1 ∨ ∃ k, k < i + e ∧ ifF hx V r d e i f l = nI k ∧ mm_i hx (V 0 k) 0 = r := by
  intro e
  induction e with
  | zero => intro i f l h; exact h
  | succ e ih =>
    intro i f l h
    simp only [ifF]
    by_cases c : mm_i hx (V 0 i) 0 = r ∧ ¬ mm_i hx (V 0 i) 2 = -1 ∧ mm_i hx (V 0 i) 2 ≤ d ∧ l ≤ mm_i hx (V 0 i) 2
    · rw [if_pos c, show i + (e + 1) = i + 1 + e by omega]
      exact ih (i + 1) _ _ (Or.inr ⟨i, by omega, rfl, c.1⟩)
    · rw [if_neg c, show i + (e + 1) = i + 1 + e by omega]
      refine ih (i + 1) _ _ (h.imp id fun ⟨k, k1, k2⟩ => ⟨k, by omega, k2⟩)
theorem x_inForce_L8 (S : mS B hx) (R : RLw B ow hx hy n V Z G E) (r d : Int32) (K : Int32 → mm_H → Option (Int32 × mm_H)) : ∀ (e i fuel : Nat) (f l : Int32), i + e = n → e < fuel → fX2_inForce_L8 (B + 13) r d K fuel f l (nI i) hx = K (ifF hx V r d e i f l) hx := by
  have hsz := x_size (sk14 S) R.2.1
  have n9 := R.1
  intro e
  induction e with
  | zero =>
    intro i fuel f l hi hf
    obtain ⟨g, rfl⟩ : ∃ f, fuel = f + 1 := ⟨fuel - 1, by omega⟩
    show fX2_inForce_L8_b _ _ _ _ _ _ _ _ _ = _
    unfold fX2_inForce_L8_b
    simp only [q_rf, q_lt, q_cl, q_jn, q_b, q_b1, q_ck, kd_I, kd_J, kd_R, n_I, n_J, n_R, r_I, r_J, c_I, c_J, c_R, i_J, i_R, j_I, j_R, y_in, y_isDay, x_within, x_isDay, x_isTown, sb_xcourt S, hsz]
    rw [if_pos (by rw [show i = n by omega]; exact Int32.le_refl _)]
    rfl
  | succ e ih =>
    intro i fuel f l hi hf
    obtain ⟨g, rfl⟩ : ∃ f, fuel = f + 1 := ⟨fuel - 1, by omega⟩
    have hi2 : i < n := by omega
    have hg := x_get (sk14 S) R.2.1 hi2
    have kd5 := (R.2.1.2.2.2 i hi2).2
    show fX2_inForce_L8_b _ _ _ _ _ _ _ _ _ = _
    unfold fX2_inForce_L8_b
    simp only [q_rf, q_lt, q_cl, q_jn, q_b, q_b1, q_ck, kd_I, kd_J, kd_R, n_I, n_J, n_R, r_I, r_J, c_I, c_J, c_R, i_J, i_R, j_I, j_R, y_in, y_isDay, x_within, x_isDay, x_isTown, sb_xcourt S, hsz, hg, kd5, nI_1, ih (i + 1) g _ _ (by omega) (by omega)]
    rw [if_neg (nI_ge (by omega) (by omega))]
    simp only [ifF]
    by_cases c1 : mm_i hx (V 0 i) 0 = r
    · by_cases c2 : mm_i hx (V 0 i) 2 = -1
      · simp [c1, c2]
      · by_cases c3 : d < mm_i hx (V 0 i) 2
        · have c4 : ¬ mm_i hx (V 0 i) 2 ≤ d := Int32.not_le.mpr c3
          simp [c1, c2, c3, c4]
        · have c4 : mm_i hx (V 0 i) 2 ≤ d := Int32.not_lt.mp c3
          by_cases c5 : mm_i hx (V 0 i) 2 < l
          · have c6 : ¬ l ≤ mm_i hx (V 0 i) 2 := Int32.not_le.mpr c5
            simp [c1, c2, c3, c4, c5, c6]
          · have c6 : l ≤ mm_i hx (V 0 i) 2 := Int32.not_lt.mp c5
            simp [c1, c2, c3, c4, c5, c6]
    · by_cases c2 : mm_i hx (V 0 i) 2 = -1
      · simp [c1, c2]
      · by_cases c3 : d < mm_i hx (V 0 i) 2
        · simp [c1, c2, c3]
        · simp [c1, c2, c3]
theorem y_inForce_L5 (S : mS B hy) (R : RLw B ow hx hy n V Z G E) (r d : Int32) (K : Int32 → mm_H → Option (Int32 × mm_H)) : ∀ (e i fuel : Nat) (f l : Int32), i + e = n → e < fuel → ((f = -1 ∧ l = -1) ∨ ∃ k, k < i ∧ f = nI k ∧ l = mm_i hx (V 0 k) 2) → fX12_inForce_L5 (B + 66) r d K fuel f (nI i) hy = K (ifF hx V r d e i f l) hy := by
  have n9 := R.1
  intro e
  induction e with
  | zero =>
    intro i fuel f l hi hf hI
    obtain ⟨g, rfl⟩ : ∃ f, fuel = f + 1 := ⟨fuel - 1, by omega⟩
    show fX12_inForce_L5_b _ _ _ _ _ _ _ _ = _
    unfold fX12_inForce_L5_b
    simp only [q_rf, q_lt, q_cl, q_jn, q_b, q_b1, q_ck, kd_I, kd_J, kd_R, n_I, n_J, n_R, r_I, r_J, c_I, c_J, c_R, i_J, i_R, j_I, j_R, y_in, y_isDay, x_within, x_isDay, x_isTown, sk66 S, R.2.2.1]
    rw [if_pos (by rw [show i = n by omega]; exact Int32.le_refl _)]
    rfl
  | succ e ih =>
    intro i fuel f l hi hf hI
    obtain ⟨g, rfl⟩ : ∃ f, fuel = f + 1 := ⟨fuel - 1, by omega⟩
    have hi2 : i < n := by omega
    have hq := fun (β : Type) (z : Option β) => q_ckx (show i < 30 by omega) (by decide) z
    have hcl := nI_clamp (n := i) (by omega)
    obtain ⟨m1, m2, m3, -⟩ := (R.2.2.2 i hi2).1
    have ihk := ih (i + 1) g f l (by omega) (by omega) (hI.imp id fun ⟨k, k1, k2⟩ => ⟨k, by omega, k2⟩)
    have ihn := ih (i + 1) g (nI i) (mm_i hx (V 0 i) 2) (by omega) (by omega) (Or.inr ⟨i, by omega, rfl, rfl⟩)
    show fX12_inForce_L5_b _ _ _ _ _ _ _ _ = _
    unfold fX12_inForce_L5_b
    simp only [q_rf, q_lt, q_cl, q_jn, q_b, q_b1, q_ck, kd_I, kd_J, kd_R, n_I, n_J, n_R, r_I, r_J, c_I, c_J, c_R, i_J, i_R, j_I, j_R, y_in, y_isDay, x_within, x_isDay, x_isTown, sb_ylaw S, R.2.2.1, hq, hcl, m1.1, m3.1, nI_1, ihk, ihn]
    rw [if_neg (nI_ge (by omega) (by omega))]
    simp only [ifF]
    by_cases c1 : mm_i hx (V 0 i) 0 = r
    · by_cases c2 : mm_i hx (V 0 i) 2 = -1
      · simp [c1, c2]
      · by_cases c3 : d < mm_i hx (V 0 i) 2
        · have c4 : ¬ mm_i hx (V 0 i) 2 ≤ d := Int32.not_le.mpr c3
          simp [c1, c2, c3, c4]
        · have c4 : mm_i hx (V 0 i) 2 ≤ d := Int32.not_lt.mp c3
          rcases hI with ⟨rfl, rfl⟩ | ⟨k, k1, rfl, rfl⟩
          · have c6 : (-1 : Int32) ≤ mm_i hx (V 0 i) 2 := by
              rcases m3.2 with z | z
              · rw [z]; exact Int32.le_refl _
              · exact Int32.le_trans (by decide) z
            simp [c1, c2, c3, c4, c6]
          · have hne : ¬ nI k = -1 := nI_neg1 (by omega)
            have hqk := fun (β : Type) (z : Option β) => q_ckx (show k < 30 by omega) (by decide) z
            have hclk := nI_clamp (n := k) (by omega)
            have m3k := (R.2.2.2 k (by omega)).1.2.2.1.1
            by_cases c5 : mm_i hx (V 0 i) 2 < mm_i hx (V 0 k) 2
            · have c6 : ¬ mm_i hx (V 0 k) 2 ≤ mm_i hx (V 0 i) 2 := Int32.not_le.mpr c5
              simp only [c1, c2, c3, c4, c5, c6, hne, hqk, hclk, m3k, not_true, not_false_iff, true_and, and_true, and_false, if_true, if_false]
            · have c6 : mm_i hx (V 0 k) 2 ≤ mm_i hx (V 0 i) 2 := Int32.not_lt.mp c5
              simp only [c1, c2, c3, c4, c5, c6, hne, hqk, hclk, m3k, not_true, not_false_iff, true_and, and_true, and_self, if_true, if_false]
    · simp [c1]
theorem x_inForce (S : mS B hx) (R : RLw B ow hx hy n V Z G E) (r d : Int32) : fX2_inForce (B + 13) r d hx = some (ifF hx V r d n 0 (-1) (-1), hx) := by
  have n9 := R.1
  unfold fX2_inForce
  rw [← nI_0, x_inForce_L8 S R r d _ n 0 mm_F _ _ (by omega) (by unfold mm_F; omega)]
theorem y_inForce (S : mS B hy) (R : RLw B ow hx hy n V Z G E) (r d : Int32) : fX12_inForce (B + 66) r d hy = some (ifF hx V r d n 0 (-1) (-1), hy) := by
  have n9 := R.1
  unfold fX12_inForce
  rw [← nI_0, y_inForce_L5 S R r d _ n 0 mm_F _ (-1) (by omega) (by unfold mm_F; omega) (Or.inl ⟨rfl, rfl⟩)]
theorem T_force (S : mS B h) (R : RLw B ow h h n V Z G E) (a b : Int32) : ∃ r, fX11_force B a b h = some (r, h) ∧ fX12_force (B + 66) a b h = some (r, h) := by
  have e1 := x_inForce S R a b
  have e2 := y_inForce S R a b
  unfold fX11_force fX12_force
  by_cases c1 : 0 ≤ a ∧ a ≤ 2
  case neg => exact ⟨-1, by simp only [q_rf, q_lt, q_cl, q_jn, q_b, q_b1, q_ck, kd_I, kd_J, kd_R, n_I, n_J, n_R, r_I, r_J, c_I, c_J, c_R, i_J, i_R, j_I, j_R, y_in, y_isDay, x_within, x_isDay, x_isTown, c1, q_10, q_01, eq_self, i_I, Nat.reduceEqDiff, Nat.add_left_cancel_iff, Nat.add_eq_left, Nat.left_eq_add, and_false, false_and, and_true, true_and, if_true, if_false, and_self, not_true, not_false_iff, reduceCtorEq], by simp only [q_rf, q_lt, q_cl, q_jn, q_b, q_b1, q_ck, kd_I, kd_J, kd_R, n_I, n_J, n_R, r_I, r_J, c_I, c_J, c_R, i_J, i_R, j_I, j_R, y_in, y_isDay, x_within, x_isDay, x_isTown, c1, q_10, q_01, eq_self, i_I, Nat.reduceEqDiff, Nat.add_left_cancel_iff, Nat.add_eq_left, Nat.left_eq_add, and_false, false_and, and_true, true_and, if_true, if_false, and_self, not_true, not_false_iff, reduceCtorEq]⟩
  by_cases c2 : 0 ≤ b ∧ b ≤ 3999
  case neg => exact ⟨-1, by simp only [q_rf, q_lt, q_cl, q_jn, q_b, q_b1, q_ck, kd_I, kd_J, kd_R, n_I, n_J, n_R, r_I, r_J, c_I, c_J, c_R, i_J, i_R, j_I, j_R, y_in, y_isDay, x_within, x_isDay, x_isTown, c1, c2, q_10, q_01, eq_self, i_I, Nat.reduceEqDiff, Nat.add_left_cancel_iff, Nat.add_eq_left, Nat.left_eq_add, and_false, false_and, and_true, true_and, if_true, if_false, and_self, not_true, not_false_iff, reduceCtorEq], by simp only [q_rf, q_lt, q_cl, q_jn, q_b, q_b1, q_ck, kd_I, kd_J, kd_R, n_I, n_J, n_R, r_I, r_J, c_I, c_J, c_R, i_J, i_R, j_I, j_R, y_in, y_isDay, x_within, x_isDay, x_isTown, c1, c2, q_10, q_01, eq_self, i_I, Nat.reduceEqDiff, Nat.add_left_cancel_iff, Nat.add_eq_left, Nat.left_eq_add, and_false, false_and, and_true, true_and, if_true, if_false, and_self, not_true, not_false_iff, reduceCtorEq]⟩
  exact ⟨ifF h V a b n 0 (-1) (-1), by simp only [q_rf, q_lt, q_cl, q_jn, q_b, q_b1, q_ck, kd_I, kd_J, kd_R, n_I, n_J, n_R, r_I, r_J, c_I, c_J, c_R, i_J, i_R, j_I, j_R, y_in, y_isDay, x_within, x_isDay, x_isTown, sb_xcourt S, c1, c2, e1, q_10, q_01, eq_self, i_I, Nat.reduceEqDiff, Nat.add_left_cancel_iff, Nat.add_eq_left, Nat.left_eq_add, and_false, false_and, and_true, true_and, if_true, if_false, and_self, not_true, not_false_iff, reduceCtorEq], by simp only [q_rf, q_lt, q_cl, q_jn, q_b, q_b1, q_ck, kd_I, kd_J, kd_R, n_I, n_J, n_R, r_I, r_J, c_I, c_J, c_R, i_J, i_R, j_I, j_R, y_in, y_isDay, x_within, x_isDay, x_isTown, sk66 S, c1, c2, e2, q_10, q_01, eq_self, i_I, Nat.reduceEqDiff, Nat.add_left_cancel_iff, Nat.add_eq_left, Nat.left_eq_add, and_false, false_and, and_true, true_and, if_true, if_false, and_self, not_true, not_false_iff, reduceCtorEq]⟩
/-- the tape holds n bytes -/
def RTn (B : Nat) (hx hy : mm_H) (n : Nat) : Prop := n ≤ 400 ∧ mm_i hx (B + 5) 1 = nI n ∧ mm_i hy (B + 66) 17 = nI n ∧ ∀ k, k < n → mm_i hy (B + 79) k = mm_i hx (B + 6) k
theorem RTn.put (R : RTn B hx hy n) (hn : n < 400) (v : Int32) : RTn B (mm_setI (mm_setI hx (B + 6) n v) (B + 5) 1 (nI (n + 1))) (mm_setI (mm_setI hy (B + 79) n v) (B + 66) 17 (nI (n + 1))) (n + 1) := by
  obtain ⟨R1, R2, R3, R4⟩ := R
  refine ⟨by omega, by rw [i_I_eq], by rw [i_I_eq], fun k hk => ?_⟩
  rw [i_I_ne (a := B + 66) (by omega), i_I_at, i_I_ne (a := B + 5) (by omega), i_I_at]
  by_cases c : k = n
  · rw [if_pos c, if_pos c]
  · rw [if_neg c, if_neg c]; exact R4 k (by omega)
theorem x_wr1 (S : mS B hx) {b x : Int32} {f : Nat} {K : mm_H → Option (Unit × mm_H)} (hl : mm_i hx (B + 5) 1 = nI n) (hn : n < 400) (h0 : ¬ x < 0) : fX5_write_L12 (B + 5) b K (f + 1) x hx = fX5_write_L12 (B + 5) b K f (x + -8) (mm_setI (mm_setI hx (B + 6) n (byV b x)) (B + 5) 1 (nI (n + 1))) := by
  have hq := fun (β : Type) (z : Option β) => q_ckx hn (by decide) z
  have hcl := nI_clamp (n := n) (by omega)
  have hv : (((Int8.toInt32 (Int32.toInt8 (b >>> (x &&& 31))))).toInt8.toInt32) = byV b x := rfl
  show fX5_write_L12_b _ _ _ _ _ _ = _
  unfold fX5_write_L12_b
  rw [if_neg h0, hv]
  simp only [q_rf, q_lt, q_cl, q_jn, q_b, q_b1, q_ck, kd_I, kd_J, kd_R, n_I, n_J, n_R, r_I, r_J, c_I, c_J, c_R, i_J, i_R, j_I, j_R, y_in, y_isDay, x_within, x_isDay, x_isTown, sb_xreader S, hl, hq, hcl]
  rw [i_I_ne (by omega), hl, nI_1]
theorem y_wr1 (S : mS B hy) {b x : Int32} {f : Nat} {K : mm_H → Option (Unit × mm_H)} (hl : mm_i hy (B + 66) 17 = nI n) (hn : n < 400) (h0 : ¬ x < 0) : fX12_put_L3 (B + 66) b K (f + 1) x hy = fX12_put_L3 (B + 66) b K f (x + -8) (mm_setI (mm_setI hy (B + 79) n (byV b x)) (B + 66) 17 (nI (n + 1))) := by
  have hq := fun (β : Type) (z : Option β) => q_ckx hn (by decide) z
  have hcl := nI_clamp (n := n) (by omega)
  have hv : (((Int8.toInt32 (Int32.toInt8 (b >>> (x &&& 31))))).toInt8.toInt32) = byV b x := rfl
  show fX12_put_L3_b _ _ _ _ _ _ = _
  unfold fX12_put_L3_b
  rw [if_neg h0, hv]
  simp only [q_rf, q_lt, q_cl, q_jn, q_b, q_b1, q_ck, kd_I, kd_J, kd_R, n_I, n_J, n_R, r_I, r_J, c_I, c_J, c_R, i_J, i_R, j_I, j_R, y_in, y_isDay, x_within, x_isDay, x_isTown, sb_ylaw S, hl, hq, hcl]
  rw [i_I_ne (by omega), hl, nI_1]
theorem J_put1 (S : mS B hx) (S' : mS B hy) (R : RTn B hx hy n) (hn : n < 400) (b x : Int32) (h0 : ¬ x < 0) : ∃ hx' hy', (∀ K f, fX5_write_L12 (B + 5) b K (f + 1) x hx = fX5_write_L12 (B + 5) b K f (x + -8) hx') ∧ (∀ K f, fX12_put_L3 (B + 66) b K (f + 1) x hy = fX12_put_L3 (B + 66) b K f (x + -8) hy') ∧ (∀ o : Nat → Nat × Nat, mY B o [9] hx hx') ∧ (∀ o : Nat → Nat × Nat, mY B o [109] hy hy') ∧ RTn B hx' hy' (n + 1) := ⟨_, _, fun K f => x_wr1 S R.2.1 hn h0, fun K f => y_wr1 S' R.2.2.1 hn h0, fun o => ((mX.rf S.1).IF (m := 9) (by omega) rfl (by decide)).IF (m := 9) (by omega) rfl (by decide), fun o => ((mX.rf S'.1).IF (m := 109) (by omega) rfl (by decide)).IF (m := 109) (by omega) rfl (by decide), R.put hn _⟩
theorem J_put (S : mS B hx) (S' : mS B hy) (R : RTn B hx hy n) (hn : n + 4 ≤ 400) (b : Int32) : ∃ hx' hy', fX5_write (B + 5) b hx = some ((), hx') ∧ fX12_put (B + 66) b hy = some ((), hy') ∧ (∀ o : Nat → Nat × Nat, mY B o [9] hx hx') ∧ (∀ o : Nat → Nat × Nat, mY B o [109] hy hy') ∧ RTn B hx' hy' (n + 4) := by
  obtain ⟨x1, y1, a1, a2, a3, a4, a5⟩ := J_put1 S S' R (by omega) b 24 (by decide)
  have s1 := (a3 fun _ => (0, 0)).S S
  have t1 := (a4 fun _ => (0, 0)).S S'
  obtain ⟨x2, y2, b1, b2, b3, b4, b5⟩ := J_put1 s1 t1 a5 (by omega) b 16 (by decide)
  have s2 := (b3 fun _ => (0, 0)).S s1
  have t2 := (b4 fun _ => (0, 0)).S t1
  obtain ⟨x3, y3, c1, c2, c3, c4, c5⟩ := J_put1 s2 t2 b5 (by omega) b 8 (by decide)
  have s3 := (c3 fun _ => (0, 0)).S s2
  have t3 := (c4 fun _ => (0, 0)).S t2
  obtain ⟨x4, y4, d1, d2, d3, d4, d5⟩ := J_put1 s3 t3 c5 (by omega) b 0 (by decide)
  have z1 : (24 : Int32) + -8 = 16 := by decide
  have z2 : (16 : Int32) + -8 = 8 := by decide
  have z3 : (8 : Int32) + -8 = 0 := by decide
  have z4 : (0 : Int32) + -8 < 0 := by decide
  refine ⟨x4, y4, ?_, ?_, fun o => (((a3 o).tr (b3 o)).tr (c3 o)).tr (d3 o), fun o => (((a4 o).tr (b4 o)).tr (c4 o)).tr (d4 o), d5⟩
  · unfold fX5_write fX5_hasRoomFor
    have e1 : ¬ (400 : Int32) < nI n + 4 := by
      rw [show (4 : Int32) = nI 4 by decide +kernel, nI_add]
      exact nI_nlt (a := 400) (b := n + 4) hn (by omega)
    simp only [q_rf, q_lt, q_cl, q_jn, q_b, q_b1, q_ck, kd_I, kd_J, kd_R, n_I, n_J, n_R, r_I, r_J, c_I, c_J, c_R, i_J, i_R, j_I, j_R, y_in, y_isDay, x_within, x_isDay, x_isTown, sk5 S, R.2.1, e1, q_10, not_false_iff, if_true, if_false]
    rw [show mm_F = 5995 + 1 + 1 + 1 + 1 + 1 from rfl, a1, z1, b1, z2, c1, z3, d1]
    show fX5_write_L12_b _ _ _ _ _ _ = _
    unfold fX5_write_L12_b
    rw [if_pos z4]
  · unfold fX12_put
    rw [show mm_F = 5995 + 1 + 1 + 1 + 1 + 1 from rfl, a2, z1, b2, z2, c2, z3, d2]
    show fX12_put_L3_b _ _ _ _ _ _ = _
    unfold fX12_put_L3_b
    rw [if_pos z4]
theorem J_feed (S : mS B hx) (S' : mS B hy) (R : RTn B hx hy n) (hn : n + 20 ≤ 400) (a b c d e : Int32) : ∃ h1 h2 h3 h4 h5 g1 g2 g3 g4 g5, (fX5_write (B + 5) a hx = some ((), h1) ∧ fX5_write (B + 5) b h1 = some ((), h2) ∧ fX5_write (B + 5) c h2 = some ((), h3) ∧ fX5_write (B + 5) d h3 = some ((), h4) ∧ fX5_write (B + 5) e h4 = some ((), h5)) ∧ (fX12_put (B + 66) a hy = some ((), g1) ∧ fX12_put (B + 66) b g1 = some ((), g2) ∧ fX12_put (B + 66) c g2 = some ((), g3) ∧ fX12_put (B + 66) d g3 = some ((), g4) ∧ fX12_put (B + 66) e g4 = some ((), g5)) ∧ (mS B h1 ∧ mS B h2 ∧ mS B h3 ∧ mS B h4 ∧ mS B h5) ∧ (mS B g1 ∧ mS B g2 ∧ mS B g3 ∧ mS B g4 ∧ mS B g5) ∧ (∀ o : Nat → Nat × Nat, mY B o [9] hx h5) ∧ (∀ o : Nat → Nat × Nat, mY B o [109] hy g5) ∧ RTn B h5 g5 (n + 20) := by
  obtain ⟨h1, g1, a1, a2, a3, a4, a5⟩ := J_put S S' R (by omega) a
  have s1 := (a3 fun _ => (0, 0)).S S
  have t1 := (a4 fun _ => (0, 0)).S S'
  obtain ⟨h2, g2, b1, b2, b3, b4, b5⟩ := J_put s1 t1 a5 (by omega) b
  have s2 := (b3 fun _ => (0, 0)).S s1
  have t2 := (b4 fun _ => (0, 0)).S t1
  obtain ⟨h3, g3, c1, c2, c3, c4, c5⟩ := J_put s2 t2 b5 (by omega) c
  have s3 := (c3 fun _ => (0, 0)).S s2
  have t3 := (c4 fun _ => (0, 0)).S t2
  obtain ⟨h4, g4, d1, d2, d3, d4, d5⟩ := J_put s3 t3 c5 (by omega) d
  have s4 := (d3 fun _ => (0, 0)).S s3
  have t4 := (d4 fun _ => (0, 0)).S t3
  obtain ⟨h5, g5, e1, e2, e3, e4, e5⟩ := J_put s4 t4 d5 (by omega) e
  exact ⟨h1, h2, h3, h4, h5, g1, g2, g3, g4, g5, ⟨a1, b1, c1, d1, e1⟩, ⟨a2, b2, c2, d2, e2⟩, ⟨s1, s2, s3, s4, (e3 fun _ => (0, 0)).S s4⟩, ⟨t1, t2, t3, t4, (e4 fun _ => (0, 0)).S t4⟩, fun o => ((((a3 o).tr (b3 o)).tr (c3 o)).tr (d3 o)).tr (e3 o), fun o => ((((a4 o).tr (b4 o)).tr (c4 o)).tr (d4 o)).tr (e4 o), e5⟩
theorem RTp_iff : RTp B hx hy ↔ ∃ n, RTn B hx hy n := Iff.rfl
theorem T_feed (S : mS B h) (R : RTp B h h) (ow : Nat → Nat × Nat) (a b c d e : Int32) : ∃ r h1 h2, fX11_feed B a b c d e h = some (r, h1) ∧ fX12_feed (B + 66) a b c d e h1 = some (r, h2) ∧ mY B ow [9, 109] h h2 ∧ RTp B h2 h2 := by
  obtain ⟨n, R0⟩ := RTp_iff.mp R
  obtain ⟨R1, R2, R3, R4⟩ := id R0
  have z20 : nI n + 20 = nI (n + 20) := by rw [show (20 : Int32) = nI 20 by decide +kernel, nI_add]
  have eX : ((400 : Int32) < nI n + 20) = (400 < n + 20) := by rw [z20]; exact propext (nI_ltI (a := 400) (by omega) (by omega))
  have eY : (nI n + 20 ≤ (400 : Int32)) = (n + 20 ≤ 400) := by rw [z20]; exact propext (nI_leI (b := 400) (by omega) (by omega))
  unfold fX11_feed fX12_feed fX5_hasRoomFor
  by_cases c1 : n + 20 ≤ 400
  case neg =>
    have c2 : 400 < n + 20 := by omega
    exact ⟨-1, h, h, by simp only [q_rf, q_lt, q_cl, q_jn, q_b, q_b1, q_ck, kd_I, kd_J, kd_R, n_I, n_J, n_R, r_I, r_J, c_I, c_J, c_R, i_J, i_R, j_I, j_R, y_in, y_isDay, x_within, x_isDay, x_isTown, sb_xreader S, R2, eX, c2, q_10, q_01, eq_self, i_I, Nat.reduceEqDiff, Nat.add_left_cancel_iff, Nat.add_eq_left, Nat.left_eq_add, and_false, false_and, and_true, true_and, if_true, if_false, and_self, not_true, not_false_iff, reduceCtorEq], by simp only [q_rf, q_lt, q_cl, q_jn, q_b, q_b1, q_ck, kd_I, kd_J, kd_R, n_I, n_J, n_R, r_I, r_J, c_I, c_J, c_R, i_J, i_R, j_I, j_R, y_in, y_isDay, x_within, x_isDay, x_isTown, sk66 S, R3, eY, c1, q_10, q_01, eq_self, i_I, Nat.reduceEqDiff, Nat.add_left_cancel_iff, Nat.add_eq_left, Nat.left_eq_add, and_false, false_and, and_true, true_and, if_true, if_false, and_self, not_true, not_false_iff, reduceCtorEq], mX.rf S.1, R⟩
  have c2 : ¬ 400 < n + 20 := by omega
  obtain ⟨h1, h2, h3, h4, h5, -, -, -, -, -, ⟨p1, p2, p3, p4, p5⟩, -, ⟨s1, s2, s3, s4, s5⟩, -, fx, -, -⟩ := J_feed S S R0 c1 a b c d e
  have R5 : RTn B h h5 n := ⟨R1, R2, by rw [(fx ow).iF (m := 109) (by omega) rfl (by decide)]; exact R3, fun k hk => by rw [(fx ow).iF (m := 109) (by omega) rfl (by decide)]; exact R4 k hk⟩
  obtain ⟨h1', h2', h3', h4', h5', g1, g2, g3, g4, g5, ⟨q1, q2, q3, q4, q5⟩, ⟨r1, r2, r3, r4, r5⟩, -, ⟨t1, t2, t3, t4, t5⟩, -, fy, R6⟩ := J_feed S s5 R5 c1 a b c d e
  have inj : ∀ {f : mm_H → Option (Unit × mm_H)} {x y z : mm_H}, f x = some ((), y) → f x = some ((), z) → z = y := fun e1 e2 => (Prod.mk.inj (Option.some.inj (e2.symm.trans e1))).2
  obtain rfl := inj (f := fX5_write (B + 5) a) p1 q1
  obtain rfl := inj (f := fX5_write (B + 5) b) p2 q2
  obtain rfl := inj (f := fX5_write (B + 5) c) p3 q3
  obtain rfl := inj (f := fX5_write (B + 5) d) p4 q4
  obtain rfl := inj (f := fX5_write (B + 5) e) p5 q5
  have R2' : mm_i h5' (B + 66) 17 = nI n := R5.2.2.1
  refine ⟨nI (n + 20), h5', g5, ?_, ?_, (wM_le (fx ow) (by simp)).tr (wM_le (fy ow) (by simp)), RTp_iff.mpr ⟨n + 20, R6.1, ?_, R6.2.2.1, fun k hk => ?_⟩⟩
  · simp only [q_rf, q_lt, q_cl, q_jn, q_b, q_b1, q_ck, kd_I, kd_J, kd_R, n_I, n_J, n_R, r_I, r_J, c_I, c_J, c_R, i_J, i_R, j_I, j_R, y_in, y_isDay, x_within, x_isDay, x_isTown, sb_xreader S, R2, eX, c2, q1, q2, q3, q4, q5, sk0 s1, sk0 s2, sk0 s3, sk0 s4, sk0 s5, sr0_4 s1, sr0_4 s2, sr0_4 s3, sr0_4 s4, sr0_4 s5, sk5 s1, sk5 s2, sk5 s3, sk5 s4, sk5 s5, R6.2.1, q_10, q_01, eq_self, i_I, Nat.reduceEqDiff, Nat.add_left_cancel_iff, Nat.add_eq_left, Nat.left_eq_add, and_false, false_and, and_true, true_and, if_true, if_false, and_self, not_true, not_false_iff, reduceCtorEq]
  · simp only [q_rf, q_lt, q_cl, q_jn, q_b, q_b1, q_ck, kd_I, kd_J, kd_R, n_I, n_J, n_R, r_I, r_J, c_I, c_J, c_R, i_J, i_R, j_I, j_R, y_in, y_isDay, x_within, x_isDay, x_isTown, sk66 s5, R2', eY, c1, r1, r2, r3, r4, r5, sk66 t1, sk66 t2, sk66 t3, sk66 t4, sk66 t5, R6.2.2.1, q_10, q_01, eq_self, i_I, Nat.reduceEqDiff, Nat.add_left_cancel_iff, Nat.add_eq_left, Nat.left_eq_add, and_false, false_and, and_true, true_and, if_true, if_false, and_self, not_true, not_false_iff, reduceCtorEq]
  · rw [(fy ow).iF (m := 9) (by omega) rfl (by decide)]; exact R6.2.1
  · rw [(fy ow).iF (j := 6) (m := 9) (by omega) rfl (by decide)]; exact R6.2.2.2 k hk
theorem T_end (S : mS B h) (R : RTp B h h) (ow : Nat → Nat × Nat) (a : Int32) : ∃ r h1 h2, fX11_end B a h = some (r, h1) ∧ fX12_end (B + 66) a h1 = some (r, h2) ∧ mY B ow [9, 109] h h2 ∧ RTp B h2 h2 := by
  obtain ⟨n, R0⟩ := RTp_iff.mp R
  obtain ⟨R1, R2, R3, R4⟩ := id R0
  unfold fX11_end fX12_end
  by_cases c1 : a < 0
  case pos => exact ⟨-1, h, h, by simp only [c1, if_true], by simp only [c1, if_true], mX.rf S.1, R⟩
  obtain ⟨k, hk, rfl⟩ := nI_of c1
  have e : (nI k ≤ nI n) = (k ≤ n) := propext (nI_leI hk (by omega))
  by_cases c2 : k ≤ n
  case neg => exact ⟨-1, h, h, by simp only [q_rf, q_lt, q_cl, q_jn, q_b, q_b1, q_ck, kd_I, kd_J, kd_R, n_I, n_J, n_R, r_I, r_J, c_I, c_J, c_R, i_J, i_R, j_I, j_R, y_in, y_isDay, x_within, x_isDay, x_isTown, sb_xreader S, R2, c1, e, c2, if_false], by simp only [q_rf, q_lt, q_cl, q_jn, q_b, q_b1, q_ck, kd_I, kd_J, kd_R, n_I, n_J, n_R, r_I, r_J, c_I, c_J, c_R, i_J, i_R, j_I, j_R, y_in, y_isDay, x_within, x_isDay, x_isTown, sk66 S, R3, c1, e, c2, if_false], mX.rf S.1, R⟩
  have x1 : mY B ow [9] h (mm_setI h (B + 5) 1 (nI k)) := (mX.rf S.1).IF (m := 9) (by omega) rfl (by decide)
  have S1 := x1.S S
  have x2 : mY B ow [109] (mm_setI h (B + 5) 1 (nI k)) (mm_setI (mm_setI h (B + 5) 1 (nI k)) (B + 66) 17 (nI k)) := (mX.rf S1.1).IF (m := 109) (by omega) rfl (by decide)
  have w : mm_i (mm_setI h (B + 5) 1 (nI k)) (B + 66) 17 = nI n := by rw [i_I_ne (by omega)]; exact R3
  refine ⟨nI k, mm_setI h (B + 5) 1 (nI k), mm_setI (mm_setI h (B + 5) 1 (nI k)) (B + 66) 17 (nI k), by simp only [q_rf, q_lt, q_cl, q_jn, q_b, q_b1, q_ck, kd_I, kd_J, kd_R, n_I, n_J, n_R, r_I, r_J, c_I, c_J, c_R, i_J, i_R, j_I, j_R, y_in, y_isDay, x_within, x_isDay, x_isTown, sb_xreader S, R2, c1, e, c2, if_true, if_false], by simp only [q_rf, q_lt, q_cl, q_jn, q_b, q_b1, q_ck, kd_I, kd_J, kd_R, n_I, n_J, n_R, r_I, r_J, c_I, c_J, c_R, i_J, i_R, j_I, j_R, y_in, y_isDay, x_within, x_isDay, x_isTown, sk66 S, w, c1, e, c2, if_true, if_false], (wM_le x1 (by simp)).tr (wM_le x2 (by simp)), RTp_iff.mpr ⟨k, by omega, ?_, ?_, fun j hj => ?_⟩⟩
  · rw [i_I_ne (by omega), i_I_eq]
  · rw [i_I_eq]
  · rw [i_I_ne (by omega), i_I_ne (by omega), i_I_ne (by omega), i_I_ne (by omega)]; exact R4 j (by omega)
end FE
