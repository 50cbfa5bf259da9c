/-! the lots: lot, bring -/
def mLot (B : Nat) (hx hy : mm_H) (nm k a : Nat) : Prop := (mm_i hy (B + 74) k = mm_i hx a 0 ∧ 0 ≤ mm_i hx a 0 ∧ mm_i hx a 0 ≤ 7) ∧ mm_i hy (B + 77) k = mm_i hx a 1 ∧ mm_i hy (B + 78) k = mm_i hx a 2 ∧ (mm_i hy (B + 75) k = mm_i hx a 3 ∧ 0 ≤ mm_i hx a 3 ∧ mm_i hx a 3 ≤ 100000) ∧ (mm_i hy (B + 76) k = mm_i hx a 4 ∧ 0 ≤ mm_i hx a 4 ∧ mm_i hx a 4 < nI nm)
def RLt (B : Nat) (ow : Nat → Nat × Nat) (hx hy : mm_H) (nm n : Nat) (al : Nat → Nat) : Prop := n ≤ 200 ∧ mL B ow hx (B + 2) 1 7 n al ∧ mm_i hy (B + 66) 10 = nI n ∧ ∀ k, k < n → mLot B hx hy nm k (al k)
section LT
variable {B : Nat} {h hx hy hx' hy' : mm_H} {ow ow' : Nat → Nat × Nat} {n nm : Nat} {am al : Nat → Nat} {P C : Nat → Nat}
theorem mLot.up {k a : Nat} (M : mLot B hx hy nm k a) {ms : List Nat} (L : Lv B ow hx 2 k a) (x : mY B ow ms hx hx') {ms' : List Nat} (y : mY B ow ms' hy hy') (h1 : 6 ∉ ms ∧ 26 ∉ ms) (h2 : 106 ∉ ms' ∧ 126 ∉ ms') : mLot B hx' hy' nm k a := by
  unfold mLot at *
  rw [y.iF (j := 74) (m := 106) (by omega) rfl h2.1, y.iF (j := 77) (m := 106) (by omega) rfl h2.1, y.iF (j := 78) (m := 106) (by omega) rfl h2.1, y.iF (j := 75) (m := 126) (by omega) rfl h2.2, y.iF (j := 76) (m := 126) (by omega) rfl h2.2, x.iL (m := 6) (k := 0) L rfl h1.1, x.iL (m := 6) (k := 1) L rfl h1.1, x.iL (m := 6) (k := 2) L rfl h1.1, x.iL (m := 26) (k := 3) L rfl h1.2, x.iL (m := 26) (k := 4) L rfl h1.2]
  exact M
theorem mLot.le {k a nm' : Nat} (M : mLot B hx hy nm k a) (e : nm ≤ nm') (e2 : nm' < 2 ^ 31) : mLot B hx hy nm' k a := ⟨M.1, M.2.1, M.2.2.1, M.2.2.2.1, M.2.2.2.2.1, M.2.2.2.2.2.1, Int32.lt_of_lt_of_le M.2.2.2.2.2.2 (nI_le e e2)⟩
theorem RLt.up (R : RLt B ow hx hy nm n al) {ms : List Nat} (x : mY B ow ms hx hx') (o : mO ow ow' hx) {ms' : List Nat} (y : mY B ow ms' hy hy') (h1 : 6 ∉ ms ∧ 26 ∉ ms) (h2 : 106 ∉ ms' ∧ 126 ∉ ms') {nm' : Nat} (h3 : nm ≤ nm') (h4 : nm' < 2 ^ 31) : RLt B ow' hx' hy' nm' n al := by
  obtain ⟨a1, a2, a3, a4⟩ := R
  exact ⟨a1, a2.up2 rfl (by omega) x o (m := 6) rfl rfl (fun _ => rfl) h1.1, (y.iF (m := 106) (by omega) rfl h2.1).trans a3, fun k hk => ((a4 k hk).up (a2.2.2.2 k hk).1 x y h1 h2).le h3 h4⟩
theorem y_isLot (S : mS B hy) {n : Nat} (hn : n < 2 ^ 30) (h2 : mm_i hy (B + 66) 10 = nI n) (a : Int32) : fX12_isLot (B + 66) a hy = some (if ¬ a < 0 ∧ ¬ nI n ≤ a then 1 else 0, hy) := by
  unfold fX12_isLot
  simp only [h2, sk66 S, q_rf, q_lt, q_cl, q_jn, q_b, q_b1, q_ck, kd_I, kd_J, kd_R, n_I, n_J, n_R, r_I, r_J, c_I, c_J, c_R, i_J, i_R, j_I, j_R, y_in, y_isDay, x_within, x_isDay, x_isTown, q_pre (show n < 2 ^ 31 by omega)]
  refine q_ck ?_
  by_cases c : ¬ a < 0 ∧ ¬ nI n ≤ a
  · exact Or.inr (if_pos c)
  · exact Or.inl c
theorem T_lot (S : mS B h) (R : RLt B ow h h nm n al) (a b : Int32) : ∃ r, fX11_lot B a b h = some (r, h) ∧ fX12_lot (B + 66) a b h = some (r, h) := by
  obtain ⟨R1, R2, R3, R4⟩ := id R
  have hsz := x_size (sk2 S) R2
  have hM := y_isLot S (show n < 2 ^ 30 by omega) R3 a
  unfold fX11_lot fX12_lot
  by_cases c1 : a < 0
  case pos =>
    exact ⟨-1, by simp only [c1, if_true], by simp only [q_rf, q_lt, q_cl, q_jn, q_b, q_b1, q_ck, kd_I, kd_J, kd_R, n_I, n_J, n_R, r_I, r_J, c_I, c_J, c_R, i_J, i_R, j_I, j_R, y_in, y_isDay, x_within, x_isDay, x_isTown, sk66 S, R3, hM, c1, q_10, q_01, eq_self, i_I, Nat.reduceEqDiff, Nat.add_left_cancel_iff, Nat.add_eq_left, Nat.left_eq_add, and_false, false_and, and_true, true_and, if_true, if_false, and_self, not_true, not_false_iff, reduceCtorEq]⟩
  obtain ⟨k, hk, rfl⟩ := nI_of c1
  by_cases c2 : k < n
  case neg =>
    have c3 : ¬ nI k < nI n := nI_nlt (by omega) hk
    have c4 : nI n ≤ nI k := nI_le (by omega) hk
    exact ⟨-1, by simp only [q_rf, q_lt, q_cl, q_jn, q_b, q_b1, q_ck, kd_I, kd_J, kd_R, n_I, n_J, n_R, r_I, r_J, c_I, c_J, c_R, i_J, i_R, j_I, j_R, y_in, y_isDay, x_within, x_isDay, x_isTown, sb_xbase S, hsz, c1, c3, if_false], by simp only [q_rf, q_lt, q_cl, q_jn, q_b, q_b1, q_ck, kd_I, kd_J, kd_R, n_I, n_J, n_R, r_I, r_J, c_I, c_J, c_R, i_J, i_R, j_I, j_R, y_in, y_isDay, x_within, x_isDay, x_isTown, sk66 S, R3, hM, c4, q_10, q_01, eq_self, i_I, Nat.reduceEqDiff, Nat.add_left_cancel_iff, Nat.add_eq_left, Nat.left_eq_add, and_false, false_and, and_true, true_and, if_true, if_false, and_self, not_true, not_false_iff, reduceCtorEq]⟩
  have c3 : nI k < nI n := nI_lt c2 (by omega)
  have c4 : ¬ nI n ≤ nI k := nI_ge c2 (by omega)
  have hg := x_get (sk2 S) R2 c2
  have kd7 := (R2.2.2.2 k c2).2
  obtain ⟨m1, m2, m3, m4, m5⟩ := R4 k c2
  have hx := fun (β : Type) (z : Option β) => q_ckx (show k < 200 by omega) (by decide) z
  have hc := nI_clamp (n := k) hk
  have hL : ∀ r : Int32, r = (if b = 0 then mm_i h (al k) 0 else if b = 1 then mm_i h (al k) 3 else if b = 2 then mm_i h (al k) 4 else if b = 3 then mm_i h (al k) 1 else if b = 4 then mm_i h (al k) 2 else -1) → (if b = 0 then some (mm_i h (al k) 0, h) else if b = 1 then some (mm_i h (al k) 3, h) else if b = 2 then some (mm_i h (al k) 4, h) else if b = 3 then some (mm_i h (al k) 1, h) else if b = 4 then some (mm_i h (al k) 2, h) else some ((-1 : Int32), h)) = some (r, h) := by
    intro r e
    subst e
    repeat' split
    all_goals rfl
  refine ⟨_, by simp only [q_rf, q_lt, q_cl, q_jn, q_b, q_b1, q_ck, kd_I, kd_J, kd_R, n_I, n_J, n_R, r_I, r_J, c_I, c_J, c_R, i_J, i_R, j_I, j_R, y_in, y_isDay, x_within, x_isDay, x_isTown, sb_xbase S, hsz, hg, kd7, c1, c3, if_false, if_true]; exact hL _ rfl, ?_⟩
  simp only [q_rf, q_lt, q_cl, q_jn, q_b, q_b1, q_ck, kd_I, kd_J, kd_R, n_I, n_J, n_R, r_I, r_J, c_I, c_J, c_R, i_J, i_R, j_I, j_R, y_in, y_isDay, x_within, x_isDay, x_isTown, sb_ylots S, R3, hM, c1, c4, hx, hc, m1.1, m2, m3, m4.1, m5.1, not_false_iff, and_self, not_true, if_true, if_false]
  exact hL _ rfl
end LT
