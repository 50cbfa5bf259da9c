/-! call, on -/
section CB
variable {B : Nat} {h hx hy hx' hy' : mm_H} {ow ow' : Nat → Nat × Nat} {n nm nl nb : Nat} {am al : Nat → Nat} {P C : Nat → Nat} {A U U' : Nat → Nat → Nat} {T : Nat → Int32} {x : Nat}
theorem le_11 {ms : List Nat} (x : mY B ow ms hx hx') (h : 1 ∉ ms) : mm_i hx B 11 ≤ mm_i hx' B 11 := by
  rw [x.i0 (m := 1) rfl h]; exact Int32.le_refl _
theorem J_call_L {k q : Nat} (hk : k < n) : ∀ (e i : Nat) (hx hy : mm_H) (P C : Nat → Nat) (U : Nat → Nat → Nat) (acc : Int32) (fuel fuel' : Nat), i + e = q → U 3 k = q → e < fuel → e < fuel' → mS B hx → mS B hy → RMn B ow hx hy nm am → RBg B ow hx hy nm n A U T → RCx B hx hy nm am P C x → ∃ r hx' hy' P' C' U', (∀ K, fX11_call_L43 B (some (A 0 k)) K fuel acc (nI i) hx = K r hx') ∧ (∀ K, fX12_call_L46 (B + 66) (nI k) K fuel' acc (nI i) hy = K r hy') ∧ mY B ow [2, 27] hx hx' ∧ (∀ o : Nat → Nat × Nat, mY B o [102, 127] hy hy') ∧ RCx B hx' hy' nm am P' C' x ∧ RBg B ow hx' hy' nm n A U' T := by
  intro e
  induction e with
  | zero =>
    intro i hx hy P C U acc fuel fuel' hi hq hf hf' S S' M R Q
    obtain ⟨f, rfl⟩ : ∃ f, fuel = f + 1 := ⟨fuel - 1, by omega⟩
    obtain ⟨f', rfl⟩ : ∃ f, fuel' = f + 1 := ⟨fuel' - 1, by omega⟩
    have n9 := R.1
    have kdA := (R.2.1.2.2.2 k hk).2
    obtain ⟨d1, d2, d3⟩ := (R.2.2.2.1 k hk).1.2.2.2.1
    have e1 : nI (U 3 k) ≤ nI i := nI_le (by omega) (by omega)
    have hq1 := fun (β : Type) (z : Option β) => q_ckx (show k < 300 by omega) (by decide) z
    have hcl := nI_clamp (n := k) (by omega)
    refine ⟨acc, hx, hy, P, C, U, fun K => ?_, fun K => ?_, mX.rf S.1, fun o => mX.rf S'.1, Q, R⟩
    · show fX11_call_L43_b _ _ _ _ _ _ _ = _
      unfold fX11_call_L43_b
      simp only [q_rf, q_lt, q_cl, q_jn, q_b, q_b1, q_ck, kd_I, kd_J, kd_R, n_I, n_J, n_R, r_I, r_J, c_I, c_J, c_R, i_J, i_R, j_I, j_R, y_in, y_isDay, x_within, x_isDay, x_isTown, kdA, d1, e1, if_true]
    · show fX12_call_L46_b _ _ _ _ _ _ _ = _
      unfold fX12_call_L46_b
      simp only [q_rf, q_lt, q_cl, q_jn, q_b, q_b1, q_ck, kd_I, kd_J, kd_R, n_I, n_J, n_R, r_I, r_J, c_I, c_J, c_R, i_J, i_R, j_I, j_R, y_in, y_isDay, x_within, x_isDay, x_isTown, sb_ybarg S', hq1, hcl, d2, e1, if_true]
  | succ e ih =>
    intro i hx hy P C U acc fuel fuel' hi hq hf hf' S S' M R Q
    obtain ⟨f, rfl⟩ : ∃ f, fuel = f + 1 := ⟨fuel - 1, by omega⟩
    obtain ⟨f', rfl⟩ : ∃ f, fuel' = f + 1 := ⟨fuel' - 1, by omega⟩
    have n9 := R.1
    have kdA := (R.2.1.2.2.2 k hk).2
    obtain ⟨d1, d2, d3⟩ := (R.2.2.2.1 k hk).1.2.2.2.1
    have e1 : ¬ nI (U 3 k) ≤ nI i := nI_ge (by omega) (by omega)
    obtain ⟨s, g, g', P1, C1, p1, p2, p3, p4, p5, p6, p7⟩ := J_callS S S' M R Q hk (i := i) (by omega)
    have M1 := M.up p3 mO.rf (p4 ow) (by decide) (by decide) (le_11 p3 (by decide))
    obtain ⟨r, hx', hy', P', C', U', q1, q2, q3, q4, q5, q6⟩ := ih (i + 1) g g' P1 C1 _ (acc + nI s) f f' (by omega) (by rw [upU_ne (by omega), upU_ne (by omega)]; exact hq) (by omega) (by omega) (p3.S S) ((p4 ow).S S') M1 p7 p5
    refine ⟨r, hx', hy', P', C', U', fun K => ?_, fun K => ?_, p3.tr q3, fun o => (p4 o).tr (q4 o), q5, q6⟩
    · rw [← q1 K]
      show fX11_call_L43_b _ _ _ _ _ _ _ = _
      unfold fX11_call_L43_b
      simp only [q_rf, q_lt, q_cl, q_jn, q_b, q_b1, q_ck, kd_I, kd_J, kd_R, n_I, n_J, n_R, r_I, r_J, c_I, c_J, c_R, i_J, i_R, j_I, j_R, y_in, y_isDay, x_within, x_isDay, x_isTown, sk0 S, kdA, d1, e1, p1, nI_1, if_false]
    · rw [← q2 K]
      exact p2 _ _ _
theorem J_call (S : mS B hx) (S' : mS B hy) (M : RMn B ow hx hy nm am) (R : RBg B ow hx hy nm n A U T) (Q : RCx B hx hy nm am P C x) {k : Nat} (hk : k < n) : ∃ v g g' r hx' hy' P' C' U', fX11_payOwed B (A 0 k) (nI (U 2 k)) hx = some (v, g) ∧ fX12_pays (B + 66) (nI k) (nI (U 2 k)) hy = some (v, g') ∧ (∀ K, fX11_call_L43 B (some (A 0 k)) K mm_F v 0 g = K r hx') ∧ (∀ K, fX12_call_L46 (B + 66) (nI k) K mm_F v 0 g' = K r hy') ∧ mY B ow [2, 27] hx hx' ∧ (∀ o : Nat → Nat × Nat, mY B o [102, 127] hy hy') ∧ RCx B hx' hy' nm am P' C' x ∧ RBg B ow hx' hy' nm n A U' T := by
  have hO := (R.2.2.2.1 k hk).1.2.2.2.2.2.2.2.2.2
  have d3 := (R.2.2.2.1 k hk).1.2.2.2.1.2.2
  obtain ⟨g, g', P1, C1, p1, p2, p3, p4, p5, p6⟩ := J_pays S S' M R Q hk (c := U 2 k) (by omega)
  have M1 := M.up p3 mO.rf (p4 ow) (by decide) (by decide) (le_11 p3 (by decide))
  obtain ⟨r, hx', hy', P', C', U', q1, q2, q3, q4, q5, q6⟩ := J_call_L (q := U 3 k) (ow := ow) hk (U 3 k) 0 g g' P1 C1 _ (nI (min (min (U 2 k) (U 2 k)) (P (U 1 k)))) mm_F mm_F (by omega) (by rw [upU_ne (by omega)]) (by unfold mm_F; omega) (by unfold mm_F; omega) (p3.S S) ((p4 ow).S S') M1 p6 p5
  rw [nI_0] at q1 q2
  exact ⟨_, g, g', r, hx', hy', P', C', U', p1, p2, q1, q2, p3.tr q3, fun o => (p4 o).tr (q4 o), q5, q6⟩
theorem T_call (S : mS B h) (N : RNow B h) (M : RMn B ow h h nm am) (R : RBg B ow h h nm n A U T) (Q : RCo B h h nm am P C) (a : Int32) : ∃ r h1 h2 P' C' U', fX11_call B a h = some (r, h1) ∧ fX12_call (B + 66) a h1 = some (r, h2) ∧ mY B ow [2, 27, 102, 127] h h2 ∧ RCo B h2 h2 nm am P' C' ∧ RBg B ow h2 h2 nm n A U' T := by
  have hB := S.1
  have same : mY B ow [2, 27, 102, 127] h h := mX.rf hB
  obtain ⟨f1, f2⟩ := x_bargainAt S R.2.1
  obtain ⟨g1, g2⟩ := y_isBargain S R.2.2.1 R.1
  unfold fX11_call fX12_call
  by_cases c1 : ∃ k, k < n ∧ a = nI k
  case neg => exact ⟨-1, h, h, P, C, U, by simp only [q_rf, q_lt, q_cl, q_jn, q_b, q_b1, q_ck, kd_I, kd_J, kd_R, n_I, n_J, n_R, r_I, r_J, c_I, c_J, c_R, i_J, i_R, j_I, j_R, y_in, y_isDay, x_within, x_isDay, x_isTown, sk0 S, f2 a c1, q_10, q_01, eq_self, i_I, Nat.reduceEqDiff, Nat.add_left_cancel_iff, Nat.add_eq_left, Nat.left_eq_add, and_false, false_and, and_true, true_and, if_true, if_false, and_self, not_true, not_false_iff, reduceCtorEq], by simp only [q_rf, q_lt, q_cl, q_jn, q_b, q_b1, q_ck, kd_I, kd_J, kd_R, n_I, n_J, n_R, r_I, r_J, c_I, c_J, c_R, i_J, i_R, j_I, j_R, y_in, y_isDay, x_within, x_isDay, x_isTown, sk66 S, g2 a c1, q_10, q_01, eq_self, i_I, Nat.reduceEqDiff, Nat.add_left_cancel_iff, Nat.add_eq_left, Nat.left_eq_add, and_false, false_and, and_true, true_and, if_true, if_false, and_self, not_true, not_false_iff, reduceCtorEq], same, Q, R⟩
  obtain ⟨k, hk, rfl⟩ := c1
  have n9 := R.1
  have kdA := (R.2.1.2.2.2 k hk).2
  have M0 := (R.2.2.2.1 k hk).1
  have hq := fun (β : Type) (z : Option β) => q_ckx (show k < 300 by omega) (by decide) z
  have hcl := nI_clamp (n := k) (by omega)
  have o6 := M0.2.2.1.1
  have o7 := M0.2.2.1.2
  have o4 := M0.2.2.2.2.1.2.2.1
  have hO := M0.2.2.2.2.2.2.2.2.2
  by_cases c4 : U 2 k = 0
  case pos =>
    have e0 : nI (U 2 k) = 0 := by rw [c4]; exact nI_0
    exact ⟨-1, h, h, P, C, U, by simp only [q_rf, q_lt, q_cl, q_jn, q_b, q_b1, q_ck, kd_I, kd_J, kd_R, n_I, n_J, n_R, r_I, r_J, c_I, c_J, c_R, i_J, i_R, j_I, j_R, y_in, y_isDay, x_within, x_isDay, x_isTown, sk0 S, f1 k hk, kdA, o6, e0, reduceCtorEq, q_10, q_01, eq_self, i_I, Nat.reduceEqDiff, Nat.add_left_cancel_iff, Nat.add_eq_left, Nat.left_eq_add, and_false, false_and, and_true, true_and, if_true, if_false, and_self, not_true, not_false_iff, reduceCtorEq], by simp only [q_rf, q_lt, q_cl, q_jn, q_b, q_b1, q_ck, kd_I, kd_J, kd_R, n_I, n_J, n_R, r_I, r_J, c_I, c_J, c_R, i_J, i_R, j_I, j_R, y_in, y_isDay, x_within, x_isDay, x_isTown, sb_ybarg S, g1 k hk, hq, hcl, o7, e0, q_10, q_01, eq_self, i_I, Nat.reduceEqDiff, Nat.add_left_cancel_iff, Nat.add_eq_left, Nat.left_eq_add, and_false, false_and, and_true, true_and, if_true, if_false, and_self, not_true, not_false_iff, reduceCtorEq], same, Q, R⟩
  have e0 : ¬ nI (U 2 k) = 0 := nI_ne0 (by omega) (by omega)
  by_cases c5 : mm_i h (A 0 k) 4 < mm_i h B 11
  case neg => exact ⟨-1, h, h, P, C, U, by simp only [q_rf, q_lt, q_cl, q_jn, q_b, q_b1, q_ck, kd_I, kd_J, kd_R, n_I, n_J, n_R, r_I, r_J, c_I, c_J, c_R, i_J, i_R, j_I, j_R, y_in, y_isDay, x_within, x_isDay, x_isTown, sk0 S, f1 k hk, kdA, o6, e0, c5, reduceCtorEq, q_10, q_01, eq_self, i_I, Nat.reduceEqDiff, Nat.add_left_cancel_iff, Nat.add_eq_left, Nat.left_eq_add, and_false, false_and, and_true, true_and, if_true, if_false, and_self, not_true, not_false_iff, reduceCtorEq], by simp only [q_rf, q_lt, q_cl, q_jn, q_b, q_b1, q_ck, kd_I, kd_J, kd_R, n_I, n_J, n_R, r_I, r_J, c_I, c_J, c_R, i_J, i_R, j_I, j_R, y_in, y_isDay, x_within, x_isDay, x_isTown, sb_ybarg S, g1 k hk, hq, hcl, o7, o4, N.1, e0, c5, q_10, q_01, eq_self, i_I, Nat.reduceEqDiff, Nat.add_left_cancel_iff, Nat.add_eq_left, Nat.left_eq_add, and_false, false_and, and_true, true_and, if_true, if_false, and_self, not_true, not_false_iff, reduceCtorEq], same, Q, R⟩
  have Q0 := RCx_0.mpr Q
  obtain ⟨v, g, -, r, h1, -, -, -, -, p1, -, p2, -, p3, -⟩ := J_call S S M R Q0 hk
  have S1 := p3.S S
  have M1 : RMn B ow h h1 nm am := M.up (ms := []) (mX.rf hB) mO.rf p3 (by decide) (by decide) (Int32.le_refl _)
  have R1 : RBg B ow h h1 nm n A U T := R.up (ms := []) (mX.rf hB) mO.rf p3 (by decide) (by decide) (by decide)
  have Q1 := Q0.up (ms := []) M.2.1 (mX.rf hB) p3 (by decide) (by decide)
  obtain ⟨v', g', gy, r', h1', h2, P', C', U', q1, q2, q3, q4, q5, q6, q7, q8⟩ := J_call S S1 M1 R1 Q1 hk
  rw [q1] at p1
  obtain ⟨e1, e2⟩ := Prod.mk.inj (Option.some.inj p1)
  subst e1
  subst e2
  have hK := (q3 (fun r g => some (r, g))).symm.trans (p2 (fun r g => some (r, g)))
  obtain ⟨e1, e2⟩ := Prod.mk.inj (Option.some.inj hK)
  subst e1
  subst e2
  have S2 := (q6 ow).S S1
  have M2 := (M.up q5 mO.rf (mX.rf (W := wM B ow []) hB) (by decide) (by decide) (le_11 q5 (by decide))).2.1
  obtain ⟨g1', -⟩ := y_isBargain S1 R1.2.2.1 R1.1
  have M9 := (R1.2.2.2.1 k hk).1
  have o7' : mm_i h1' (B + 100) k = nI (U 2 k) := M9.2.2.1.2
  have o4' : mm_i h1' (B + 101) k = mm_i h (A 0 k) 4 := M9.2.2.2.2.1.2.2.1
  have N1' : mm_i h1' (B + 66) 1 = mm_i h B 11 := (q5.iF (m := 101) (by omega) rfl (by decide)).trans N.1
  refine ⟨r', h1', h2, P', C', U', ?_, ?_, (wM_le q5 (by simp)).tr (wM_le (q6 ow) (by simp)), ?_, ?_⟩
  · simp only [q_rf, q_lt, q_cl, q_jn, q_b, q_b1, q_ck, kd_I, kd_J, kd_R, n_I, n_J, n_R, r_I, r_J, c_I, c_J, c_R, i_J, i_R, j_I, j_R, y_in, y_isDay, x_within, x_isDay, x_isTown, sk0 S, f1 k hk, kdA, o6, e0, c5, q1, reduceCtorEq, q_10, q_01, eq_self, i_I, Nat.reduceEqDiff, Nat.add_left_cancel_iff, Nat.add_eq_left, Nat.left_eq_add, and_false, false_and, and_true, true_and, if_true, if_false, and_self, not_true, not_false_iff, reduceCtorEq]
    rw [q3]
  · simp only [q_rf, q_lt, q_cl, q_jn, q_b, q_b1, q_ck, kd_I, kd_J, kd_R, n_I, n_J, n_R, r_I, r_J, c_I, c_J, c_R, i_J, i_R, j_I, j_R, y_in, y_isDay, x_within, x_isDay, x_isTown, sb_ybarg S1, g1' k hk, hq, hcl, o7', o4', N1', e0, c5, q2, q_10, q_01, eq_self, i_I, Nat.reduceEqDiff, Nat.add_left_cancel_iff, Nat.add_eq_left, Nat.left_eq_add, and_false, false_and, and_true, true_and, if_true, if_false, and_self, not_true, not_false_iff, reduceCtorEq]
    rw [q4]
  · exact RCx_0.mp (q7.up (ms' := []) M2 (q6 ow) (mX.rf S2.1) (by decide) (by decide))
  · exact q8.up (q6 ow) mO.rf (ms' := []) (mX.rf S2.1) (by decide) (by decide) (by decide)
end CB
