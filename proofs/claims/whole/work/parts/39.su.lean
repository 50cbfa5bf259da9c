/-! theirs -/
section SU
variable {B : Nat} {h : mm_H} {n : Nat}
theorem q_cap (v : Int64) : fX8_capped v h = some (if lg_cmp v 2000000000 ≤ 0 then v.toInt32 else 2000000000, h) := by
  unfold fX8_capped
  simp only [q_lt, lg_cmp_le]
  by_cases e : (2000000000 : Int64) < v
  · rw [if_pos e, if_neg (Int64.not_le.mpr e)]; rfl
  · rw [if_neg e, if_pos (Int64.not_lt.mp e)]
theorem s_1 (O : Nat → Nat) (o : Option Nat) (ho : ∀ k, o = some k → 2 ≤ O k ∧ O k ≤ 100000) : (1 ≤ (sD O o).toInt32) = ¬ sD O o = 0 := by
  cases o with
  | none => exact propext ⟨fun z => absurd z (show ¬ 1 ≤ (0 : Int64).toInt32 by decide), fun z => absurd rfl z⟩
  | some k =>
    obtain ⟨h1, h2⟩ := ho k rfl
    simp only [sD, lN_i]
    refine propext ⟨fun _ z => ?_, fun _ => nI_le (a := 1) (by omega) (by omega)⟩
    have := (lN_eq (a := O k - 1) (b := 0) (by omega) (by decide)).mp z
    omega
theorem s_2 (O : Nat → Nat) (o : Option Nat) (ho : ∀ k, o = some k → 2 ≤ O k ∧ O k ≤ 100000) : (1 ≤ (sB O o).toInt32) ∧ ¬ sB O o = 0 := by
  cases o with
  | none => exact ⟨show 1 ≤ (1 : Int64).toInt32 by decide, show ¬ (1 : Int64) = 0 by decide⟩
  | some k =>
    obtain ⟨h1, h2⟩ := ho k rfl
    simp only [sB, lN_i]
    refine ⟨nI_le (a := 1) (by omega) (by omega), fun z => ?_⟩
    have := (lN_eq (a := O k + 1) (b := 0) (by omega) (by decide)).mp z
    omega
theorem s_64A (O : Nat → Nat) (o : Option Nat) (ho : ∀ k, o = some k → O k ≤ 100000) : (sA O o).toInt32.toInt64 = sA O o := by
  cases o with
  | none => exact (show ((0 : Int64).toInt32).toInt64 = 0 by decide)
  | some k => have := ho k rfl; simp only [sA, lN_i]; exact nI_l (by omega)
theorem s_64B (O : Nat → Nat) (o : Option Nat) (ho : ∀ k, o = some k → O k ≤ 100000) : (sB O o).toInt32.toInt64 = sB O o := by
  cases o with
  | none => exact (show ((1 : Int64).toInt32).toInt64 = 1 by decide)
  | some k => have := ho k rfl; simp only [sB, lN_i]; exact nI_l (by omega)
theorem s_64C (O : Nat → Nat) (o : Option Nat) (ho : ∀ k, o = some k → O k ≤ 100000) : (sC O o).toInt32.toInt64 = sC O o := by
  cases o with
  | none => exact (show ((1 : Int64).toInt32).toInt64 = 1 by decide)
  | some k => have := ho k rfl; simp only [sC, lN_i]; exact nI_l (by omega)
theorem s_64D (O : Nat → Nat) (o : Option Nat) (ho : ∀ k, o = some k → O k ≤ 100000) : (sD O o).toInt32.toInt64 = sD O o := by
  cases o with
  | none => exact (show ((0 : Int64).toInt32).toInt64 = 0 by decide)
  | some k => have := ho k rfl; simp only [sD, lN_i]; exact nI_l (by omega)
theorem T_theirs (S : mS B h) (R : RWe B h) (a b c d : Int32) : ∃ r h1 h2, fX11_theirs B a b c d h = some (r, h1) ∧ fX12_theirs (B + 66) a b c d h1 = some (r, h2) ∧ mW (wSp B) h h2 := by
  obtain ⟨n, R2, hK⟩ := RWe_2 R
  unfold fX11_theirs fX12_theirs
  by_cases c1 : 0 ≤ a ∧ a ≤ 7
  case neg => exact ⟨-1, h, h, by simp only [c1, x_isKind, q_rf, q_lt, q_cl, q_jn, q_b, q_b1, q_ck, kd_I, kd_J, kd_R, n_I, n_J, n_R, r_I, r_J, c_I, c_J, c_R, i_J, i_R, j_I, j_R, y_in, y_isDay, x_within, x_isDay, x_isTown, q_10, q_01, eq_self, i_I, Nat.reduceEqDiff, Nat.add_left_cancel_iff, Nat.add_eq_left, Nat.left_eq_add, and_false, false_and, and_true, true_and, if_true, if_false, and_self, not_true, not_false_iff, reduceCtorEq, sb_xmeas S], by simp only [c1, q_rf, q_lt, q_cl, q_jn, q_b, q_b1, q_ck, kd_I, kd_J, kd_R, n_I, n_J, n_R, r_I, r_J, c_I, c_J, c_R, i_J, i_R, j_I, j_R, y_in, y_isDay, x_within, x_isDay, x_isTown, q_10, q_01, eq_self, i_I, Nat.reduceEqDiff, Nat.add_left_cancel_iff, Nat.add_eq_left, Nat.left_eq_add, and_false, false_and, and_true, true_and, if_true, if_false, and_self, not_true, not_false_iff, reduceCtorEq, sb_yweigh S], mW.rf⟩
  by_cases c2 : 0 ≤ b ∧ b ≤ 1000000
  case neg => exact ⟨-1, h, h, by simp only [c1, c2, x_isKind, q_rf, q_lt, q_cl, q_jn, q_b, q_b1, q_ck, kd_I, kd_J, kd_R, n_I, n_J, n_R, r_I, r_J, c_I, c_J, c_R, i_J, i_R, j_I, j_R, y_in, y_isDay, x_within, x_isDay, x_isTown, q_10, q_01, eq_self, i_I, Nat.reduceEqDiff, Nat.add_left_cancel_iff, Nat.add_eq_left, Nat.left_eq_add, and_false, false_and, and_true, true_and, if_true, if_false, and_self, not_true, not_false_iff, reduceCtorEq, sb_xmeas S], by simp only [c1, c2, q_rf, q_lt, q_cl, q_jn, q_b, q_b1, q_ck, kd_I, kd_J, kd_R, n_I, n_J, n_R, r_I, r_J, c_I, c_J, c_R, i_J, i_R, j_I, j_R, y_in, y_isDay, x_within, x_isDay, x_isTown, q_10, q_01, eq_self, i_I, Nat.reduceEqDiff, Nat.add_left_cancel_iff, Nat.add_eq_left, Nat.left_eq_add, and_false, false_and, and_true, true_and, if_true, if_false, and_self, not_true, not_false_iff, reduceCtorEq, sb_yweigh S], mW.rf⟩
  by_cases c3 : 0 ≤ c ∧ c ≤ 3999
  case neg => exact ⟨-1, h, h, by simp only [c1, c2, c3, x_isKind, q_rf, q_lt, q_cl, q_jn, q_b, q_b1, q_ck, kd_I, kd_J, kd_R, n_I, n_J, n_R, r_I, r_J, c_I, c_J, c_R, i_J, i_R, j_I, j_R, y_in, y_isDay, x_within, x_isDay, x_isTown, q_10, q_01, eq_self, i_I, Nat.reduceEqDiff, Nat.add_left_cancel_iff, Nat.add_eq_left, Nat.left_eq_add, and_false, false_and, and_true, true_and, if_true, if_false, and_self, not_true, not_false_iff, reduceCtorEq, sb_xmeas S], by simp only [c1, c2, c3, q_rf, q_lt, q_cl, q_jn, q_b, q_b1, q_ck, kd_I, kd_J, kd_R, n_I, n_J, n_R, r_I, r_J, c_I, c_J, c_R, i_J, i_R, j_I, j_R, y_in, y_isDay, x_within, x_isDay, x_isTown, q_10, q_01, eq_self, i_I, Nat.reduceEqDiff, Nat.add_left_cancel_iff, Nat.add_eq_left, Nat.left_eq_add, and_false, false_and, and_true, true_and, if_true, if_false, and_self, not_true, not_false_iff, reduceCtorEq, sb_yweigh S], mW.rf⟩
  by_cases c4 : 0 ≤ d ∧ d ≤ 1
  case neg => exact ⟨-1, h, h, by simp only [c1, c2, c3, c4, x_isKind, q_rf, q_lt, q_cl, q_jn, q_b, q_b1, q_ck, kd_I, kd_J, kd_R, n_I, n_J, n_R, r_I, r_J, c_I, c_J, c_R, i_J, i_R, j_I, j_R, y_in, y_isDay, x_within, x_isDay, x_isTown, q_10, q_01, eq_self, i_I, Nat.reduceEqDiff, Nat.add_left_cancel_iff, Nat.add_eq_left, Nat.left_eq_add, and_false, false_and, and_true, true_and, if_true, if_false, and_self, not_true, not_false_iff, reduceCtorEq, sb_xmeas S], by simp only [c1, c2, c3, c4, q_rf, q_lt, q_cl, q_jn, q_b, q_b1, q_ck, kd_I, kd_J, kd_R, n_I, n_J, n_R, r_I, r_J, c_I, c_J, c_R, i_J, i_R, j_I, j_R, y_in, y_isDay, x_within, x_isDay, x_isTown, q_10, q_01, eq_self, i_I, Nat.reduceEqDiff, Nat.add_left_cancel_iff, Nat.add_eq_left, Nat.left_eq_add, and_false, false_and, and_true, true_and, if_true, if_false, and_self, not_true, not_false_iff, reduceCtorEq, sb_yweigh S], mW.rf⟩
  have hK := hK a c c3
  have hl := fun k (e : bestF (yKn h B a c) (g_lx (wO h B) (wT h B)) n = some k) => bestF_lt e
  have hu := fun k (e : bestF (yKn h B a c) (g_ux (wO h B) (wT h B)) n = some k) => bestF_lt e
  have bl := fun k e => (R2.2.2.2 k (hl k e))
  have bu := fun k e => (R2.2.2.2 k (hu k e))
  have g0 := x_gl S R2 hK
  have g1 := x_lu S R2 hK
  have g2 := x_la S R2 _ hl
  have g3 := x_lb S R2 _ hl
  have g4 := x_ua S R2 _ hu
  have g5 := x_ub S R2 _ hu
  have g6 := x_greater S R2 hK
  have hy := y_spans S R2 a c
  unfold stF at hy
  have k1 := s_1 (wO h B) _ fun k e => (bu k e).1.2.2
  have k2 := s_2 (wO h B) _ fun k e => (bl k e).1.2.2
  have k3 := s_64A (wT h B) _ fun k e => (bl k e).2.2.2.2
  have k4 := s_64B (wO h B) _ fun k e => (bl k e).1.2.2.2
  have k5 := s_64C (wT h B) _ fun k e => (bu k e).2.2.2.2
  have k6 := s_64D (wO h B) _ fun k e => (bu k e).1.2.2.2
  by_cases z : sG (qF (wO h B) (wT h B) (yKn h B a c) n) = -1
  case neg => exact ⟨-2, h, _, by simp only [c1, c2, c3, c4, x_isKind, q_rf, q_lt, q_cl, q_jn, q_b, q_b1, q_ck, kd_I, kd_J, kd_R, n_I, n_J, n_R, r_I, r_J, c_I, c_J, c_R, i_J, i_R, j_I, j_R, y_in, y_isDay, x_within, x_isDay, x_isTown, q_10, q_01, eq_self, i_I, Nat.reduceEqDiff, Nat.add_left_cancel_iff, Nat.add_eq_left, Nat.left_eq_add, and_false, false_and, and_true, true_and, if_true, if_false, and_self, not_true, not_false_iff, reduceCtorEq, sb_xmeas S, g6, z], by simp only [c1, c2, c3, c4, q_rf, q_lt, q_cl, q_jn, q_b, q_b1, q_ck, kd_I, kd_J, kd_R, n_I, n_J, n_R, r_I, r_J, c_I, c_J, c_R, i_J, i_R, j_I, j_R, y_in, y_isDay, x_within, x_isDay, x_isTown, q_10, q_01, eq_self, i_I, Nat.reduceEqDiff, Nat.add_left_cancel_iff, Nat.add_eq_left, Nat.left_eq_add, and_false, false_and, and_true, true_and, if_true, if_false, and_self, not_true, not_false_iff, reduceCtorEq, sb_yweigh S, hy, spH_kd, spH_i72, z]; rfl, spH_W⟩
  generalize sA (wT h B) (bestF (yKn h B a c) (g_lx (wO h B) (wT h B)) n) = vA at *
  generalize sB (wO h B) (bestF (yKn h B a c) (g_lx (wO h B) (wT h B)) n) = vB at *
  generalize sC (wT h B) (bestF (yKn h B a c) (g_ux (wO h B) (wT h B)) n) = vC at *
  generalize sD (wO h B) (bestF (yKn h B a c) (g_ux (wO h B) (wT h B)) n) = vD at *
  by_cases e : d = 0
  · subst e
    by_cases w : lg_cmp (b.toInt64 * vA / vB) 2000000000 ≤ 0
    · exact ⟨(b.toInt64 * vA / vB).toInt32, h, _, by simp only [c1, c2, c3, c4, x_isKind, q_rf, q_lt, q_cl, q_jn, q_b, q_b1, q_ck, kd_I, kd_J, kd_R, n_I, n_J, n_R, r_I, r_J, c_I, c_J, c_R, i_J, i_R, j_I, j_R, y_in, y_isDay, x_within, x_isDay, x_isTown, q_10, q_01, eq_self, i_I, Nat.reduceEqDiff, Nat.add_left_cancel_iff, Nat.add_eq_left, Nat.left_eq_add, and_false, false_and, and_true, true_and, if_true, if_false, and_self, not_true, not_false_iff, reduceCtorEq, sb_xmeas S, g6, z, fX8_leastOf, g0, g2, g3, k2.1, k3, k4, k2.2, q_cap, w], by simp only [c1, c2, c3, c4, q_rf, q_lt, q_cl, q_jn, q_b, q_b1, q_ck, kd_I, kd_J, kd_R, n_I, n_J, n_R, r_I, r_J, c_I, c_J, c_R, i_J, i_R, j_I, j_R, y_in, y_isDay, x_within, x_isDay, x_isTown, q_10, q_01, eq_self, i_I, Nat.reduceEqDiff, Nat.add_left_cancel_iff, Nat.add_eq_left, Nat.left_eq_add, and_false, false_and, and_true, true_and, if_true, if_false, and_self, not_true, not_false_iff, reduceCtorEq, sb_yweigh S, hy, spH_kd, spH_i72, spH_j67, spH_j68, z, k2.2, w]; rfl, spH_W⟩
    · exact ⟨2000000000, h, _, by simp only [c1, c2, c3, c4, x_isKind, q_rf, q_lt, q_cl, q_jn, q_b, q_b1, q_ck, kd_I, kd_J, kd_R, n_I, n_J, n_R, r_I, r_J, c_I, c_J, c_R, i_J, i_R, j_I, j_R, y_in, y_isDay, x_within, x_isDay, x_isTown, q_10, q_01, eq_self, i_I, Nat.reduceEqDiff, Nat.add_left_cancel_iff, Nat.add_eq_left, Nat.left_eq_add, and_false, false_and, and_true, true_and, if_true, if_false, and_self, not_true, not_false_iff, reduceCtorEq, sb_xmeas S, g6, z, fX8_leastOf, g0, g2, g3, k2.1, k3, k4, k2.2, q_cap, w], by simp only [c1, c2, c3, c4, q_rf, q_lt, q_cl, q_jn, q_b, q_b1, q_ck, kd_I, kd_J, kd_R, n_I, n_J, n_R, r_I, r_J, c_I, c_J, c_R, i_J, i_R, j_I, j_R, y_in, y_isDay, x_within, x_isDay, x_isTown, q_10, q_01, eq_self, i_I, Nat.reduceEqDiff, Nat.add_left_cancel_iff, Nat.add_eq_left, Nat.left_eq_add, and_false, false_and, and_true, true_and, if_true, if_false, and_self, not_true, not_false_iff, reduceCtorEq, sb_yweigh S, hy, spH_kd, spH_i72, spH_j67, spH_j68, z, k2.2, w]; rfl, spH_W⟩
  · have z1 : ¬ (1 : Int32) ≤ (0 : Int64).toInt32 := by decide
    by_cases y : vD = 0
    · exact ⟨2000000000, h, _, by simp only [c1, c2, c3, c4, e, x_isKind, q_rf, q_lt, q_cl, q_jn, q_b, q_b1, q_ck, kd_I, kd_J, kd_R, n_I, n_J, n_R, r_I, r_J, c_I, c_J, c_R, i_J, i_R, j_I, j_R, y_in, y_isDay, x_within, x_isDay, x_isTown, q_10, q_01, eq_self, i_I, Nat.reduceEqDiff, Nat.add_left_cancel_iff, Nat.add_eq_left, Nat.left_eq_add, and_false, false_and, and_true, true_and, if_true, if_false, and_self, not_true, not_false_iff, reduceCtorEq, sb_xmeas S, g6, z, fX8_mostOf, g1, g4, g5, z1, y], by simp only [c1, c2, c3, c4, e, q_rf, q_lt, q_cl, q_jn, q_b, q_b1, q_ck, kd_I, kd_J, kd_R, n_I, n_J, n_R, r_I, r_J, c_I, c_J, c_R, i_J, i_R, j_I, j_R, y_in, y_isDay, x_within, x_isDay, x_isTown, q_10, q_01, eq_self, i_I, Nat.reduceEqDiff, Nat.add_left_cancel_iff, Nat.add_eq_left, Nat.left_eq_add, and_false, false_and, and_true, true_and, if_true, if_false, and_self, not_true, not_false_iff, reduceCtorEq, sb_yweigh S, hy, spH_kd, spH_i72, spH_j69, spH_j70, z, lg_cmp_eq, y]; rfl, spH_W⟩
    · by_cases w : lg_cmp ((b.toInt64 * vC + vD - 1) / vD) 2000000000 ≤ 0
      · exact ⟨((b.toInt64 * vC + vD - 1) / vD).toInt32, h, _, by simp only [c1, c2, c3, c4, e, x_isKind, q_rf, q_lt, q_cl, q_jn, q_b, q_b1, q_ck, kd_I, kd_J, kd_R, n_I, n_J, n_R, r_I, r_J, c_I, c_J, c_R, i_J, i_R, j_I, j_R, y_in, y_isDay, x_within, x_isDay, x_isTown, q_10, q_01, eq_self, i_I, Nat.reduceEqDiff, Nat.add_left_cancel_iff, Nat.add_eq_left, Nat.left_eq_add, and_false, false_and, and_true, true_and, if_true, if_false, and_self, not_true, not_false_iff, reduceCtorEq, sb_xmeas S, g6, z, fX8_mostOf, g1, g4, g5, k1, k5, k6, y, q_cap, w], by simp only [c1, c2, c3, c4, e, q_rf, q_lt, q_cl, q_jn, q_b, q_b1, q_ck, kd_I, kd_J, kd_R, n_I, n_J, n_R, r_I, r_J, c_I, c_J, c_R, i_J, i_R, j_I, j_R, y_in, y_isDay, x_within, x_isDay, x_isTown, q_10, q_01, eq_self, i_I, Nat.reduceEqDiff, Nat.add_left_cancel_iff, Nat.add_eq_left, Nat.left_eq_add, and_false, false_and, and_true, true_and, if_true, if_false, and_self, not_true, not_false_iff, reduceCtorEq, sb_yweigh S, hy, spH_kd, spH_i72, spH_j69, spH_j70, z, lg_cmp_eq, y, w]; rfl, spH_W⟩
      · exact ⟨2000000000, h, _, by simp only [c1, c2, c3, c4, e, x_isKind, q_rf, q_lt, q_cl, q_jn, q_b, q_b1, q_ck, kd_I, kd_J, kd_R, n_I, n_J, n_R, r_I, r_J, c_I, c_J, c_R, i_J, i_R, j_I, j_R, y_in, y_isDay, x_within, x_isDay, x_isTown, q_10, q_01, eq_self, i_I, Nat.reduceEqDiff, Nat.add_left_cancel_iff, Nat.add_eq_left, Nat.left_eq_add, and_false, false_and, and_true, true_and, if_true, if_false, and_self, not_true, not_false_iff, reduceCtorEq, sb_xmeas S, g6, z, fX8_mostOf, g1, g4, g5, k1, k5, k6, y, q_cap, w], by simp only [c1, c2, c3, c4, e, q_rf, q_lt, q_cl, q_jn, q_b, q_b1, q_ck, kd_I, kd_J, kd_R, n_I, n_J, n_R, r_I, r_J, c_I, c_J, c_R, i_J, i_R, j_I, j_R, y_in, y_isDay, x_within, x_isDay, x_isTown, q_10, q_01, eq_self, i_I, Nat.reduceEqDiff, Nat.add_left_cancel_iff, Nat.add_eq_left, Nat.left_eq_add, and_false, false_and, and_true, true_and, if_true, if_false, and_self, not_true, not_false_iff, reduceCtorEq, sb_yweigh S, hy, spH_kd, spH_i72, spH_j69, spH_j70, z, lg_cmp_eq, y, w]; rfl, spH_W⟩
end SU
