/-! men, on; broke -/
section ME
variable {B : Nat} {h hx hy hx' hy' : mm_H} {ow ow' : Nat → Nat × Nat} {n nm nl nb : Nat} {am al : Nat → Nat} {P C : Nat → Nat} {A U U' : Nat → Nat → Nat} {T : Nat → Int32} {x : Nat}
theorem T_men (S : mS B h) (N : RNow B h) (M : RMn B ow h h nm am) (R : RBg B ow h h nm n A U T) (Q : RCo B h h nm am P C) (a b : Int32) : ∃ r, fX11_men B a b h = some (r, h) ∧ fX12_men (B + 66) a b h = some (r, h) := by
  obtain ⟨M1, M2, M3, M4⟩ := id M
  have hsz := x_size (sk1 S) M2
  have hM := y_isMan S (show nm < 2 ^ 30 by omega) M3 a
  have G := y_isThere S M N.2.2 (a := a)
  unfold fX11_men fX12_men
  by_cases c1 : a < 0
  case pos => exact ⟨-1, by simp only [c1, if_true], by simp only [q_rf, q_lt, q_cl, q_jn, q_b, q_b1, q_ck, kd_I, kd_J, kd_R, n_I, n_J, n_R, r_I, r_J, c_I, c_J, c_R, i_J, i_R, j_I, j_R, y_in, y_isDay, x_within, x_isDay, x_isTown, sk66 S, hM, c1, q_10, q_01, eq_self, i_I, Nat.reduceEqDiff, Nat.add_left_cancel_iff, Nat.add_eq_left, Nat.left_eq_add, and_false, false_and, and_true, true_and, if_true, if_false, and_self, not_true, not_false_iff, reduceCtorEq]⟩
  obtain ⟨k, hk, rfl⟩ := nI_of c1
  by_cases c2 : k < nm
  case neg =>
    have c3 : ¬ nI k < nI nm := nI_nlt (by omega) hk
    have c4 : nI nm ≤ nI k := nI_le (by omega) hk
    exact ⟨-1, by simp only [q_rf, q_lt, q_cl, q_jn, q_b, q_b1, q_ck, kd_I, kd_J, kd_R, n_I, n_J, n_R, r_I, r_J, c_I, c_J, c_R, i_J, i_R, j_I, j_R, y_in, y_isDay, x_within, x_isDay, x_isTown, sb_xbase S, hsz, c1, c3, if_false], by simp only [q_rf, q_lt, q_cl, q_jn, q_b, q_b1, q_ck, kd_I, kd_J, kd_R, n_I, n_J, n_R, r_I, r_J, c_I, c_J, c_R, i_J, i_R, j_I, j_R, y_in, y_isDay, x_within, x_isDay, x_isTown, sk66 S, hM, c4, q_10, q_01, eq_self, i_I, Nat.reduceEqDiff, Nat.add_left_cancel_iff, Nat.add_eq_left, Nat.left_eq_add, and_false, false_and, and_true, true_and, if_true, if_false, and_self, not_true, not_false_iff, reduceCtorEq]⟩
  have c3 : nI k < nI nm := nI_lt c2 (by omega)
  have c4 : ¬ nI nm ≤ nI k := nI_ge c2 (by omega)
  have hg := x_get (sk1 S) M2 c2
  have kd8 := (M2.2.2.2 k c2).2
  obtain ⟨m1, m2, m3, m4⟩ := M4 k c2
  have hq := fun (β : Type) (z : Option β) => q_ckx (show k < 40 by omega) (by decide) z
  have hc := nI_clamp (n := k) hk
  have o0 := x_owedBy S R M1 (m := k) (by omega) 0
  have o1 := x_owedBy S R M1 (m := k) (by omega) 1
  have p0 := y_owes S R N.1 M1 (m := k) (by omega) 0
  have p1 := y_owes S R N.1 M1 (m := k) (by omega) 1
  have q2 := (Q.2.1 k c2).1
  have q3 := (Q.2.1 k c2).2
  have hL : ∀ v0 v1 v2 v3 v4 v5 v6 v7 : Int32, (if b = 0 then some (v0, h) else if b = 1 then some (v1, h) else if b = 2 then some (v2, h) else if b = 3 then some (v3, h) else if b = 4 then some (v4, h) else if b = 5 then some (v5, h) else if b = 6 then some (v6, h) else if b = 7 then some (v7, h) else some ((-1 : Int32), h)) = some ((if b = 0 then v0 else if b = 1 then v1 else if b = 2 then v2 else if b = 3 then v3 else if b = 4 then v4 else if b = 5 then v5 else if b = 6 then v6 else if b = 7 then v7 else -1), h) := by
    intro v0 v1 v2 v3 v4 v5 v6 v7
    repeat' split
    all_goals rfl
  have w5 : (if mm_i h (am k) 1 = 0 then some ((0 : Int32), h) else some ((1 : Int32), h)) = some (mm_i h (am k) 1, h) := by
    rcases m2.1 with e | e <;> rw [e] <;> rfl
  by_cases c5 : mm_i h (am k) 4 = -1
  · have hT : isTh h nm am (nI k) := ⟨k, c2, rfl, c5⟩
    have w7 := isTh_cell M c2 c5
    refine ⟨_, by simp only [q_rf, q_lt, q_cl, q_jn, q_b, q_b1, q_ck, kd_I, kd_J, kd_R, n_I, n_J, n_R, r_I, r_J, c_I, c_J, c_R, i_J, i_R, j_I, j_R, y_in, y_isDay, x_within, x_isDay, x_isTown, sb_xbase S, hsz, hg, kd8, c1, c3, c5, o0, o1, q2, w5, not_true, if_false, if_true]; exact hL _ _ _ _ _ _ _ _, ?_⟩
    simp only [q_rf, q_lt, q_cl, q_jn, q_b, q_b1, q_ck, kd_I, kd_J, kd_R, n_I, n_J, n_R, r_I, r_J, c_I, c_J, c_R, i_J, i_R, j_I, j_R, y_in, y_isDay, x_within, x_isDay, x_isTown, sb_ymen S, hM, c1, c4, hq, hc, G.1 hT, p0, p1, q3, m1.1, m2.2, m3.1, w7, w5, q_10, q_01, eq_self, i_I, Nat.reduceEqDiff, Nat.add_left_cancel_iff, Nat.add_eq_left, Nat.left_eq_add, and_false, false_and, and_true, true_and, if_true, if_false, and_self, not_true, not_false_iff, reduceCtorEq]
    exact hL _ _ _ _ _ _ _ _
  · have hT : ¬ isTh h nm am (nI k) := fun ⟨j, j1, j2, j3⟩ => c5 (by rw [(nI_eq hk (by omega)).mp j2]; exact j3)
    have w7 : mm_i h (B + 70) k = mm_i h (am k) 4 := by
      rcases m4 with m4 | m4
      · exact absurd m4.1 c5
      · exact m4.2.2
    have w8 : ¬ mm_i h (am k) 4 = 100000 := by
      rcases m4 with m4 | m4
      · exact absurd m4.1 c5
      · exact fun z => absurd (Int32.le_trans (z ▸ m4.2.1) N.2.2) (by decide)
    refine ⟨_, by simp only [q_rf, q_lt, q_cl, q_jn, q_b, q_b1, q_ck, kd_I, kd_J, kd_R, n_I, n_J, n_R, r_I, r_J, c_I, c_J, c_R, i_J, i_R, j_I, j_R, y_in, y_isDay, x_within, x_isDay, x_isTown, sb_xbase S, hsz, hg, kd8, c1, c3, c5, o0, o1, q2, w5, not_false_iff, if_false, if_true]; exact hL _ _ _ _ _ _ _ _, ?_⟩
    simp only [q_rf, q_lt, q_cl, q_jn, q_b, q_b1, q_ck, kd_I, kd_J, kd_R, n_I, n_J, n_R, r_I, r_J, c_I, c_J, c_R, i_J, i_R, j_I, j_R, y_in, y_isDay, x_within, x_isDay, x_isTown, sb_ymen S, hM, c1, c4, hq, hc, G.2 hT, p0, p1, q3, m1.1, m2.2, m3.1, w7, w8, w5, q_10, q_01, eq_self, i_I, Nat.reduceEqDiff, Nat.add_left_cancel_iff, Nat.add_eq_left, Nat.left_eq_add, and_false, false_and, and_true, true_and, if_true, if_false, and_self, not_true, not_false_iff, reduceCtorEq]
    exact hL _ _ _ _ _ _ _ _
end ME
