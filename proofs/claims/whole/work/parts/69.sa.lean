/-! broke, sail -/
section SA
variable {B : Nat} {h hx hy hx' hy' : mm_H} {ow ow' : Nat → Nat × Nat} {n nm nl nb : Nat} {am al : Nat → Nat} {P C : Nat → Nat} {A U U' : Nat → Nat → Nat} {T : Nat → Int32} {x : Nat}
theorem T_broke (S : mS B h) (M : RMn B ow h h nm am) (Q : RSl B h h nm am) (a : Int32) : ∃ r, fX11_broke B a h = some (r, h) ∧ fX12_broke (B + 66) a h = some (r, h) := by
  obtain ⟨M1, M2, M3, M4⟩ := id M
  have hsz := x_size (sk1 S) M2
  have hM := y_isMan S (show nm < 2 ^ 30 by omega) M3 a
  unfold fX11_broke fX12_broke
  by_cases c1 : a < 0
  case pos => exact ⟨-1, by simp only [c1, if_true], by simp only [q_rf, q_lt, q_cl, q_jn, q_b, q_b1, q_ck, kd_I, kd_J, kd_R, n_I, n_J, n_R, r_I, r_J, c_I, c_J, c_R, i_J, i_R, j_I, j_R, y_in, y_isDay, x_within, x_isDay, x_isTown, sk66 S, hM, c1, q_10, q_01, eq_self, i_I, Nat.reduceEqDiff, Nat.add_left_cancel_iff, Nat.add_eq_left, Nat.left_eq_add, and_false, false_and, and_true, true_and, if_true, if_false, and_self, not_true, not_false_iff, reduceCtorEq]⟩
  obtain ⟨k, hk, rfl⟩ := nI_of c1
  by_cases c2 : k < nm
  case neg =>
    have c3 : ¬ nI k < nI nm := nI_nlt (by omega) hk
    have c4 : nI nm ≤ nI k := nI_le (by omega) hk
    exact ⟨-1, by simp only [q_rf, q_lt, q_cl, q_jn, q_b, q_b1, q_ck, kd_I, kd_J, kd_R, n_I, n_J, n_R, r_I, r_J, c_I, c_J, c_R, i_J, i_R, j_I, j_R, y_in, y_isDay, x_within, x_isDay, x_isTown, sb_xbase S, hsz, c1, c3, if_false], by simp only [q_rf, q_lt, q_cl, q_jn, q_b, q_b1, q_ck, kd_I, kd_J, kd_R, n_I, n_J, n_R, r_I, r_J, c_I, c_J, c_R, i_J, i_R, j_I, j_R, y_in, y_isDay, x_within, x_isDay, x_isTown, sk66 S, hM, c4, q_10, q_01, eq_self, i_I, Nat.reduceEqDiff, Nat.add_left_cancel_iff, Nat.add_eq_left, Nat.left_eq_add, and_false, false_and, and_true, true_and, if_true, if_false, and_self, not_true, not_false_iff, reduceCtorEq]⟩
  have c3 : nI k < nI nm := nI_lt c2 (by omega)
  have c4 : ¬ nI nm ≤ nI k := nI_ge c2 (by omega)
  have hg := x_get (sk1 S) M2 c2
  have kd8 := (M2.2.2.2 k c2).2
  have hq := fun (β : Type) (z : Option β) => q_ckx (show k < 40 by omega) (by decide) z
  have hc := nI_clamp (n := k) hk
  exact ⟨mm_i h (am k) 5, by simp only [q_rf, q_lt, q_cl, q_jn, q_b, q_b1, q_ck, kd_I, kd_J, kd_R, n_I, n_J, n_R, r_I, r_J, c_I, c_J, c_R, i_J, i_R, j_I, j_R, y_in, y_isDay, x_within, x_isDay, x_isTown, sb_xbase S, hsz, hg, kd8, c1, c3, if_true, if_false], by simp only [q_rf, q_lt, q_cl, q_jn, q_b, q_b1, q_ck, kd_I, kd_J, kd_R, n_I, n_J, n_R, r_I, r_J, c_I, c_J, c_R, i_J, i_R, j_I, j_R, y_in, y_isDay, x_within, x_isDay, x_isTown, sb_ymen S, hM, c1, c4, hq, hc, (Q.1 k c2).1, q_10, q_01, eq_self, i_I, Nat.reduceEqDiff, Nat.add_left_cancel_iff, Nat.add_eq_left, Nat.left_eq_add, and_false, false_and, and_true, true_and, if_true, if_false, and_self, not_true, not_false_iff, reduceCtorEq]⟩
theorem sm_31 : ∀ s, s < 20 → nI s &&& 31 = nI s := by decide +kernel
theorem sm_s : ∀ s, s < 20 → ((nI s).toBitVec.smod 32).toNat = s := by decide +kernel
theorem bitI_tb (x : Int32) {s : Nat} (hs : s < 20) : bitI x s = if x.toBitVec.getLsbD s then 1 else 0 := by
  unfold bitI
  rw [sm_31 s hs]
  refine Int32.toBitVec_inj.mp ?_
  rw [Int32.toBitVec_and, Int32.toBitVec_shiftRight]
  have e : x.toBitVec.sshiftRight' ((nI s).toBitVec.smod 32) = x.toBitVec.sshiftRight s := by
    unfold BitVec.sshiftRight'
    rw [sm_s s hs]
  have e1 : (1 : Int32).toBitVec = 1#32 := rfl
  by_cases c : x.toBitVec.getLsbD s = true
  · rw [if_pos c, e1]
    refine Eq.trans (congrArg (· &&& 1#32) e) ?_
    refine BitVec.eq_of_getLsbD_eq fun i hi => ?_
    rw [BitVec.getLsbD_and, BitVec.getLsbD_sshiftRight, BitVec.getLsbD_one]
    by_cases i0 : i = 0
    · subst i0
      simp [c]
      omega
    · simp [i0]
  · rw [if_neg c, e1]
    refine Eq.trans (congrArg (· &&& 1#32) e) ?_
    refine BitVec.eq_of_getLsbD_eq fun i hi => ?_
    rw [BitVec.getLsbD_and, BitVec.getLsbD_sshiftRight, BitVec.getLsbD_one]
    by_cases i0 : i = 0
    · subst i0
      simp [c]
      intro z
      omega
    · simp [i0]
theorem sh1_tb : ∀ s, s < 20 → ∀ t, t < 20 → ((1 : Int32) <<< (nI s &&& 31)).toBitVec.getLsbD t = decide (t = s) := by decide +kernel
theorem bitI_or (x : Int32) {s t : Nat} (hs : s < 20) (ht : t < 20) : bitI (x ||| ((1 : Int32) <<< (nI s &&& 31))) t = if t = s then 1 else bitI x t := by
  rw [bitI_tb _ ht, bitI_tb _ ht, Int32.toBitVec_or, BitVec.getLsbD_or, sh1_tb s hs t ht]
  by_cases e : t = s <;> simp [e]
end SA
