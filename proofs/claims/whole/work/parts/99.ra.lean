/-! the assembly: what some calls keep besides, frames by modules -/
section RA
variable {B : Nat} {h hx hy hx' hy' h' : mm_H} {ow ow' : Nat → Nat × Nat} {n : Nat} {am : Nat → Nat} {P C : Nat → Nat}
theorem T_man2 (S : mS B h) (N : RNow B h) (R : RMn B ow h h n am) (Q : RSl B h h n am) (M : RCo B h h n am P C) {a b c : Int32} (hb : b = 0 ∨ b = 1) : ∃ r h1 h2 ow' n' am' P', fX11_man B a b c h = some (r, h1) ∧ fX12_man (B + 66) a b c h1 = some (r, h2) ∧ mY B ow [4, 102, 104, 124] h h2 ∧ mO ow ow' h ∧ RMn B ow' h2 h2 n' am' ∧ RSl B h2 h2 n' am' ∧ RCo B h2 h2 n' am' P' C ∧ n ≤ n' ∧ (∀ k, k < n → am' k = am k) ∧ ∀ k, k < n → mm_i h2 (B + 67) k = mm_i h (B + 67) k := by
  obtain ⟨R1, R2, R3, R4⟩ := id R
  obtain ⟨N1, N2, N3⟩ := N
  have hB := S.1
  have hsz := x_size (sk1 S) R2
  have e40 : ((40 : Int32) ≤ nI n) = (40 ≤ n) := propext (nI_leI (a := 40) (by omega) (by omega))
  have e40' : (nI n = 40) = (n = 40) := propext (nI_eq (b := 40) (by omega) (by omega))
  have same : mY B ow [4, 102, 104, 124] h h := mX.rf hB
  unfold fX11_man fX12_man
  by_cases c1 : n = 40
  case pos =>
    have k1 : (40 ≤ n) = True := eq_true (by omega)
    have k2 : (nI n = 40) = True := by rw [e40']; exact eq_true c1
    exact ⟨-1, h, h, ow, n, am, P, by simp only [q_rf, q_lt, q_cl, q_jn, q_b, q_b1, q_ck, kd_I, kd_J, kd_R, n_I, n_J, n_R, r_I, r_J, c_I, c_J, c_R, i_J, i_R, j_I, j_R, y_in, y_isDay, x_within, x_isDay, x_isTown, sb_xbase S, hsz, e40, k1, if_true], by simp only [q_rf, q_lt, q_cl, q_jn, q_b, q_b1, q_ck, kd_I, kd_J, kd_R, n_I, n_J, n_R, r_I, r_J, c_I, c_J, c_R, i_J, i_R, j_I, j_R, y_in, y_isDay, x_within, x_isDay, x_isTown, sk66 S, R3, k2, if_true], same, mO.rf, R, Q, M, Nat.le_refl _, fun _ _ => rfl, fun _ _ => rfl⟩
  have k1 : ¬ 40 ≤ n := by omega
  by_cases c2 : 0 ≤ a ∧ a ≤ 8
  case neg => exact ⟨-1, h, h, ow, n, am, P, by simp only [q_rf, q_lt, q_cl, q_jn, q_b, q_b1, q_ck, kd_I, kd_J, kd_R, n_I, n_J, n_R, r_I, r_J, c_I, c_J, c_R, i_J, i_R, j_I, j_R, y_in, y_isDay, x_within, x_isDay, x_isTown, sb_xbase S, hsz, e40, k1, c2, q_10, q_01, eq_self, i_I, Nat.reduceEqDiff, Nat.add_left_cancel_iff, Nat.add_eq_left, Nat.left_eq_add, and_false, false_and, and_true, true_and, if_true, if_false, and_self, not_true, not_false_iff, reduceCtorEq], by simp only [q_rf, q_lt, q_cl, q_jn, q_b, q_b1, q_ck, kd_I, kd_J, kd_R, n_I, n_J, n_R, r_I, r_J, c_I, c_J, c_R, i_J, i_R, j_I, j_R, y_in, y_isDay, x_within, x_isDay, x_isTown, sk66 S, R3, e40', c1, c2, q_10, q_01, eq_self, i_I, Nat.reduceEqDiff, Nat.add_left_cancel_iff, Nat.add_eq_left, Nat.left_eq_add, and_false, false_and, and_true, true_and, if_true, if_false, and_self, not_true, not_false_iff, reduceCtorEq], same, mO.rf, R, Q, M, Nat.le_refl _, fun _ _ => rfl, fun _ _ => rfl⟩
  by_cases c3 : 0 ≤ c ∧ c ≤ 1000000
  case neg => exact ⟨-1, h, h, ow, n, am, P, by simp only [q_rf, q_lt, q_cl, q_jn, q_b, q_b1, q_ck, kd_I, kd_J, kd_R, n_I, n_J, n_R, r_I, r_J, c_I, c_J, c_R, i_J, i_R, j_I, j_R, y_in, y_isDay, x_within, x_isDay, x_isTown, sb_xbase S, hsz, e40, k1, c2, c3, q_10, q_01, eq_self, i_I, Nat.reduceEqDiff, Nat.add_left_cancel_iff, Nat.add_eq_left, Nat.left_eq_add, and_false, false_and, and_true, true_and, if_true, if_false, and_self, not_true, not_false_iff, reduceCtorEq], by simp only [q_rf, q_lt, q_cl, q_jn, q_b, q_b1, q_ck, kd_I, kd_J, kd_R, n_I, n_J, n_R, r_I, r_J, c_I, c_J, c_R, i_J, i_R, j_I, j_R, y_in, y_isDay, x_within, x_isDay, x_isTown, sk66 S, R3, e40', c1, c2, c3, q_10, q_01, eq_self, i_I, Nat.reduceEqDiff, Nat.add_left_cancel_iff, Nat.add_eq_left, Nat.left_eq_add, and_false, false_and, and_true, true_and, if_true, if_false, and_self, not_true, not_false_iff, reduceCtorEq], same, mO.rf, R, Q, M, Nat.le_refl _, fun _ _ => rfl, fun _ _ => rfl⟩
  obtain ⟨g1, f1, x1, z1, d1, v0, v1, v2, v3, v4, v5, v6⟩ := x_man7 (ow := ow) (a := a) (c := c) (d := mm_i h B 11) hb hB
  have o1 : mO ow (oN ow (mm_sz h) 1 n) h := oN.mO (Nat.le_refl _)
  have L1 : mL B (oN ow (mm_sz h) 1 n) g1 (B + 1) 0 8 n am := R2.up2 rfl (by omega) x1 o1 (m := 4) rfl rfl (fun _ => rfl) (by decide)
  have U1 : Lv B (oN ow (mm_sz h) 1 n) g1 1 n (mm_sz h) := ⟨hB, by omega, oN.at⟩
  have S1 := x1.S S
  obtain ⟨g2, ow2, f2, x2, o2, L2⟩ := x_add S1.1 (by omega) (Or.inr (Or.inl ⟨Or.inl rfl, rfl⟩)) (sk1 S1) (by decide) L1 (by omega) U1 d1
  have y2 : mY B (oN ow (mm_sz h) 1 n) [4] g1 g2 := wM_wL (m := 4) x2 rfl (by omega) (fun k hk => rfl) (fun _ => rfl) (by decide)
  have S2 := x2.S S1
  have x3 : mY B ow [4] h g2 := (wM_le x1 (by simp)).tr2 o1 y2
  have o3 : mO ow ow2 h := o1.tr x1 o2
  have hsz2 := x_size (sk1 S2) L2
  have kB : mm_kd (mm_new h 8 0) B = 12 := by rw [kd_N, if_neg (by omega)]; exact sk0 S
  have iB : mm_i (mm_new h 8 0) B 11 = mm_i h B 11 := by rw [i_N, if_neg (by omega)]
  have r3 : mm_i g2 (B + 66) 2 = nI n := (x3.iF (m := 104) (by omega) rfl (by decide)).trans R3
  have r1 : mm_i g2 (B + 66) 1 = mm_i h B 11 := (x3.iF (m := 101) (by omega) rfl (by decide)).trans N1
  have hn : n < 40 := by omega
  have hx := fun (β : Type) (k : Option β) => q_ckx hn (by decide) k
  have hc := nI_clamp (n := n) (by omega)
  obtain ⟨h2, e2⟩ : ∃ h2, h2 = mm_setI (mm_setI (mm_setI (mm_setI (mm_setI (mm_setI g2 (B + 67) n a) (B + 73) n (b &&& 1)) (B + 68) n c) (B + 69) n (mm_i h B 11)) (B + 70) n 100000) (B + 66) 2 (nI (n + 1)) := ⟨_, rfl⟩
  have y4 : mY B ow [102, 104, 124] g2 h2 := by
    rw [e2]
    exact ((((((mX.rf S2.1).IF (m := 104) (by omega) rfl (by decide)).IF (m := 104) (by omega) rfl (by decide)).IF (m := 102) (by omega) rfl (by decide)).IF (m := 104) (by omega) rfl (by decide)).IF (m := 124) (by omega) rfl (by decide)).IF (m := 104) (by omega) rfl (by decide)
  have y5 : mY B ow2 [102, 104, 124] g2 h2 := by
    rw [e2]
    exact ((((((mX.rf S2.1).IF (m := 104) (by omega) rfl (by decide)).IF (m := 104) (by omega) rfl (by decide)).IF (m := 102) (by omega) rfl (by decide)).IF (m := 104) (by omega) rfl (by decide)).IF (m := 124) (by omega) rfl (by decide)).IF (m := 104) (by omega) rfl (by decide)
  have am_new : (fun k => if k = n then mm_sz h else am k) n = mm_sz h := if_pos rfl
  have am_old : ∀ {k}, k ≠ n → (fun k => if k = n then mm_sz h else am k) k = am k := fun e => if_neg e
  have U4 : ∀ j, mm_i h2 (mm_sz h) j = mm_i g1 (mm_sz h) j := fun j => by
    rw [e2]
    have q1 : ∀ i, i < 147 → ¬ mm_sz h = B + i := fun i hi => by omega
    simp only [i_I, q1 67 (by omega), q1 73 (by omega), q1 68 (by omega), q1 69 (by omega), q1 70 (by omega), q1 66 (by omega), false_and, if_false]
    refine x2.i (by omega) ?_
    rintro (z | z)
    · omega
    · have := z.2
      rw [oN.at] at this
      simp at this
  have old4 : ∀ {k j}, k < n → mm_i h2 (am k) j = mm_i h (am k) j := fun {k j} hk => by
    have Lk := (R2.2.2.2 k hk).1
    have := Lk.1
    rw [e2]
    have q1 : ∀ i, i < 147 → ¬ am k = B + i := fun i hi => by omega
    simp only [i_I, q1 67 (by omega), q1 73 (by omega), q1 68 (by omega), q1 69 (by omega), q1 70 (by omega), q1 66 (by omega), false_and, if_false]
    rw [x2.i (by have := Lk.2.1; omega) ?_]
    · exact x1.i Lk.2.1 (by unfold wM; simp)
    · rintro (z | z)
      · omega
      · have := z.2
        rw [(L1.2.2.2 k hk).1.2.2] at this
        simp at this
  refine ⟨nI n, g2, h2, ow2, n + 1, fun k => if k = n then mm_sz h else am k, fun k => if k = n then c.toNatClampNeg else P k, ?_, ?_, ?_, o3, ?_, ?_, ?_, Nat.le_succ _, fun k hk => if_neg (by omega), fun k hk => ?_⟩
  · simp only [q_rf, q_lt, q_cl, q_jn, q_b, q_b1, q_ck, kd_I, kd_J, kd_R, n_I, n_J, n_R, r_I, r_J, c_I, c_J, c_R, i_J, i_R, j_I, j_R, y_in, y_isDay, x_within, x_isDay, x_isTown, sb_xbase S, hsz, e40, k1, c2, c3, kB, iB, f1, f2, sk1 S1, sk0 S2, sk1 S2, sr0_0 S2, hsz2, nI_pred, q_10, q_01, eq_self, i_I, Nat.reduceEqDiff, Nat.add_left_cancel_iff, Nat.add_eq_left, Nat.left_eq_add, and_false, false_and, and_true, true_and, if_true, if_false, and_self, not_true, not_false_iff, reduceCtorEq]
  · simp only [q_rf, q_lt, q_cl, q_jn, q_b, q_b1, q_ck, kd_I, kd_J, kd_R, n_I, n_J, n_R, r_I, r_J, c_I, c_J, c_R, i_J, i_R, j_I, j_R, y_in, y_isDay, x_within, x_isDay, x_isTown, sb_ymen S2, r3, e40', c1, c2, c3, hx, hc, r1, nI_1, nI_pred, q_10, q_01, eq_self, i_I, Nat.reduceEqDiff, Nat.add_left_cancel_iff, Nat.add_eq_left, Nat.left_eq_add, and_false, false_and, and_true, true_and, if_true, if_false, and_self, not_true, not_false_iff, reduceCtorEq, e2]
  · exact (wM_le x3 (by simp)).tr (wM_le y4 (by simp))
  · refine ⟨by omega, L2.up2 rfl (by omega) y5 mO.rf (m := 4) rfl rfl (fun _ => rfl) (by decide), by rw [e2, i_I, if_pos ⟨rfl, rfl⟩], fun k hk => ?_⟩
    have iN : mm_i h2 B 11 = mm_i h B 11 := (y5.i0 (m := 1) rfl (by decide)).trans (x3.i0 (m := 1) rfl (by decide))
    by_cases e : k = n
    · subst e
      rw [am_new]
      unfold mMan
      rw [U4 0, U4 1, U4 2, U4 4, v0, v1, v2, v4, iN]
      have w67 : mm_i h2 (B + 67) k = a := by rw [e2]; simp only [i_I, q_10, q_01, eq_self, i_I, Nat.reduceEqDiff, Nat.add_left_cancel_iff, Nat.add_eq_left, Nat.left_eq_add, and_false, false_and, and_true, true_and, if_true, if_false, and_self, not_true, not_false_iff, reduceCtorEq]
      have w73 : mm_i h2 (B + 73) k = b &&& 1 := by rw [e2]; simp only [i_I, q_10, q_01, eq_self, i_I, Nat.reduceEqDiff, Nat.add_left_cancel_iff, Nat.add_eq_left, Nat.left_eq_add, and_false, false_and, and_true, true_and, if_true, if_false, and_self, not_true, not_false_iff, reduceCtorEq]
      have w69 : mm_i h2 (B + 69) k = mm_i h B 11 := by rw [e2]; simp only [i_I, q_10, q_01, eq_self, i_I, Nat.reduceEqDiff, Nat.add_left_cancel_iff, Nat.add_eq_left, Nat.left_eq_add, and_false, false_and, and_true, true_and, if_true, if_false, and_self, not_true, not_false_iff, reduceCtorEq]
      have w70 : mm_i h2 (B + 70) k = 100000 := by rw [e2]; simp only [i_I, q_10, q_01, eq_self, i_I, Nat.reduceEqDiff, Nat.add_left_cancel_iff, Nat.add_eq_left, Nat.left_eq_add, and_false, false_and, and_true, true_and, if_true, if_false, and_self, not_true, not_false_iff, reduceCtorEq]
      rw [w67, w73, w69, w70]
      refine ⟨⟨rfl, c2.1, c2.2⟩, ⟨hb, ?_⟩, ⟨rfl, N2, Int32.le_refl _⟩, Or.inl ⟨rfl, rfl⟩⟩
      rcases hb with rfl | rfl <;> decide
    · rw [am_old e]
      have hk2 : k < n := by omega
      have M0 := R4 k hk2
      have Lk := (R2.2.2.2 k hk2).1
      unfold mMan at *
      rw [old4 hk2, old4 hk2, old4 hk2, old4 hk2, iN]
      have w67 : mm_i h2 (B + 67) k = mm_i h (B + 67) k := by rw [e2]; simp only [i_I, q_10, q_01, eq_self, i_I, Nat.reduceEqDiff, Nat.add_left_cancel_iff, Nat.add_eq_left, Nat.left_eq_add, and_false, false_and, and_true, true_and, if_true, if_false, and_self, not_true, not_false_iff, reduceCtorEq, e]; exact x3.iF (m := 104) (by omega) rfl (by decide)
      have w73 : mm_i h2 (B + 73) k = mm_i h (B + 73) k := by rw [e2]; simp only [i_I, q_10, q_01, eq_self, i_I, Nat.reduceEqDiff, Nat.add_left_cancel_iff, Nat.add_eq_left, Nat.left_eq_add, and_false, false_and, and_true, true_and, if_true, if_false, and_self, not_true, not_false_iff, reduceCtorEq, e]; exact x3.iF (m := 104) (by omega) rfl (by decide)
      have w69 : mm_i h2 (B + 69) k = mm_i h (B + 69) k := by rw [e2]; simp only [i_I, q_10, q_01, eq_self, i_I, Nat.reduceEqDiff, Nat.add_left_cancel_iff, Nat.add_eq_left, Nat.left_eq_add, and_false, false_and, and_true, true_and, if_true, if_false, and_self, not_true, not_false_iff, reduceCtorEq, e]; exact x3.iF (m := 104) (by omega) rfl (by decide)
      have w70 : mm_i h2 (B + 70) k = mm_i h (B + 70) k := by rw [e2]; simp only [i_I, q_10, q_01, eq_self, i_I, Nat.reduceEqDiff, Nat.add_left_cancel_iff, Nat.add_eq_left, Nat.left_eq_add, and_false, false_and, and_true, true_and, if_true, if_false, and_self, not_true, not_false_iff, reduceCtorEq, e]; exact x3.iF (m := 124) (by omega) rfl (by decide)
      rw [w67, w73, w69, w70]
      exact M0
  · refine ⟨fun k hk => ?_, fun k hk hk2 => ⟨?_, fun s hs => ?_⟩⟩
    · by_cases e : k = n
      · subst e
        rw [am_new, U4 5, U4 6, v5, v6]
        refine ⟨?_, fun s hs => ?_⟩
        · rw [y5.iF (m := 105) (by omega) rfl (by decide), x3.iF (m := 105) (by omega) rfl (by decide)]
          exact (Q.2 k (Nat.le_refl _) hn).1
        · rw [bitI_0, y5.iF (m := 105) (by omega) rfl (by decide), x3.iF (m := 105) (by omega) rfl (by decide)]
          exact (Q.2 k (Nat.le_refl _) hn).2 s hs
      · rw [am_old e]
        have hk2 : k < n := by omega
        rw [old4 hk2, old4 hk2]
        obtain ⟨q1, q2⟩ := Q.1 k hk2
        refine ⟨?_, fun s hs => ?_⟩
        · rw [y5.iF (m := 105) (by omega) rfl (by decide), x3.iF (m := 105) (by omega) rfl (by decide)]; exact q1
        · rw [y5.iF (m := 105) (by omega) rfl (by decide), x3.iF (m := 105) (by omega) rfl (by decide)]; exact q2 s hs
    · rw [y5.iF (m := 105) (by omega) rfl (by decide), x3.iF (m := 105) (by omega) rfl (by decide)]
      exact (Q.2 k (by omega) hk2).1
    · rw [y5.iF (m := 105) (by omega) rfl (by decide), x3.iF (m := 105) (by omega) rfl (by decide)]
      exact (Q.2 k (by omega) hk2).2 s hs
  · obtain ⟨q1, q2, q3, q4⟩ := M
    obtain ⟨c9, hc9, rfl⟩ := nI_of (Int32.not_lt.mpr c3.1)
    have c8 : c9 ≤ 1000000 := (nI_leI (b := 1000000) hc9 (by omega)).mp c3.2
    have hcl9 := nI_clamp hc9
    refine ⟨?_, fun k hk => ?_, fun t ht => ⟨?_, ?_⟩, ?_⟩
    · rw [y5.j0 (m := 2) rfl (by decide), x3.j0 (m := 2) rfl (by decide)]; exact q1
    · by_cases e : k = n
      · subst e
        rw [am_new, U4 3, v3]
        have w68 : mm_i h2 (B + 68) k = nI c9 := by rw [e2]; simp only [i_I, q_10, q_01, eq_self, i_I, Nat.reduceEqDiff, Nat.add_left_cancel_iff, Nat.add_eq_left, Nat.left_eq_add, and_false, false_and, and_true, true_and, if_true, if_false, and_self, not_true, not_false_iff, reduceCtorEq]
        simp only [w68, if_true, hcl9, and_self]
      · rw [am_old e, old4 (by omega)]
        have w68 : mm_i h2 (B + 68) k = mm_i h (B + 68) k := by rw [e2]; simp only [i_I, q_10, q_01, eq_self, i_I, Nat.reduceEqDiff, Nat.add_left_cancel_iff, Nat.add_eq_left, Nat.left_eq_add, and_false, false_and, and_true, true_and, if_true, if_false, and_self, not_true, not_false_iff, reduceCtorEq, e]; exact x3.iF (m := 102) (by omega) rfl (by decide)
        simp only [w68, e, if_false]
        exact q2 k (by omega)
    · rw [y5.iF (m := 2) (by omega) rfl (by decide), x3.iF (m := 2) (by omega) rfl (by decide)]; exact (q3 t ht).1
    · have w72 : mm_i h2 (B + 72) t = mm_i h (B + 72) t := by rw [e2]; simp only [i_I, q_10, q_01, eq_self, i_I, Nat.reduceEqDiff, Nat.add_left_cancel_iff, Nat.add_eq_left, Nat.left_eq_add, and_false, false_and, and_true, true_and, if_true, if_false, and_self, not_true, not_false_iff, reduceCtorEq]; exact x3.iF (m := 102) (by omega) rfl (by decide)
      rw [w72]; exact (q3 t ht).2
    · have e1 : sumN (fun k => if k = n then (nI c9).toNatClampNeg else P k) n = sumN P n := sumN_le fun k hk => if_neg (by omega)
      rw [sumN_s, e1, if_pos rfl, hcl9]
      omega
  · have e : ¬ k = n := by omega
    rw [e2]; simp only [i_I, q_10, q_01, eq_self, i_I, Nat.reduceEqDiff, Nat.add_left_cancel_iff, Nat.add_eq_left, Nat.left_eq_add, and_false, false_and, and_true, true_and, if_true, if_false, and_self, not_true, not_false_iff, reduceCtorEq, e]; exact x3.iF (m := 104) (by omega) rfl (by decide)

theorem T_shut3 (S : mS B h) (R : RPo B h) (a b c : Int32) : ∃ r h1 h2, fX11_shut B a b c h = some (r, h1) ∧ fX12_shut (B + 66) a b c h1 = some (r, h2) ∧ mW (wPo B) h h2 ∧ RPo B h2 ∧ ∀ k, (mm_i h2 (B + 33) k = mm_i h (B + 33) k ∨ mm_i h2 (B + 33) k ≤ 7) ∧ (mm_i h2 (B + 36) k = mm_i h (B + 36) k ∨ mm_i h2 (B + 36) k = -1) := by
  obtain ⟨n, h1, h2, h3, h4⟩ := R
  unfold fX11_shut fX10_addClosing fX12_shut
  simp only [q_rf, q_lt, q_cl, q_jn, q_b, q_b1, q_ck, kd_I, kd_J, kd_R, n_I, n_J, n_R, r_I, r_J, c_I, c_J, c_R, i_J, i_R, j_I, j_R, y_in, y_isDay, x_within, x_isDay, x_isTown, sb_xsea S, h2]
  have e20 : (nI n < 20) = (n < 20) := propext (nI_ltI (b := 20) (by omega) (by omega))
  have e20' : (nI n = 20) = (n = 20) := propext (nI_eq (b := 20) (by omega) (by omega))
  by_cases c1 : 0 ≤ a ∧ a ≤ 7
  case neg => exact ⟨-1, h, h, by simp [c1], by simp [q_rf, q_lt, q_cl, q_jn, q_b, q_b1, q_ck, kd_I, kd_J, kd_R, n_I, n_J, n_R, r_I, r_J, c_I, c_J, c_R, i_J, i_R, j_I, j_R, y_in, y_isDay, x_within, x_isDay, x_isTown, sb_yports S, h3, e20', c1], mW.rf, ⟨n, h1, h2, h3, h4⟩, fun _ => ⟨Or.inl rfl, Or.inl rfl⟩⟩
  by_cases c2 : 0 ≤ b ∧ b ≤ 3999
  case neg => exact ⟨-1, h, h, by simp [c1, c2], by simp [q_rf, q_lt, q_cl, q_jn, q_b, q_b1, q_ck, kd_I, kd_J, kd_R, n_I, n_J, n_R, r_I, r_J, c_I, c_J, c_R, i_J, i_R, j_I, j_R, y_in, y_isDay, x_within, x_isDay, x_isTown, sb_yports S, h3, e20', c1, c2], mW.rf, ⟨n, h1, h2, h3, h4⟩, fun _ => ⟨Or.inl rfl, Or.inl rfl⟩⟩
  by_cases c3 : 0 ≤ c ∧ c ≤ 3999
  case neg =>
    refine ⟨-1, h, h, by simp [c1, c2, c3], ?_, mW.rf, ⟨n, h1, h2, h3, h4⟩, fun _ => ⟨Or.inl rfl, Or.inl rfl⟩⟩
    have : ¬ (b ≤ c ∧ c ≤ 3999) := fun z => c3 ⟨Int32.le_trans c2.1 z.1, z.2⟩
    simp [q_rf, q_lt, q_cl, q_jn, q_b, q_b1, q_ck, kd_I, kd_J, kd_R, n_I, n_J, n_R, r_I, r_J, c_I, c_J, c_R, i_J, i_R, j_I, j_R, y_in, y_isDay, x_within, x_isDay, x_isTown, sb_yports S, h3, e20', c1, c2, this]
  by_cases c4 : b ≤ c
  case neg => exact ⟨-1, h, h, by simp [c1, c2, c3, c4], by simp [q_rf, q_lt, q_cl, q_jn, q_b, q_b1, q_ck, kd_I, kd_J, kd_R, n_I, n_J, n_R, r_I, r_J, c_I, c_J, c_R, i_J, i_R, j_I, j_R, y_in, y_isDay, x_within, x_isDay, x_isTown, sb_yports S, h3, e20', c1, c2, c4], mW.rf, ⟨n, h1, h2, h3, h4⟩, fun _ => ⟨Or.inl rfl, Or.inl rfl⟩⟩
  by_cases c5 : n = 20
  case pos =>
    have c6 : ¬ nI n < 20 := by rw [e20]; omega
    have c7 : nI n = 20 := by rw [e20']; exact c5
    exact ⟨-1, h, h, by simp only [c1, c2, c3, c4, c6, q_rf, q_lt, q_cl, q_jn, q_b, q_b1, q_ck, kd_I, kd_J, kd_R, n_I, n_J, n_R, r_I, r_J, c_I, c_J, c_R, i_J, i_R, j_I, j_R, y_in, y_isDay, x_within, x_isDay, x_isTown, q_10, q_01, eq_self, i_I, Nat.reduceEqDiff, Nat.add_left_cancel_iff, Nat.add_eq_left, Nat.left_eq_add, and_false, false_and, and_true, true_and, if_true, if_false, and_self, not_true, not_false_iff, reduceCtorEq], by simp only [q_rf, q_lt, q_cl, q_jn, q_b, q_b1, q_ck, kd_I, kd_J, kd_R, n_I, n_J, n_R, r_I, r_J, c_I, c_J, c_R, i_J, i_R, j_I, j_R, y_in, y_isDay, x_within, x_isDay, x_isTown, q_10, q_01, eq_self, i_I, Nat.reduceEqDiff, Nat.add_left_cancel_iff, Nat.add_eq_left, Nat.left_eq_add, and_false, false_and, and_true, true_and, if_true, if_false, and_self, not_true, not_false_iff, reduceCtorEq, sb_yports S, h3, c7], mW.rf, ⟨n, h1, h2, h3, h4⟩, fun _ => ⟨Or.inl rfl, Or.inl rfl⟩⟩
  have hn : n < 20 := by omega
  have hx := fun (β : Type) (k : Option β) => q_ckx hn (by decide) k
  have hc := nI_clamp (n := n) (by omega)
  have c6 : nI n < 20 := by rw [e20]; omega
  have c7 : ¬ nI n = 20 := by rw [e20']; exact c5
  refine ⟨nI n, _, _, by simp only [c1, c2, c3, c4, c6, hx, hc, q_rf, q_lt, q_cl, q_jn, q_b, q_b1, q_ck, kd_I, kd_J, kd_R, n_I, n_J, n_R, r_I, r_J, c_I, c_J, c_R, i_J, i_R, j_I, j_R, y_in, y_isDay, x_within, x_isDay, x_isTown, q_10, q_01, eq_self, i_I, Nat.reduceEqDiff, Nat.add_left_cancel_iff, Nat.add_eq_left, Nat.left_eq_add, and_false, false_and, and_true, true_and, if_true, if_false, and_self, not_true, not_false_iff, reduceCtorEq, sb_xsea S, h2, nI_1, nI_pred]; rfl, by simp only [c1, c2, c3, c4, c7, hx, hc, q_rf, q_lt, q_cl, q_jn, q_b, q_b1, q_ck, kd_I, kd_J, kd_R, n_I, n_J, n_R, r_I, r_J, c_I, c_J, c_R, i_J, i_R, j_I, j_R, y_in, y_isDay, x_within, x_isDay, x_isTown, q_10, q_01, eq_self, i_I, Nat.reduceEqDiff, Nat.add_left_cancel_iff, Nat.add_eq_left, Nat.left_eq_add, and_false, false_and, and_true, true_and, if_true, if_false, and_self, not_true, not_false_iff, reduceCtorEq, sb_yports S, h3, nI_1, nI_pred]; rfl, ?_, ?_, fun k => ?_⟩
  · (repeat refine mW.I ?_ (by simp [wPo])); exact mW.rf
  · refine ⟨n + 1, by omega, by simp [i_I, h2, nI_1], by simp [i_I, h3, nI_1], fun k hk => ?_⟩
    by_cases e : k = n
    · subst e
      simp [i_I]
    · have := h4 k (by omega)
      simpa [i_I, e] using this
  · by_cases e : k = n
    · refine ⟨Or.inr ?_, Or.inr ?_⟩
      · subst e
        simp [i_I]
        exact c1.2
      · subst e
        simp [i_I]
    · refine ⟨Or.inl ?_, Or.inl ?_⟩
      · simp [i_I, e]
      · simp [i_I, e]

theorem wm_wPo (w : mW (wPo B) h h') (hB : B + 147 ≤ mm_sz h) : mY B ow [11, 111] h h' := (mX.ofW w hB).up fun a k _ z => by
  rcases z with ⟨rfl, rfl⟩ | ⟨rfl, rfl⟩ | rfl | rfl | rfl | rfl | rfl | rfl | rfl | rfl
  · exact wM_F (m := 11) (by omega) rfl (by decide)
  · exact wM_F (m := 111) (by omega) rfl (by decide)
  · exact wM_F (m := 11) (by omega) rfl (by decide)
  · exact wM_F (m := 11) (by omega) rfl (by decide)
  · exact wM_F (m := 11) (by omega) rfl (by decide)
  · exact wM_F (m := 11) (by omega) rfl (by decide)
  · exact wM_F (m := 111) (by omega) rfl (by decide)
  · exact wM_F (m := 111) (by omega) rfl (by decide)
  · exact wM_F (m := 111) (by omega) rfl (by decide)
  · exact wM_F (m := 111) (by omega) rfl (by decide)
theorem wm_wRd (w : mW (wRd B) h h') (hB : B + 147 ≤ mm_sz h) : mY B ow [11, 111] h h' := (mX.ofW w hB).up fun a k _ z => by
  rcases z with rfl | rfl
  · exact wM_F (m := 11) (by omega) rfl (by decide)
  · exact wM_F (m := 111) (by omega) rfl (by decide)
theorem wm_wSh (w : mW (wSh B) h h') (hB : B + 147 ≤ mm_sz h) : mY B ow [14, 114] h h' := (mX.ofW w hB).up fun a k _ z => by
  rcases z with ⟨rfl, rfl⟩ | ⟨rfl, rfl⟩ | rfl | rfl | rfl | rfl | rfl | rfl | rfl | rfl
  · exact wM_F (m := 14) (by omega) rfl (by decide)
  · exact wM_F (m := 114) (by omega) rfl (by decide)
  · exact wM_F (m := 14) (by omega) rfl (by decide)
  · exact wM_F (m := 14) (by omega) rfl (by decide)
  · exact wM_F (m := 14) (by omega) rfl (by decide)
  · exact wM_F (m := 14) (by omega) rfl (by decide)
  · exact wM_F (m := 114) (by omega) rfl (by decide)
  · exact wM_F (m := 114) (by omega) rfl (by decide)
  · exact wM_F (m := 114) (by omega) rfl (by decide)
  · exact wM_F (m := 114) (by omega) rfl (by decide)
theorem wm_wNe (w : mW (wNe B) h h') (hB : B + 147 ≤ mm_sz h) : mY B ow [12, 112] h h' := (mX.ofW w hB).up fun a k _ z => by
  rcases z with ⟨rfl, rfl⟩ | ⟨rfl, rfl⟩ | rfl | rfl | rfl | rfl | rfl | rfl | rfl | rfl | rfl | rfl
  · exact wM_F (m := 12) (by omega) rfl (by decide)
  · exact wM_F (m := 112) (by omega) rfl (by decide)
  · exact wM_F (m := 12) (by omega) rfl (by decide)
  · exact wM_F (m := 12) (by omega) rfl (by decide)
  · exact wM_F (m := 12) (by omega) rfl (by decide)
  · exact wM_F (m := 12) (by omega) rfl (by decide)
  · exact wM_F (m := 12) (by omega) rfl (by decide)
  · exact wM_F (m := 112) (by omega) rfl (by decide)
  · exact wM_F (m := 112) (by omega) rfl (by decide)
  · exact wM_F (m := 112) (by omega) rfl (by decide)
  · exact wM_F (m := 112) (by omega) rfl (by decide)
  · exact wM_F (m := 112) (by omega) rfl (by decide)
theorem wm_wWe (w : mW (wWe B) h h') (hB : B + 147 ≤ mm_sz h) : mY B ow [13, 113] h h' := (mX.ofW w hB).up fun a k _ z => by
  rcases z with ⟨rfl, rfl⟩ | ⟨rfl, rfl⟩ | rfl | rfl | rfl | rfl | rfl | rfl | rfl | rfl | rfl | rfl
  · exact wM_F (m := 13) (by omega) rfl (by decide)
  · exact wM_F (m := 113) (by omega) rfl (by decide)
  · exact wM_F (m := 13) (by omega) rfl (by decide)
  · exact wM_F (m := 13) (by omega) rfl (by decide)
  · exact wM_F (m := 13) (by omega) rfl (by decide)
  · exact wM_F (m := 13) (by omega) rfl (by decide)
  · exact wM_F (m := 13) (by omega) rfl (by decide)
  · exact wM_F (m := 113) (by omega) rfl (by decide)
  · exact wM_F (m := 113) (by omega) rfl (by decide)
  · exact wM_F (m := 113) (by omega) rfl (by decide)
  · exact wM_F (m := 113) (by omega) rfl (by decide)
  · exact wM_F (m := 113) (by omega) rfl (by decide)
theorem wm_wHa (w : mW (wHa B) h h') (hB : B + 147 ≤ mm_sz h) : mY B ow [15, 115] h h' := (mX.ofW w hB).up fun a k _ z => by
  rcases z with ⟨rfl, rfl⟩ | ⟨rfl, rfl⟩ | rfl | rfl | rfl | rfl | rfl | rfl
  · exact wM_F (m := 15) (by omega) rfl (by decide)
  · exact wM_F (m := 115) (by omega) rfl (by decide)
  · exact wM_F (m := 15) (by omega) rfl (by decide)
  · exact wM_F (m := 15) (by omega) rfl (by decide)
  · exact wM_F (m := 15) (by omega) rfl (by decide)
  · exact wM_F (m := 115) (by omega) rfl (by decide)
  · exact wM_F (m := 115) (by omega) rfl (by decide)
  · exact wM_F (m := 115) (by omega) rfl (by decide)
theorem wm_wCk (w : mW (wCk B) h h') (hB : B + 147 ≤ mm_sz h) : mY B ow [1, 101] h h' := (mX.ofW w hB).up fun a k _ z => by
  rcases z with ⟨rfl, rfl⟩ | ⟨rfl, rfl⟩
  · exact wM_Z (m := 1) rfl (by decide)
  · exact wM_F (m := 101) (by omega) rfl (by decide)
theorem wm_wEn (w : mW (wEn B) h h') (hB : B + 147 ≤ mm_sz h) : mY B ow [16, 116] h h' := (mX.ofW w hB).up fun a k _ z => by
  rcases z with ⟨rfl, rfl | rfl⟩ | ⟨rfl, rfl | rfl⟩ | ⟨rfl, rfl⟩ | ⟨rfl, rfl⟩ | rfl | rfl | rfl | rfl | rfl | rfl | rfl | rfl | rfl
  · exact wM_F (m := 16) (by omega) rfl (by decide)
  · exact wM_F (m := 16) (by omega) rfl (by decide)
  · exact wM_F (m := 116) (by omega) rfl (by decide)
  · exact wM_F (m := 116) (by omega) rfl (by decide)
  · exact wM_F (m := 16) (by omega) rfl (by decide)
  · exact wM_F (m := 116) (by omega) rfl (by decide)
  · exact wM_F (m := 16) (by omega) rfl (by decide)
  · exact wM_F (m := 16) (by omega) rfl (by decide)
  · exact wM_F (m := 16) (by omega) rfl (by decide)
  · exact wM_F (m := 16) (by omega) rfl (by decide)
  · exact wM_F (m := 16) (by omega) rfl (by decide)
  · exact wM_F (m := 16) (by omega) rfl (by decide)
  · exact wM_F (m := 116) (by omega) rfl (by decide)
  · exact wM_F (m := 116) (by omega) rfl (by decide)
  · exact wM_F (m := 116) (by omega) rfl (by decide)
theorem wm_wCl (w : mW (wCl B) h h') (hB : B + 147 ≤ mm_sz h) : mY B ow [16, 116] h h' := (mX.ofW w hB).up fun a k _ z => by
  rcases z with ⟨rfl, rfl | rfl⟩ | ⟨rfl, rfl | rfl⟩ | ⟨rfl, rfl⟩ | ⟨rfl, rfl⟩
  · exact wM_F (m := 16) (by omega) rfl (by decide)
  · exact wM_F (m := 16) (by omega) rfl (by decide)
  · exact wM_F (m := 116) (by omega) rfl (by decide)
  · exact wM_F (m := 116) (by omega) rfl (by decide)
  · exact wM_F (m := 16) (by omega) rfl (by decide)
  · exact wM_F (m := 116) (by omega) rfl (by decide)
theorem wm_wHx (w : mW (fun a k => wHx B a k ∨ wHy B a k) h h') (hB : B + 147 ≤ mm_sz h) : mY B ow [15, 115] h h' := (mX.ofW w hB).up fun a k _ z => by
  rcases z with (⟨rfl, rfl⟩ | rfl) | (⟨rfl, rfl⟩ | rfl)
  · exact wM_F (m := 15) (by omega) rfl (by decide)
  · exact wM_F (m := 15) (by omega) rfl (by decide)
  · exact wM_F (m := 115) (by omega) rfl (by decide)
  · exact wM_F (m := 115) (by omega) rfl (by decide)
theorem wm_wSp (w : mW (wSp B) h h') (hB : B + 147 ≤ mm_sz h) : mY B ow [100] h h' := (mX.ofW w hB).up fun a k _ z => by
  rcases z with ⟨rfl, rfl | rfl | rfl | rfl | rfl | rfl⟩ <;> exact wM_F (m := 100) (by omega) rfl (by decide)

theorem ck_h {β : Type} {c : Prop} [Decidable c] {k : Option β} {v : β} (e : mm_ck c k = some v) : c := by
  by_cases hc : c
  · exact hc
  · unfold mm_ck at e; rw [if_neg hc] at e; cases e
theorem y_in3 (a b c : Int32) (h : mm_H) : fX12_in a b c h = some (0, h) ∨ fX12_in a b c h = some (1, h) := by
  unfold fX12_in
  by_cases c1 : a < b
  · left; rw [if_pos c1]
  · rw [if_neg c1]
    by_cases c2 : c < a
    · left; rw [if_pos c2]
    · right; rw [if_neg c2]
theorem y_day3 (a : Int32) (h : mm_H) : fX12_isDay a h = some (0, h) ∨ fX12_isDay a h = some (1, h) := by
  unfold fX12_isDay
  rcases y_in3 a 0 3999 h with e | e
  · left; rw [e, p_cl]; exact q_ck (Or.inl rfl)
  · right; rw [e, p_cl]; exact q_ck (Or.inr rfl)
theorem so_2 {β : Type} {a b : β} {g g' : mm_H} (e : some (a, g) = some (b, g')) : g = g' := by injection e with e; injection e with _ e
end RA
