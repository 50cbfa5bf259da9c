/-! a man who is there: leave, broke -/
section ML
variable {B : Nat} {h hx hy hx' hy' : mm_H} {ow ow' : Nat → Nat × Nat} {n nm : Nat} {am al : Nat → Nat} {P C : Nat → Nat}
/-- is the man k there: as the class sees it -/
def isTh (h : mm_H) (n : Nat) (am : Nat → Nat) (a : Int32) : Prop := ∃ k, k < n ∧ a = nI k ∧ mm_i h (am k) 4 = -1
theorem x_manThere (S : mS B h) (L : mL B ow h (B + 1) 0 8 n am) {a : Int32} : (isTh h n am a → fX11_manThere B a h = some (some (am a.toNatClampNeg), h)) ∧ (¬ isTh h n am a → fX11_manThere B a h = some (none, h)) := by
  have hsz := x_size (sk1 S) L
  have n9 := L.1
  unfold fX11_manThere
  by_cases c1 : a < 0
  case pos => exact ⟨fun ⟨k, k1, k2, _⟩ => absurd (k2 ▸ c1) (nI_pos (by omega)), fun _ => by simp only [c1, if_true]⟩
  obtain ⟨k, hk, rfl⟩ := nI_of c1
  by_cases c2 : k < n
  case neg => exact ⟨fun ⟨j, k1, k2, _⟩ => absurd ((nI_eq hk (by omega)).mp k2) (by omega), fun _ => by simp only [q_rf, q_lt, q_cl, q_jn, q_b, q_b1, q_ck, kd_I, kd_J, kd_R, n_I, n_J, n_R, r_I, r_J, c_I, c_J, c_R, i_J, i_R, j_I, j_R, y_in, y_isDay, x_within, x_isDay, x_isTown, sb_xbase S, hsz, c1, nI_le (show n ≤ k by omega) hk, if_true, if_false]⟩
  have hg := x_get (sk1 S) L c2
  have c4 : ¬ nI n ≤ nI k := nI_ge c2 (by omega)
  have kd8 := (L.2.2.2 k c2).2
  have hc := nI_clamp (n := k) hk
  by_cases c3 : mm_i h (am k) 4 = -1
  · exact ⟨fun _ => by simp only [q_rf, q_lt, q_cl, q_jn, q_b, q_b1, q_ck, kd_I, kd_J, kd_R, n_I, n_J, n_R, r_I, r_J, c_I, c_J, c_R, i_J, i_R, j_I, j_R, y_in, y_isDay, x_within, x_isDay, x_isTown, sb_xbase S, hsz, hg, kd8, c1, c3, c4, hc, if_true, if_false], fun z => absurd ⟨k, c2, rfl, c3⟩ z⟩
  · exact ⟨fun ⟨j, k1, k2, k3⟩ => absurd k3 (by rw [← (nI_eq hk (by omega)).mp k2]; exact c3), fun _ => by simp only [q_rf, q_lt, q_cl, q_jn, q_b, q_b1, q_ck, kd_I, kd_J, kd_R, n_I, n_J, n_R, r_I, r_J, c_I, c_J, c_R, i_J, i_R, j_I, j_R, y_in, y_isDay, x_within, x_isDay, x_isTown, sb_xbase S, hsz, hg, kd8, c1, c3, c4, if_true, if_false]⟩
theorem y_isThere (S : mS B hy) (R : RMn B ow hx hy n am) (N3 : mm_i hx B 11 ≤ 3999) {a : Int32} : (isTh hx n am a → fX12_isThere (B + 66) a hy = some (1, hy)) ∧ (¬ isTh hx n am a → fX12_isThere (B + 66) a hy = some (0, hy)) := by
  obtain ⟨R1, R2, R3, R4⟩ := id R
  unfold fX12_isThere
  have hM := y_isMan S (show n < 2 ^ 30 by omega) R3 a
  by_cases c1 : a < 0
  case pos => exact ⟨fun ⟨k, k1, k2, _⟩ => absurd (k2 ▸ c1) (nI_pos (by omega)), fun _ => by simp only [q_rf, q_lt, q_cl, q_jn, q_b, q_b1, q_ck, kd_I, kd_J, kd_R, n_I, n_J, n_R, r_I, r_J, c_I, c_J, c_R, i_J, i_R, j_I, j_R, y_in, y_isDay, x_within, x_isDay, x_isTown, sk66 S, hM, c1, not_true, false_and, not_false_iff, if_true, if_false]⟩
  obtain ⟨k, hk, rfl⟩ := nI_of c1
  by_cases c2 : k < n
  case neg => exact ⟨fun ⟨j, k1, k2, _⟩ => absurd ((nI_eq hk (by omega)).mp k2) (by omega), fun _ => by simp only [q_rf, q_lt, q_cl, q_jn, q_b, q_b1, q_ck, kd_I, kd_J, kd_R, n_I, n_J, n_R, r_I, r_J, c_I, c_J, c_R, i_J, i_R, j_I, j_R, y_in, y_isDay, x_within, x_isDay, x_isTown, sk66 S, hM, c1, nI_le (show n ≤ k by omega) hk, not_true, and_false, not_false_iff, if_true, if_false]⟩
  have c4 : ¬ nI n ≤ nI k := nI_ge c2 (by omega)
  have hq := fun (β : Type) (z : Option β) => q_ckx (show k < 40 by omega) (by decide) z
  have hc := nI_clamp (n := k) hk
  obtain ⟨m1, m2, m3, m4⟩ := R4 k c2
  by_cases c3 : mm_i hx (am k) 4 = -1
  · have c5 : mm_i hy (B + 70) k = 100000 := by
      rcases m4 with m4 | m4
      · exact m4.2
      · exact absurd (c3 ▸ m4.1) (by decide)
    exact ⟨fun _ => by simp only [q_rf, q_lt, q_cl, q_jn, q_b, q_b1, q_ck, kd_I, kd_J, kd_R, n_I, n_J, n_R, r_I, r_J, c_I, c_J, c_R, i_J, i_R, j_I, j_R, y_in, y_isDay, x_within, x_isDay, x_isTown, sb_ymen S, hM, hq, hc, c1, c4, c5, q_10, q_01, eq_self, i_I, Nat.reduceEqDiff, Nat.add_left_cancel_iff, Nat.add_eq_left, Nat.left_eq_add, and_false, false_and, and_true, true_and, if_true, if_false, and_self, not_true, not_false_iff, reduceCtorEq], fun z => absurd ⟨k, c2, rfl, c3⟩ z⟩
  · have c5 : ¬ mm_i hy (B + 70) k = 100000 := by
      rcases m4 with m4 | m4
      · exact absurd m4.1 c3
      · rw [m4.2.2]
        exact fun z => absurd (Int32.le_trans (z ▸ m4.2.1) N3) (by decide)
    exact ⟨fun ⟨j, k1, k2, k3⟩ => absurd k3 (by rw [← (nI_eq hk (by omega)).mp k2]; exact c3), fun _ => by simp only [q_rf, q_lt, q_cl, q_jn, q_b, q_b1, q_ck, kd_I, kd_J, kd_R, n_I, n_J, n_R, r_I, r_J, c_I, c_J, c_R, i_J, i_R, j_I, j_R, y_in, y_isDay, x_within, x_isDay, x_isTown, sb_ymen S, hM, hq, hc, c1, c4, c5, q_10, q_01, eq_self, i_I, Nat.reduceEqDiff, Nat.add_left_cancel_iff, Nat.add_eq_left, Nat.left_eq_add, and_false, false_and, and_true, true_and, if_true, if_false, and_self, not_true, not_false_iff, reduceCtorEq]⟩
theorem isTh_cell (R : RMn B ow hx hy n am) {k : Nat} (hk : k < n) (h4 : mm_i hx (am k) 4 = -1) : mm_i hy (B + 70) k = 100000 := by
  rcases (R.2.2.2 k hk).2.2.2 with m4 | m4
  · exact m4.2
  · exact absurd (h4 ▸ m4.1) (by decide)
theorem T_leave (S : mS B h) (N : RNow B h) (R : RMn B ow h h n am) (a : Int32) : ∃ r h1 h2, fX11_leave B a h = some (r, h1) ∧ fX12_leave (B + 66) a h1 = some (r, h2) ∧ mY B ow [24, 124] h h2 ∧ RMn B ow h2 h2 n am := by
  obtain ⟨R1, R2, R3, R4⟩ := id R
  obtain ⟨N1, N2, N3⟩ := N
  have hB := S.1
  obtain ⟨f1, f2⟩ := x_manThere S R2 (a := a)
  obtain ⟨g1, g2⟩ := y_isThere S R N3 (a := a)
  unfold fX11_leave fX12_leave
  by_cases c : isTh h n am a
  case neg => exact ⟨0, h, h, by simp only [q_rf, q_lt, q_cl, q_jn, q_b, q_b1, q_ck, kd_I, kd_J, kd_R, n_I, n_J, n_R, r_I, r_J, c_I, c_J, c_R, i_J, i_R, j_I, j_R, y_in, y_isDay, x_within, x_isDay, x_isTown, sk0 S, f2 c, not_true, if_false], by simp only [q_rf, q_lt, q_cl, q_jn, q_b, q_b1, q_ck, kd_I, kd_J, kd_R, n_I, n_J, n_R, r_I, r_J, c_I, c_J, c_R, i_J, i_R, j_I, j_R, y_in, y_isDay, x_within, x_isDay, x_isTown, sk66 S, g2 c, not_true, if_false], mX.rf hB, R⟩
  obtain ⟨k, c1, rfl, c2⟩ := id c
  obtain ⟨L1, kd8⟩ := R2.2.2.2 k c1
  have hc := nI_clamp (n := k) (by omega)
  have hx := fun (β : Type) (z : Option β) => q_ckx (show k < 40 by omega) (by decide) z
  have f3 := f1 c
  rw [hc] at f3
  obtain ⟨h1, e1⟩ : ∃ h1, h1 = mm_setI h (am k) 4 (mm_i h B 11) := ⟨_, rfl⟩
  have x1 : mY B ow [24] h h1 := by rw [e1]; exact (mX.rf hB).IL (m := 24) L1 rfl (by decide)
  have S1 := x1.S S
  have i1 : mm_i h1 (B + 66) 1 = mm_i h B 11 := (x1.iF (m := 101) (by omega) rfl (by decide)).trans N1
  have d1 : mm_kd h1 = mm_kd h := by rw [e1]; rfl
  have g3 : fX12_isThere (B + 66) (nI k) h1 = some (1, h1) := by
    have R' : RMn B ow h h1 n am := R.up (ms := []) (mX.rf hB) mO.rf x1 (by decide) (by decide) (Int32.le_refl _)
    exact (y_isThere S1 R' N3).1 c
  obtain ⟨h2, e2⟩ : ∃ h2, h2 = mm_setI h1 (B + 70) k (mm_i h B 11) := ⟨_, rfl⟩
  have x2 : mY B ow [124] h1 h2 := by rw [e2]; exact (mX.rf S1.1).IF (m := 124) (by omega) rfl (by decide)
  have x3 : mY B ow [24, 124] h h2 := (wM_le x1 (by simp)).tr (wM_le x2 (by simp))
  have a2 : mm_i h2 B 11 = mm_i h B 11 := x3.i0 (m := 1) rfl (by decide)
  refine ⟨1, h1, h2, ?_, ?_, x3, R1, R2.up2 rfl (by omega) x3 mO.rf (m := 4) rfl rfl (fun _ => rfl) (by decide), (x3.iF (m := 104) (by omega) rfl (by decide)).trans R3, fun j hj => ?_⟩
  · simp only [q_rf, q_lt, q_cl, q_jn, q_b, q_b1, q_ck, kd_I, kd_J, kd_R, n_I, n_J, n_R, r_I, r_J, c_I, c_J, c_R, i_J, i_R, j_I, j_R, y_in, y_isDay, x_within, x_isDay, x_isTown, sk0 S, f3, kd8, reduceCtorEq, not_false_iff, if_true, e1]
  · simp only [q_rf, q_lt, q_cl, q_jn, q_b, q_b1, q_ck, kd_I, kd_J, kd_R, n_I, n_J, n_R, r_I, r_J, c_I, c_J, c_R, i_J, i_R, j_I, j_R, y_in, y_isDay, x_within, x_isDay, x_isTown, sb_ymen S1, g3, i1, hx, hc, q_10, not_false_iff, if_true, e2]
  · obtain ⟨m1, m2, m3, m4⟩ := R4 j hj
    obtain ⟨Lj, _⟩ := R2.2.2.2 j hj
    unfold mMan
    rw [x3.iF (j := 67) (m := 104) (by omega) rfl (by decide), x3.iF (j := 73) (m := 104) (by omega) rfl (by decide), x3.iF (j := 69) (m := 104) (by omega) rfl (by decide), x3.iL (m := 4) (k := 0) Lj rfl (by decide), x3.iL (m := 4) (k := 1) Lj rfl (by decide), x3.iL (m := 4) (k := 2) Lj rfl (by decide), a2]
    refine ⟨m1, m2, m3, ?_⟩
    by_cases e : j = k
    · subst e
      have p1 : mm_i h2 (am j) 4 = mm_i h B 11 := by
        rw [e2, i_I, if_neg (fun z => by have := L1.1; omega), e1, i_I, if_pos ⟨rfl, rfl⟩]
      have p2 : mm_i h2 (B + 70) j = mm_i h B 11 := by rw [e2, i_I, if_pos ⟨rfl, rfl⟩]
      rw [p1, p2]
      exact Or.inr ⟨N2, Int32.le_refl _, rfl⟩
    · have hne : am j ≠ am k := fun z => e (by have q1 := Lj.2.2; rw [z, L1.2.2] at q1; exact (Prod.mk.inj q1).2.symm)
      have p1 : mm_i h2 (am j) 4 = mm_i h (am j) 4 := by
        rw [e2, i_I, if_neg (fun z => by have := Lj.1; omega), e1, i_I, if_neg (fun z => hne z.1)]
      have p2 : mm_i h2 (B + 70) j = mm_i h (B + 70) j := by rw [e2, i_I, if_neg (fun z => e z.2), e1, i_I, if_neg (fun z => by have := L1.1; omega)]
      rw [p1, p2]
      exact m4
end ML
