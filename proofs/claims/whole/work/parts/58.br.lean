/-! a new lot: bring -/
section BR
variable {B : Nat} {h hx hy hx' hy' : mm_H} {ow ow' : Nat → Nat × Nat} {n nm : Nat} {am al : Nat → Nat} {P C : Nat → Nat}
theorem J_comes (S : mS B hx) (S' : mS B hy) (R : RLt B ow hx hy nm n al) (hn : n < 200) {k a m f : Int32} (hk : 0 ≤ k ∧ k ≤ 7) (ha : 0 ≤ a ∧ a ≤ 100000) (hm : 0 ≤ m ∧ m < nI nm) : ∃ g1 hx' ow' hy' al', (fX6_init (mm_sz hx) k a m f (mm_new hx 7 0) = some ((), g1) ∧ mm_kd g1 (B + 2) = 0 ∧ fJx4a65c_add_9ea2d (B + 2) (mm_sz hx) g1 = some (1, hx')) ∧ fX12_comes (B + 66) m k a f hy = some (nI n, hy') ∧ mY B ow [6] hx hx' ∧ mO ow ow' hx ∧ (∀ o : Nat → Nat × Nat, mY B o [106, 126] hy hy') ∧ RLt B ow' hx' hy' nm (n + 1) al' ∧ ∀ j, j < n → al' j = al j := by
  obtain ⟨R1, R2, R3, R4⟩ := id R
  have hB := S.1
  have k1 : mm_kd (mm_new hx 7 0) (mm_sz hx) = 7 := by rw [kd_N, if_pos rfl]
  obtain ⟨g1, hg1⟩ : ∃ g1, g1 = mm_setI (mm_setI (mm_setI (mm_setI (mm_setI (mm_new hx 7 0) (mm_sz hx) 0 k) (mm_sz hx) 1 f) (mm_sz hx) 2 a) (mm_sz hx) 3 a) (mm_sz hx) 4 m := ⟨_, rfl⟩
  have f1 : fX6_init (mm_sz hx) k a m f (mm_new hx 7 0) = some ((), g1) := by
    rw [hg1]; unfold fX6_init; simp only [q_rf, q_lt, q_cl, q_jn, q_b, q_b1, q_ck, kd_I, kd_J, kd_R, n_I, n_J, n_R, r_I, r_J, c_I, c_J, c_R, i_J, i_R, j_I, j_R, y_in, y_isDay, x_within, x_isDay, x_isTown, k1]
  have x1 : mY B ow [] hx g1 := by
    rw [hg1]
    exact ((((((mX.rf hB).N).INw (Nat.le_refl _)).INw (Nat.le_refl _)).INw (Nat.le_refl _)).INw (Nat.le_refl _)).INw (Nat.le_refl _)
  have z1 : mm_sz g1 = mm_sz hx + 1 := by rw [hg1]; rfl
  have d1 : mm_kd g1 (mm_sz hx) = 7 := by rw [hg1]; exact k1
  have o1 : mO ow (oN ow (mm_sz hx) 2 n) hx := oN.mO (Nat.le_refl _)
  have L1 : mL B (oN ow (mm_sz hx) 2 n) g1 (B + 2) 1 7 n al := R2.up2 rfl (by omega) x1 o1 (m := 6) rfl rfl (fun _ => rfl) (by decide)
  have U1 : Lv B (oN ow (mm_sz hx) 2 n) g1 2 n (mm_sz hx) := ⟨hB, by omega, oN.at⟩
  have S1 := x1.S S
  obtain ⟨g2, ow2, f2, x2, o2, L2⟩ := x_add S1.1 (by omega) (Or.inr (Or.inl ⟨Or.inr (Or.inl rfl), rfl⟩)) (sk2 S1) (by decide) L1 (by omega) U1 d1
  have y2 : mY B (oN ow (mm_sz hx) 2 n) [6] g1 g2 := wM_wL (m := 6) x2 rfl (by omega) (fun k hk => rfl) (fun _ => rfl) (by decide)
  have x3 : mY B ow [6] hx g2 := (wM_le x1 (by simp)).tr2 o1 y2
  have hq := fun (β : Type) (k : Option β) => q_ckx hn (by decide) k
  have hc := nI_clamp (n := n) (by omega)
  obtain ⟨h2, e2⟩ : ∃ h2, h2 = mm_setI (mm_setI (mm_setI (mm_setI (mm_setI (mm_setI hy (B + 74) n k) (B + 75) n a) (B + 76) n m) (B + 77) n f) (B + 78) n a) (B + 66) 10 (nI (n + 1)) := ⟨_, rfl⟩
  have al_new : (fun k => if k = n then mm_sz hx else al k) n = mm_sz hx := if_pos rfl
  have al_old : ∀ {k}, k ≠ n → (fun k => if k = n then mm_sz hx else al k) k = al k := fun e => if_neg e
  have U4 : ∀ j, mm_i g2 (mm_sz hx) j = mm_i g1 (mm_sz hx) j := fun j => by
    refine x2.i (by omega) ?_
    rintro (z | z)
    · omega
    · have := z.2
      rw [oN.at] at this
      simp at this
  have old4 : ∀ {k j}, k < n → mm_i g2 (al k) j = mm_i hx (al k) j := fun {k j} hk => by
    have Lk := (R2.2.2.2 k hk).1
    have := Lk.1
    rw [x2.i (by have := Lk.2.1; omega) ?_]
    · exact x1.i Lk.2.1 (by unfold wM; simp)
    · rintro (z | z)
      · omega
      · have := z.2
        rw [(L1.2.2.2 k hk).1.2.2] at this
        simp at this
  refine ⟨g1, g2, ow2, h2, fun k => if k = n then mm_sz hx else al k, ⟨f1, sk2 S1, f2⟩, ?_, x3, o1.tr x1 o2, fun o => ?_, ⟨by omega, L2, by rw [e2, i_I, if_pos ⟨rfl, rfl⟩], fun j hj => ?_⟩, fun j hj => if_neg (by omega)⟩
  · unfold fX12_comes
    simp only [q_rf, q_lt, q_cl, q_jn, q_b, q_b1, q_ck, kd_I, kd_J, kd_R, n_I, n_J, n_R, r_I, r_J, c_I, c_J, c_R, i_J, i_R, j_I, j_R, y_in, y_isDay, x_within, x_isDay, x_isTown, sb_ylots S', R3, hq, hc, nI_1, nI_pred, q_10, q_01, eq_self, i_I, Nat.reduceEqDiff, Nat.add_left_cancel_iff, Nat.add_eq_left, Nat.left_eq_add, and_false, false_and, and_true, true_and, if_true, if_false, and_self, not_true, not_false_iff, reduceCtorEq, e2]
  · rw [e2]
    exact ((((((mX.rf S'.1).IF (m := 106) (by omega) rfl (by decide)).IF (m := 126) (by omega) rfl (by decide)).IF (m := 126) (by omega) rfl (by decide)).IF (m := 106) (by omega) rfl (by decide)).IF (m := 106) (by omega) rfl (by decide)).IF (m := 106) (by omega) rfl (by decide)
  · by_cases e : j = n
    · subst e
      rw [al_new]
      have w74 : mm_i h2 (B + 74) j = k := by rw [e2]; simp only [i_I, q_10, q_01, eq_self, i_I, Nat.reduceEqDiff, Nat.add_left_cancel_iff, Nat.add_eq_left, Nat.left_eq_add, and_false, false_and, and_true, true_and, if_true, if_false, and_self, not_true, not_false_iff, reduceCtorEq]
      have w75 : mm_i h2 (B + 75) j = a := by rw [e2]; simp only [i_I, q_10, q_01, eq_self, i_I, Nat.reduceEqDiff, Nat.add_left_cancel_iff, Nat.add_eq_left, Nat.left_eq_add, and_false, false_and, and_true, true_and, if_true, if_false, and_self, not_true, not_false_iff, reduceCtorEq]
      have w76 : mm_i h2 (B + 76) j = m := by rw [e2]; simp only [i_I, q_10, q_01, eq_self, i_I, Nat.reduceEqDiff, Nat.add_left_cancel_iff, Nat.add_eq_left, Nat.left_eq_add, and_false, false_and, and_true, true_and, if_true, if_false, and_self, not_true, not_false_iff, reduceCtorEq]
      have w77 : mm_i h2 (B + 77) j = f := by rw [e2]; simp only [i_I, q_10, q_01, eq_self, i_I, Nat.reduceEqDiff, Nat.add_left_cancel_iff, Nat.add_eq_left, Nat.left_eq_add, and_false, false_and, and_true, true_and, if_true, if_false, and_self, not_true, not_false_iff, reduceCtorEq]
      have w78 : mm_i h2 (B + 78) j = a := by rw [e2]; simp only [i_I, q_10, q_01, eq_self, i_I, Nat.reduceEqDiff, Nat.add_left_cancel_iff, Nat.add_eq_left, Nat.left_eq_add, and_false, false_and, and_true, true_and, if_true, if_false, and_self, not_true, not_false_iff, reduceCtorEq]
      have v : mm_i g1 (mm_sz hx) 0 = k ∧ mm_i g1 (mm_sz hx) 1 = f ∧ mm_i g1 (mm_sz hx) 2 = a ∧ mm_i g1 (mm_sz hx) 3 = a ∧ mm_i g1 (mm_sz hx) 4 = m := by
        rw [hg1]; simp only [i_I, q_10, q_01, eq_self, i_I, Nat.reduceEqDiff, Nat.add_left_cancel_iff, Nat.add_eq_left, Nat.left_eq_add, and_false, false_and, and_true, true_and, if_true, if_false, and_self, not_true, not_false_iff, reduceCtorEq]
      unfold mLot
      rw [U4, U4, U4, U4, U4, w74, w75, w76, w77, w78, v.1, v.2.1, v.2.2.1, v.2.2.2.1, v.2.2.2.2]
      exact ⟨⟨rfl, hk⟩, rfl, rfl, ⟨rfl, ha⟩, rfl, hm⟩
    · rw [al_old e]
      have hk2 : j < n := by omega
      have M0 := R4 j hk2
      have w74 : mm_i h2 (B + 74) j = mm_i hy (B + 74) j := by rw [e2]; simp only [i_I, q_10, q_01, eq_self, i_I, Nat.reduceEqDiff, Nat.add_left_cancel_iff, Nat.add_eq_left, Nat.left_eq_add, and_false, false_and, and_true, true_and, if_true, if_false, and_self, not_true, not_false_iff, reduceCtorEq, e]
      have w75 : mm_i h2 (B + 75) j = mm_i hy (B + 75) j := by rw [e2]; simp only [i_I, q_10, q_01, eq_self, i_I, Nat.reduceEqDiff, Nat.add_left_cancel_iff, Nat.add_eq_left, Nat.left_eq_add, and_false, false_and, and_true, true_and, if_true, if_false, and_self, not_true, not_false_iff, reduceCtorEq, e]
      have w76 : mm_i h2 (B + 76) j = mm_i hy (B + 76) j := by rw [e2]; simp only [i_I, q_10, q_01, eq_self, i_I, Nat.reduceEqDiff, Nat.add_left_cancel_iff, Nat.add_eq_left, Nat.left_eq_add, and_false, false_and, and_true, true_and, if_true, if_false, and_self, not_true, not_false_iff, reduceCtorEq, e]
      have w77 : mm_i h2 (B + 77) j = mm_i hy (B + 77) j := by rw [e2]; simp only [i_I, q_10, q_01, eq_self, i_I, Nat.reduceEqDiff, Nat.add_left_cancel_iff, Nat.add_eq_left, Nat.left_eq_add, and_false, false_and, and_true, true_and, if_true, if_false, and_self, not_true, not_false_iff, reduceCtorEq, e]
      have w78 : mm_i h2 (B + 78) j = mm_i hy (B + 78) j := by rw [e2]; simp only [i_I, q_10, q_01, eq_self, i_I, Nat.reduceEqDiff, Nat.add_left_cancel_iff, Nat.add_eq_left, Nat.left_eq_add, and_false, false_and, and_true, true_and, if_true, if_false, and_self, not_true, not_false_iff, reduceCtorEq, e]
      unfold mLot at *
      rw [old4 hk2, old4 hk2, old4 hk2, old4 hk2, old4 hk2, w74, w75, w76, w77, w78]
      exact M0
theorem T_bring (S : mS B h) (N : RNow B h) (R : RMn B ow h h nm am) (Q : RLt B ow h h nm n al) (a b c : Int32) : ∃ r h1 h2 ow' n' al', fX11_bring B a b c h = some (r, h1) ∧ fX12_bring (B + 66) a b c h1 = some (r, h2) ∧ mY B ow [6, 106, 126] h h2 ∧ mO ow ow' h ∧ RLt B ow' h2 h2 nm n' al' := by
  obtain ⟨N1, N2, N3⟩ := N
  have hB := S.1
  obtain ⟨f1, f2⟩ := x_manThere S R.2.1 (a := a)
  obtain ⟨Q1, Q2, Q3, Q4⟩ := id Q
  have hsz := x_size (sk2 S) Q2
  have e20 : ((200 : Int32) ≤ nI n) = (200 ≤ n) := propext (nI_leI (a := 200) (by omega) (by omega))
  have e20' : (nI n = 200) = (n = 200) := propext (nI_eq (b := 200) (by omega) (by omega))
  have same : mY B ow [6, 106, 126] h h := mX.rf hB
  have G := y_isThere S R N3 (a := a)
  unfold fX11_bring fX12_bring
  by_cases c1 : n = 200
  case pos =>
    have k1 : (200 ≤ n) = True := eq_true (by omega)
    have k2 : (nI n = 200) = True := by rw [e20']; exact eq_true c1
    exact ⟨-1, h, h, ow, n, al, by simp only [q_rf, q_lt, q_cl, q_jn, q_b, q_b1, q_ck, kd_I, kd_J, kd_R, n_I, n_J, n_R, r_I, r_J, c_I, c_J, c_R, i_J, i_R, j_I, j_R, y_in, y_isDay, x_within, x_isDay, x_isTown, sb_xbase S, hsz, e20, k1, if_true], by simp only [q_rf, q_lt, q_cl, q_jn, q_b, q_b1, q_ck, kd_I, kd_J, kd_R, n_I, n_J, n_R, r_I, r_J, c_I, c_J, c_R, i_J, i_R, j_I, j_R, y_in, y_isDay, x_within, x_isDay, x_isTown, sk66 S, Q3, k2, if_true], same, mO.rf, Q⟩
  have k1 : ¬ 200 ≤ n := by omega
  by_cases c2 : isTh h nm am a
  case neg => exact ⟨-1, h, h, ow, n, al, by simp only [q_rf, q_lt, q_cl, q_jn, q_b, q_b1, q_ck, kd_I, kd_J, kd_R, n_I, n_J, n_R, r_I, r_J, c_I, c_J, c_R, i_J, i_R, j_I, j_R, y_in, y_isDay, x_within, x_isDay, x_isTown, sb_xbase S, hsz, e20, k1, f2 c2, q_10, q_01, eq_self, i_I, Nat.reduceEqDiff, Nat.add_left_cancel_iff, Nat.add_eq_left, Nat.left_eq_add, and_false, false_and, and_true, true_and, if_true, if_false, and_self, not_true, not_false_iff, reduceCtorEq], by simp only [q_rf, q_lt, q_cl, q_jn, q_b, q_b1, q_ck, kd_I, kd_J, kd_R, n_I, n_J, n_R, r_I, r_J, c_I, c_J, c_R, i_J, i_R, j_I, j_R, y_in, y_isDay, x_within, x_isDay, x_isTown, sk66 S, Q3, e20', c1, G.2 c2, q_10, q_01, eq_self, i_I, Nat.reduceEqDiff, Nat.add_left_cancel_iff, Nat.add_eq_left, Nat.left_eq_add, and_false, false_and, and_true, true_and, if_true, if_false, and_self, not_true, not_false_iff, reduceCtorEq], same, mO.rf, Q⟩
  by_cases c3 : 0 ≤ b ∧ b ≤ 7
  case neg => exact ⟨-1, h, h, ow, n, al, by simp only [q_rf, q_lt, q_cl, q_jn, q_b, q_b1, q_ck, kd_I, kd_J, kd_R, n_I, n_J, n_R, r_I, r_J, c_I, c_J, c_R, i_J, i_R, j_I, j_R, y_in, y_isDay, x_within, x_isDay, x_isTown, sb_xbase S, hsz, e20, k1, f1 c2, c3, q_10, q_01, eq_self, i_I, Nat.reduceEqDiff, Nat.add_left_cancel_iff, Nat.add_eq_left, Nat.left_eq_add, and_false, false_and, and_true, true_and, if_true, if_false, and_self, not_true, not_false_iff, reduceCtorEq], by simp only [q_rf, q_lt, q_cl, q_jn, q_b, q_b1, q_ck, kd_I, kd_J, kd_R, n_I, n_J, n_R, r_I, r_J, c_I, c_J, c_R, i_J, i_R, j_I, j_R, y_in, y_isDay, x_within, x_isDay, x_isTown, sk66 S, Q3, e20', c1, G.1 c2, c3, q_10, q_01, eq_self, i_I, Nat.reduceEqDiff, Nat.add_left_cancel_iff, Nat.add_eq_left, Nat.left_eq_add, and_false, false_and, and_true, true_and, if_true, if_false, and_self, not_true, not_false_iff, reduceCtorEq], same, mO.rf, Q⟩
  by_cases c4 : 1 ≤ c ∧ c ≤ 100000
  case neg => exact ⟨-1, h, h, ow, n, al, by simp only [q_rf, q_lt, q_cl, q_jn, q_b, q_b1, q_ck, kd_I, kd_J, kd_R, n_I, n_J, n_R, r_I, r_J, c_I, c_J, c_R, i_J, i_R, j_I, j_R, y_in, y_isDay, x_within, x_isDay, x_isTown, sb_xbase S, hsz, e20, k1, f1 c2, c3, c4, q_10, q_01, eq_self, i_I, Nat.reduceEqDiff, Nat.add_left_cancel_iff, Nat.add_eq_left, Nat.left_eq_add, and_false, false_and, and_true, true_and, if_true, if_false, and_self, not_true, not_false_iff, reduceCtorEq], by simp only [q_rf, q_lt, q_cl, q_jn, q_b, q_b1, q_ck, kd_I, kd_J, kd_R, n_I, n_J, n_R, r_I, r_J, c_I, c_J, c_R, i_J, i_R, j_I, j_R, y_in, y_isDay, x_within, x_isDay, x_isTown, sk66 S, Q3, e20', c1, G.1 c2, c3, c4, q_10, q_01, eq_self, i_I, Nat.reduceEqDiff, Nat.add_left_cancel_iff, Nat.add_eq_left, Nat.left_eq_add, and_false, false_and, and_true, true_and, if_true, if_false, and_self, not_true, not_false_iff, reduceCtorEq], same, mO.rf, Q⟩
  obtain ⟨m, hm, rfl, hm4⟩ := id c2
  have hm1 : 0 ≤ nI m ∧ nI m < nI nm := ⟨nI_pos' (by have := R.1; omega), nI_lt hm (by have := R.1; omega)⟩
  have c5 : 0 ≤ c ∧ c ≤ 100000 := ⟨Int32.le_trans (by decide) c4.1, c4.2⟩
  obtain ⟨g1, h1, ow1, _, al1, ⟨p1, p2, p3⟩, -, p5, p6, -, p8, -⟩ := J_comes S S Q (f := -1) (by omega) c3 c5 hm1
  have S1 := p5.S S
  have Q' : RLt B ow h h1 nm n al := Q.up (ms := []) (mX.rf hB) mO.rf p5 (by decide) (by decide) (Nat.le_refl _) (by have := R.1; omega)
  have R' : RMn B ow h h1 nm am := R.up (ms := []) (mX.rf hB) mO.rf p5 (by decide) (by decide) (Int32.le_refl _)
  obtain ⟨g1', h1', ow1', h2, al2, ⟨q1, q2, q3⟩, q4, q5, q6, q7, q8, q9⟩ := J_comes S S1 Q' (f := -1) (by omega) c3 c5 hm1
  rw [q1] at p1
  obtain rfl : g1' = g1 := (Prod.mk.inj (Option.some.inj p1)).2
  rw [q3] at p3
  obtain rfl : h1' = h1 := (Prod.mk.inj (Option.some.inj p3)).2
  have S2 := (q7 ow).S S1
  have kB : mm_kd (mm_new h 7 0) B = 12 := by rw [kd_N, if_neg (by omega)]; exact sk0 S
  have hsz2 := x_size (sk2 S1) q8.2.1
  have G' := (y_isThere S1 R' N3 (a := nI m)).1 c2
  have Q3' : mm_i h1' (B + 66) 10 = nI n := (p5.iF (m := 106) (by omega) rfl (by decide)).trans Q3
  refine ⟨nI n, h1', h2, ow1', n + 1, al2, ?_, ?_, (wM_le q5 (by simp)).tr (wM_le (q7 ow) (by simp)), q6, ?_⟩
  · simp only [q_rf, q_lt, q_cl, q_jn, q_b, q_b1, q_ck, kd_I, kd_J, kd_R, n_I, n_J, n_R, r_I, r_J, c_I, c_J, c_R, i_J, i_R, j_I, j_R, y_in, y_isDay, x_within, x_isDay, x_isTown, sb_xbase S, hsz, e20, k1, f1 c2, c3, c4, q1, q2, q3, sk0 S1, sr0_1 S1, sk2 S1, hsz2, nI_pred, q_10, q_01, eq_self, i_I, Nat.reduceEqDiff, Nat.add_left_cancel_iff, Nat.add_eq_left, Nat.left_eq_add, and_false, false_and, and_true, true_and, if_true, if_false, and_self, not_true, not_false_iff, reduceCtorEq]
  · simp only [q_rf, q_lt, q_cl, q_jn, q_b, q_b1, q_ck, kd_I, kd_J, kd_R, n_I, n_J, n_R, r_I, r_J, c_I, c_J, c_R, i_J, i_R, j_I, j_R, y_in, y_isDay, x_within, x_isDay, x_isTown, sk66 S1, Q3', e20', c1, G', c3, c4, q4, q_10, q_01, eq_self, i_I, Nat.reduceEqDiff, Nat.add_left_cancel_iff, Nat.add_eq_left, Nat.left_eq_add, and_false, false_and, and_true, true_and, if_true, if_false, and_self, not_true, not_false_iff, reduceCtorEq]
  · exact q8.up (ms := [106, 126]) (q7 ow1') mO.rf (ms' := []) (mX.rf S2.1) (by decide) (by decide) (Nat.le_refl _) (by have := R.1; omega)
end BR
