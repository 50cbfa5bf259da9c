/-! call: the debtor, then his sureties in their order -/
theorem nI_div {a b : Nat} (ha : a < 2 ^ 31) (hb : b < 2 ^ 31) : nI a / nI b = nI (a / b) := by
  have h1 : a / b ≤ a := Nat.div_le_self a b
  refine Int32.toInt_inj.mp ?_
  rw [Int32.toInt_div, nI_toInt ha, nI_toInt hb, nI_toInt (by omega)]
  rw [show ((a : Int).tdiv (b : Int)) = ((a / b : Nat) : Int) from rfl]
  generalize a / b = q at h1 ⊢
  exact Int.bmod_eq_of_le (by omega) (by omega)
section CA
variable {B : Nat} {h hx hy hx' hy' : mm_H} {ow ow' : Nat → Nat × Nat} {n nm nl nb : Nat} {am al : Nat → Nat} {P C : Nat → Nat} {A U U' : Nat → Nat → Nat} {T : Nat → Int32} {x : Nat}
theorem y_callstep {y1 y2 y3 : mm_H} {k i j q v O p s cl l : Nat} {cr tt acc : Int32} {K : Int32 → mm_H → Option (Int32 × mm_H)} {self : Int32 → Int32 → mm_H → Option (Int32 × mm_H)} (S' : mS B hy) (S1' : mS B y1) (S2' : mS B y2) (S3' : mS B y3) (hk : k < 300) (hj : j < 900) (hv : v < 40) (hi : i < q) (hq3 : q ≤ 3) (q39 : (3 : Int32) * nI k + nI i = nI j) (d2 : mm_i hy (B + 106) k = nI q) (s2 : mm_i hy (B + 107) j = nI v) (c2 : mm_i hy (B + 100) k = nI O) (hqu : mm_i hy (B + 68) v = nI p) (hl : l = q - i) (hs : s = min p ((O + l - 1) / l)) (hO : O ≤ 1000000) (hp : p < 2 ^ 30) (hcl : cl ≤ 1000000) (q1 : y1 = mm_setI hy (B + 68) v (nI (p - s))) (q2 : y2 = mm_setI y1 (B + 100) k (nI (O - s))) (q3 : y3 = mm_setI y2 (B + 108) j (nI (cl + s))) (i4 : mm_i y1 (B + 100) k = nI O) (i5 : mm_i y2 (B + 108) j = nI cl) (i2 : mm_i y3 (B + 104) k = cr) (i3 : mm_i y3 (B + 105) k = tt) (hsO : s ≤ O) (p2 : fX12_goes (B + 66) (nI s) cr tt y3 = some ((), hy')) : fX12_call_L46_b (B + 66) (nI k) K self acc (nI i) hy = self (acc + nI s) (nI (i + 1)) hy' := by
  have hq := fun (β : Type) (z : Option β) => q_ckx hk (by decide) z
  have hq1 := fun (β : Type) (z : Option β) => q_ckx hj (by decide) z
  have hq2 := fun (β : Type) (z : Option β) => q_ckx hv (by decide) z
  have hcl0 := nI_clamp (n := k) (by omega)
  have hcl1 := nI_clamp (n := j) (by omega)
  have hcl2 := nI_clamp (n := v) (by omega)
  have e1 : ¬ nI q ≤ nI i := nI_ge hi (by omega)
  have e2 : nI q - nI i = nI l := by rw [nI_sub (by omega), hl]
  have e3 : ¬ nI l = 0 := nI_ne0 (by omega) (by omega)
  have e4 : (nI O + nI l - 1) / nI l = nI ((O + l - 1) / l) := by
    rw [nI_add, show (1 : Int32) = nI 1 by decide +kernel, nI_sub (by omega), nI_div (by omega) (by omega)]
  have hd : (O + l - 1) / l ≤ O + l - 1 := Nat.div_le_self _ _
  have sub1 : nI O - nI s = nI (O - s) := nI_sub (by omega)
  have sub2 : nI p - nI s = nI (p - s) := nI_sub (by omega)
  have t1 : (nI p ≤ nI ((O + l - 1) / l)) = (p ≤ (O + l - 1) / l) := propext (nI_leI (by omega) (by omega))
  unfold fX12_call_L46_b
  by_cases w1 : p ≤ (O + l - 1) / l
  · obtain rfl : s = p := by omega
    rw [q39]
    simp only [q_rf, q_lt, q_cl, q_jn, q_ck, sb_ybarg S', sb_ymen S', hq, hcl0, d2, e1, e2, if_false]
    simp only [q_rf, q_lt, q_cl, q_jn, q_ck, sb_ybarg S', sb_ymen S', hq, hq1, hq2, hcl0, hcl1, s2, c2, e4]
    simp only [q_rf, q_lt, q_cl, q_jn, q_b, q_b1, q_ck, kd_I, kd_J, kd_R, n_I, n_J, n_R, r_I, r_J, c_I, c_J, c_R, i_J, i_R, j_I, j_R, y_in, y_isDay, x_within, x_isDay, x_isTown, sb_ybarg S', sb_ymen S', hq, hq1, hq2, hcl0, hcl1, hcl2, e3, not_false_iff, hqu, t1, w1, if_true, sub1, sub2, ← q1]
    simp only [q_rf, q_lt, q_cl, q_jn, q_b, q_b1, q_ck, kd_I, kd_J, kd_R, n_I, n_J, n_R, r_I, r_J, c_I, c_J, c_R, i_J, i_R, j_I, j_R, y_in, y_isDay, x_within, x_isDay, x_isTown, sb_ybarg S1', hq, hq1, hcl0, hcl1, i4, sub1, ← q2]
    simp only [q_rf, q_lt, q_cl, q_jn, q_b, q_b1, q_ck, kd_I, kd_J, kd_R, n_I, n_J, n_R, r_I, r_J, c_I, c_J, c_R, i_J, i_R, j_I, j_R, y_in, y_isDay, x_within, x_isDay, x_isTown, sb_ybarg S1', sb_ybarg S2', hq, hq1, hcl0, hcl1, i5, nI_add, ← q3]
    simp only [q_rf, q_lt, q_cl, q_jn, q_b, q_b1, q_ck, kd_I, kd_J, kd_R, n_I, n_J, n_R, r_I, r_J, c_I, c_J, c_R, i_J, i_R, j_I, j_R, y_in, y_isDay, x_within, x_isDay, x_isTown, sb_ybarg S1', sb_ybarg S2', sb_ybarg S3', hq, hq1, hcl0, hcl1, i2, i3, p2, nI_1]
  · obtain rfl : s = (O + l - 1) / l := by omega
    rw [q39]
    simp only [q_rf, q_lt, q_cl, q_jn, q_ck, sb_ybarg S', sb_ymen S', hq, hcl0, d2, e1, e2, if_false]
    simp only [q_rf, q_lt, q_cl, q_jn, q_ck, sb_ybarg S', sb_ymen S', hq, hq1, hq2, hcl0, hcl1, s2, c2, e4]
    simp only [q_rf, q_lt, q_cl, q_jn, q_b, q_b1, q_ck, kd_I, kd_J, kd_R, n_I, n_J, n_R, r_I, r_J, c_I, c_J, c_R, i_J, i_R, j_I, j_R, y_in, y_isDay, x_within, x_isDay, x_isTown, sb_ybarg S', sb_ymen S', hq, hq1, hq2, hcl0, hcl1, hcl2, e3, not_false_iff, hqu, t1, w1, if_false, sub1, sub2, ← q1]
    simp only [q_rf, q_lt, q_cl, q_jn, q_b, q_b1, q_ck, kd_I, kd_J, kd_R, n_I, n_J, n_R, r_I, r_J, c_I, c_J, c_R, i_J, i_R, j_I, j_R, y_in, y_isDay, x_within, x_isDay, x_isTown, sb_ybarg S1', hq, hq1, hcl0, hcl1, i4, sub1, ← q2]
    simp only [q_rf, q_lt, q_cl, q_jn, q_b, q_b1, q_ck, kd_I, kd_J, kd_R, n_I, n_J, n_R, r_I, r_J, c_I, c_J, c_R, i_J, i_R, j_I, j_R, y_in, y_isDay, x_within, x_isDay, x_isTown, sb_ybarg S1', sb_ybarg S2', hq, hq1, hcl0, hcl1, i5, nI_add, ← q3]
    simp only [q_rf, q_lt, q_cl, q_jn, q_b, q_b1, q_ck, kd_I, kd_J, kd_R, n_I, n_J, n_R, r_I, r_J, c_I, c_J, c_R, i_J, i_R, j_I, j_R, y_in, y_isDay, x_within, x_isDay, x_isTown, sb_ybarg S1', sb_ybarg S2', sb_ybarg S3', hq, hq1, hcl0, hcl1, i2, i3, p2, nI_1]
theorem J_callS (S : mS B hx) (S' : mS B hy) (M : RMn B ow hx hy nm am) (R : RBg B ow hx hy nm n A U T) (Q : RCx B hx hy nm am P C x) {k i : Nat} (hk : k < n) (hi : i < U 3 k) : ∃ s hx' hy' P' C', fX11_callSurety B (A 0 k) (nI i) hx = some (nI s, hx') ∧ (∀ K self acc, fX12_call_L46_b (B + 66) (nI k) K self acc (nI i) hy = self (acc + nI s) (nI (i + 1)) hy') ∧ mY B ow [2, 27] hx hx' ∧ (∀ o : Nat → Nat × Nat, mY B o [102, 127] hy hy') ∧ RCx B hx' hy' nm am P' C' x ∧ s ≤ U 2 k ∧ RBg B ow hx' hy' nm n A (upU (upU U 2 k (U 2 k - s)) (7 + i) k (U (7 + i) k + s)) T := by
  obtain ⟨⟨a1, a2, a3⟩, ⟨b1, b2, b3⟩, ⟨c1, c2⟩, ⟨d1, d2, d3⟩, ⟨g1, g2, g3, g4, g5, g6⟩, i1, ⟨j1, j2⟩, k1, l1, m1⟩ := (R.2.2.2.1 k hk).1
  obtain ⟨⟨s1, s2, s3⟩, ⟨s4, s5⟩, s6, s7, s8⟩ := k1 i hi
  obtain ⟨⟨r1, r2, r3⟩, -, ⟨r4, r5, r6⟩, r7, r8, r9⟩ := (R.2.2.2.1 k hk).2
  obtain ⟨l, hl⟩ : ∃ l, l = U 3 k - i := ⟨_, rfl⟩
  obtain ⟨s, hs⟩ : ∃ s, s = min (P (U (4 + i) k)) ((U 2 k + l - 1) / l) := ⟨_, rfl⟩
  have hl0 : 0 < l := by omega
  have hdO : (U 2 k + l - 1) / l ≤ U 2 k := by
    rcases Nat.eq_zero_or_pos (U 2 k) with z | z
    · rw [z, Nat.div_eq_of_lt (by omega)]; exact Nat.le_refl _
    · refine Nat.div_le_of_le_mul ?_
      obtain ⟨t, ht⟩ : ∃ t, l = t + 1 := ⟨l - 1, by omega⟩
      rw [ht, Nat.succ_mul]
      have : t ≤ t * U 2 k := Nat.le_mul_of_pos_right _ z
      omega
  have hsO : s ≤ U 2 k := by omega
  obtain ⟨M1, M2, M3, M4⟩ := id M
  have hn9 := R.1
  have hB := S.1
  have hp := purse_le Q M1 s3
  obtain ⟨LA, L5, L6, L7⟩ := R.lv hk
  have kdA := (R.2.1.2.2.2 k hk).2
  obtain ⟨Lb, kdb⟩ := M2.2.2.2 _ s3
  obtain ⟨Ls, kds⟩ := M2.2.2.2 _ a3
  have hgb := x_get (sk1 S) M2 s3
  have hi3 : i < 3 := by omega
  have hC := q_cl3 hi3 m1
  have hv9 : U 2 k + U (7 + i) k ≤ 1000000 := by
    have h : i = 0 ∨ i = 1 ∨ i = 2 := by omega
    rcases h with rfl | rfl | rfl
    · show U 2 k + U 7 k ≤ 1000000; omega
    · show U 2 k + U 8 k ≤ 1000000; omega
    · show U 2 k + U 9 k ≤ 1000000; omega
  -- the class
  obtain ⟨h1, e1⟩ : ∃ h1, h1 = mm_setI hx (am (U (4 + i) k)) 3 (nI (P (U (4 + i) k) - s)) := ⟨_, rfl⟩
  obtain ⟨h2, e2⟩ : ∃ h2, h2 = mm_setI h1 (A 0 k) 6 (nI (U 2 k - s)) := ⟨_, rfl⟩
  obtain ⟨h3, e3⟩ : ∃ h3, h3 = mm_setI h2 (A 2 k) i (nI (U (7 + i) k + s)) := ⟨_, rfl⟩
  have x1 : mY B ow [2] hx h1 := by rw [e1]; exact (mX.rf hB).IL (m := 2) Lb rfl (by decide)
  have S1 := x1.S S
  have x2 : mY B ow [27] h1 h2 := by rw [e2]; exact (mX.rf S1.1).IL (m := 27) LA rfl (by decide)
  have S2 := x2.S S1
  have x3 : mY B ow [27] h2 h3 := by rw [e3]; exact (mX.rf S2.1).IL (m := 27) L6 rfl (by decide)
  have S3 := x3.S S2
  have hspend : fX7_spend (am (U (4 + i) k)) (nI ((U 2 k + l - 1) / l)) hx = some (nI s, h1) := by
    rw [x_spend kdb (Q.2.1 _ s3).1 (by omega) (by omega), e1, hs, Nat.min_comm]
  -- the reference
  obtain ⟨y1, q1⟩ : ∃ y1, y1 = mm_setI hy (B + 68) (U (4 + i) k) (nI (P (U (4 + i) k) - s)) := ⟨_, rfl⟩
  obtain ⟨y2, q2⟩ : ∃ y2, y2 = mm_setI y1 (B + 100) k (nI (U 2 k - s)) := ⟨_, rfl⟩
  obtain ⟨y3, q3⟩ : ∃ y3, y3 = mm_setI y2 (B + 108) (3 * k + i) (nI (U (7 + i) k + s)) := ⟨_, rfl⟩
  have z1 : ∀ o : Nat → Nat × Nat, mY B o [102] hy y1 := fun o => by rw [q1]; exact (mX.rf S'.1).IF (m := 102) (by omega) rfl (by decide)
  have S1' := (z1 ow).S S'
  have z2 : ∀ o : Nat → Nat × Nat, mY B o [127] y1 y2 := fun o => by rw [q2]; exact (mX.rf S1'.1).IF (m := 127) (by omega) rfl (by decide)
  have S2' := (z2 ow).S S1'
  have z3 : ∀ o : Nat → Nat × Nat, mY B o [127] y2 y3 := fun o => by rw [q3]; exact (mX.rf S2'.1).IF (m := 127) (by omega) rfl (by decide)
  have S3' := (z3 ow).S S2'
  have Q1 : RCx B h1 y1 nm am (upN P (U (4 + i) k) (P (U (4 + i) k) - s)) C (x + s) := by rw [e1, q1]; exact Q.sub M2 s3 (by omega)
  have Ma : mL B ow h1 (B + 1) 0 8 nm am := M2.up2 rfl (by omega) x1 mO.rf (m := 4) rfl rfl (fun _ => rfl) (by decide)
  have Q2 := Q1.up Ma x2 (z2 ow) (by decide) (by decide)
  have Mb : mL B ow h2 (B + 1) 0 8 nm am := Ma.up2 rfl (by omega) x2 mO.rf (m := 4) rfl rfl (fun _ => rfl) (by decide)
  have Q3 := Q2.up Mb x3 (z3 ow) (by decide) (by decide)
  have Mc : mL B ow h3 (B + 1) 0 8 nm am := Mb.up2 rfl (by omega) x3 mO.rf (m := 4) rfl rfl (fun _ => rfl) (by decide)
  have R1 := R.up x1 mO.rf (z1 ow) (by decide) (by decide) (by decide)
  have R2 : RBg B ow h2 y2 nm n A (upU U 2 k (U 2 k - s)) T := by rw [e2, q2]; exact R1.owed S1.1 hk (by omega)
  have w2 : upU U 2 k (U 2 k - s) 2 k = U 2 k - s := upU_eq
  have w3 : upU U 2 k (U 2 k - s) 3 k = U 3 k := upU_ne (by omega)
  have w7 : ∀ b, upU U 2 k (U 2 k - s) (7 + b) k = U (7 + b) k := fun b => upU_ne (by omega)
  have R3 : RBg B ow h3 y3 nm n A (upU (upU U 2 k (U 2 k - s)) (7 + i) k (U (7 + i) k + s)) T := by
    rw [e3, q3]
    refine R2.clm S2.1 hk (by rw [w3]; exact hi) ?_
    have w70 := w7 0
    have w71 := w7 1
    have w72 := w7 2
    simp only [Nat.add_zero, Nat.reduceAdd] at w70 w71 w72
    rw [w2, w7, w70, w71, w72]
    omega
  have hcr : mm_i h3 (A 0 k) 8 = mm_i hx (A 0 k) 8 := by rw [x3.iL (m := 28) ((LA.up x1 mO.rf).up x2 mO.rf) rfl (by decide), x2.iL (m := 28) (LA.up x1 mO.rf) rfl (by decide), x1.iL (m := 28) LA rfl (by decide)]
  have htw : mm_i h3 (am (U 0 k)) 0 = T (U 0 k) := by
    rw [x3.iL (m := 4) ((Ls.up x1 mO.rf).up x2 mO.rf) rfl (by decide), x2.iL (m := 4) (Ls.up x1 mO.rf) rfl (by decide), x1.iL (m := 4) Ls rfl (by decide), ← (M4 _ a3).1.1]
    exact (R.2.2.2.2 _ a3).1
  have hT := (R.2.2.2.2 _ a3).2
  obtain ⟨hx', hy', P', C', p1, p2, p3, p4, p5⟩ := J_give S3 S3' Mc M1 (s := s) (x := x) Q3 (c := mm_i hx (A 0 k) 8) (t := T (U 0 k)) (by
    rcases j1 with j1 | ⟨v, v1, v2, v3⟩
    · exact Or.inl j1
    · exact Or.inr ⟨v, v1, v2⟩) hT
  have kdA1 : mm_kd h1 (A 0 k) = 1 := (x1.kd LA.2.1).trans kdA
  have F1 := (R1.2.2.2.1 k hk).2
  have F2 := (R2.2.2.2.1 k hk).2
  have kds3 : mm_kd h3 (am (U 0 k)) = 8 := (Mc.2.2.2 _ a3).2
  have i61 : mm_i h1 (A 0 k) 6 = nI (U 2 k) := (x1.iL (m := 27) LA rfl (by decide)).trans c1
  have i22 : mm_i h2 (A 2 k) i = nI (U (7 + i) k) := by
    rw [e2, i_I_ne (L6.ne LA (Or.inl (by decide))), x1.iL (m := 27) L6 rfl (by decide)]; exact s4
  have i02 : mm_i h3 (A 0 k) 0 = nI (U 0 k) := by rw [x3.iL (m := 7) ((LA.up x1 mO.rf).up x2 mO.rf) rfl (by decide), x2.iL (m := 7) (LA.up x1 mO.rf) rfl (by decide), x1.iL (m := 7) LA rfl (by decide)]; exact a1
  have hgs := x_get (sk1 S3) Mc a3
  have sub1 : nI (U 2 k) - nI s = nI (U 2 k - s) := nI_sub hsO
  have hq3 := fun (β : Type) (z : Option β) => q_ckx hi3 (by decide) z
  have hcl3 := nI_clamp (n := i) (by omega)
  have g2 : nI (U 3 k) - nI i = nI l := by rw [nI_sub (by omega), hl]
  have g3 : ((1 : Int32) ≤ nI l) = True := eq_true (by have := nI_le (a := 1) (b := l) (by omega) (by omega); exact this)
  have g3' : ¬ nI l = 0 := nI_ne0 (by omega) (by omega)
  have g4 : (nI (U 2 k) + nI l - 1) / nI l = nI ((U 2 k + l - 1) / l) := by
    rw [nI_add, show (1 : Int32) = nI 1 by decide +kernel, nI_sub (by omega), nI_div (by omega) (by omega)]
  refine ⟨s, hx', hy', P', C', ?_, ?_, (((wM_le x1 (by simp)).tr (wM_le x2 (by simp))).tr (wM_le x3 (by simp))).tr (wM_le p3 (by simp)), fun o => (((wM_le (z1 o) (by simp)).tr (wM_le (z2 o) (by simp))).tr (wM_le (z3 o) (by simp))).tr (wM_le (p4 o) (by simp)), p5, hsO, R3.up p3 mO.rf (p4 ow) (by decide) (by decide) (by decide)⟩
  · unfold fX11_callSurety
    rw [d1, c1, g2]
    simp only [q_lt, g3, g4, if_true]
    simp only [q_rf, q_lt, q_cl, q_jn, q_b, q_b1, q_ck, kd_I, kd_J, kd_R, n_I, n_J, n_R, r_I, r_J, c_I, c_J, c_R, i_J, i_R, j_I, j_R, y_in, y_isDay, x_within, x_isDay, x_isTown, sb_xbase S, g3', not_false_iff, kdA, r1, r4, r7, hq3, hcl3, s1, hgb, kdb, hspend, kdA1, i61, sub1, ← e2]
    simp only [q_rf, q_lt, q_cl, q_jn, q_b, q_b1, q_ck, kd_I, kd_J, kd_R, n_I, n_J, n_R, r_I, r_J, c_I, c_J, c_R, i_J, i_R, j_I, j_R, y_in, y_isDay, x_within, x_isDay, x_isTown, sb_xbase S1, sb_xbase S2, F1.1.2.1, F1.2.2.1.2.1, F1.2.2.2.2.1, F2.1.2.1, F2.2.2.1.2.1, F2.2.2.2.2.1, hq3, hcl3, i22, nI_add, ← e3]
    simp only [q_rf, q_lt, q_cl, q_jn, q_b, q_b1, q_ck, kd_I, kd_J, kd_R, n_I, n_J, n_R, r_I, r_J, c_I, c_J, c_R, i_J, i_R, j_I, j_R, y_in, y_isDay, x_within, x_isDay, x_isTown, sb_xbase S1, sb_xbase S2, sb_xbase S3, i02, hgs, kds3, hcr, htw, p1]
  · intro K self acc
    have i2 : mm_i y3 (B + 104) k = mm_i hx (A 0 k) 8 := by rw [(z3 ow).iF (m := 128) (by omega) rfl (by decide), (z2 ow).iF (m := 128) (by omega) rfl (by decide), (z1 ow).iF (m := 128) (by omega) rfl (by decide)]; exact g6
    have i3 : mm_i y3 (B + 105) k = T (U 0 k) := by rw [(z3 ow).iF (m := 128) (by omega) rfl (by decide), (z2 ow).iF (m := 128) (by omega) rfl (by decide), (z1 ow).iF (m := 128) (by omega) rfl (by decide)]; exact j2
    have i4 : mm_i y1 (B + 100) k = nI (U 2 k) := by rw [(z1 ow).iF (m := 127) (by omega) rfl (by decide)]; exact c2
    have i5 : mm_i y2 (B + 108) (3 * k + i) = nI (U (7 + i) k) := by rw [q2, i_I_ne (by omega), (z1 ow).iF (m := 127) (by omega) rfl (by decide)]; exact s5
    exact y_callstep S' S1' S2' S3' (by omega) (by omega) (by omega) hi d3 q_3 d2 s2 c2 (Q.2.1 _ s3).2 hl hs (by omega) (by omega) hC q1 q2 q3 i4 i5 i2 i3 hsO p2
end CA
