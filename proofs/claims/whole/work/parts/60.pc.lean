/-! claims: claim, and what a surety pays -/
section PC
variable {B : Nat} {h hx hy hx' hy' : mm_H} {ow ow' : Nat → Nat × Nat} {n nm nl nb : Nat} {am al : Nat → Nat} {P C : Nat → Nat} {A U U' : Nat → Nat → Nat} {T : Nat → Int32} {x : Nat}
theorem RBg.clm (R : RBg B ow hx hy nm n A U T) (hB : B + 147 ≤ mm_sz hx) {k i v : Nat} (hk : k < n) (hi : i < U 3 k) (hv : U 2 k + U 7 k + U 8 k + U 9 k + v ≤ 1000000 + U (7 + i) k) : RBg B ow (mm_setI hx (A 2 k) i (nI v)) (mm_setI hy (B + 108) (3 * k + i) (nI v)) nm n A (upU U (7 + i) k v) T := by
  have LV := fun {j : Nat} (hj : j < n) => R.lv hj
  obtain ⟨R1, R2, R3, R4, R5⟩ := R
  obtain ⟨-, -, Lk, -⟩ := LV hk
  have x0 : mX B (fun a j => a = A 2 k ∧ j = i) hx (mm_setI hx (A 2 k) i (nI v)) := (mX.rf hB).I (Or.inl ⟨rfl, rfl⟩)
  have hi3 : i < 3 := by have := (R4 k hk).1.2.2.2.1.2.2; omega
  refine ⟨R1, R2.up (by omega) x0 mO.rf ?_ ?_, ?_, fun j hj => ⟨?_, ?_⟩, ?_⟩
  · have := Lk.1
    exact ⟨fun z => by omega, fun z => by omega⟩
  · intro a i q z
    exact q.ne Lk (Or.inl (by decide)) z.1
  · rw [i_I, if_neg (fun z => by omega)]; exact R3
  · obtain ⟨Lj, L5, L6, L7⟩ := LV hj
    have M := (R4 j hj).1
    have e0 : ∀ b, mm_i (mm_setI hx (A 2 k) i (nI v)) (A 0 j) b = mm_i hx (A 0 j) b := fun b => i_I_ne (Lj.ne Lk (Or.inl (by decide)))
    have e1 : ∀ b, mm_i (mm_setI hx (A 2 k) i (nI v)) (A 1 j) b = mm_i hx (A 1 j) b := fun b => i_I_ne (L5.ne Lk (Or.inl (by decide)))
    have e3 : ∀ b, mm_i (mm_setI hx (A 2 k) i (nI v)) (A 3 j) b = mm_i hx (A 3 j) b := fun b => i_I_ne (L7.ne Lk (Or.inl (by decide)))
    by_cases e : j = k
    · subst e
      obtain ⟨a1, b1, c1, d1, g1, i1, j1, k1, l1, m1⟩ := M
      have f : ∀ q b, q ≠ 108 → mm_i (mm_setI hy (B + 108) (3 * j + i) (nI v)) (B + q) b = mm_i hy (B + q) b := fun q b hq => i_I_ne (by omega)
      have u0 : ∀ b, b ≠ 7 + i → upU U (7 + i) j v b j = U b j := fun b hb => upU_ne hb
      unfold mBar mSur
      simp only [e0, e1, e3, f 96 _ (by omega), f 97 _ (by omega), f 98 _ (by omega), f 99 _ (by omega), f 100 _ (by omega), f 101 _ (by omega), f 102 _ (by omega), f 103 _ (by omega), f 104 _ (by omega), f 105 _ (by omega), f 106 _ (by omega), f 107 _ (by omega), f 109 _ (by omega), f 110 _ (by omega), u0 0 (by omega), u0 1 (by omega), u0 2 (by omega), u0 3 (by omega)]
      refine ⟨a1, b1, c1, d1, g1, i1, j1, fun b hb => ?_, fun b hb hb3 => ?_, ?_⟩
      · have hb3 : b < 3 := by have := d1.2.2; omega
        rw [u0 (4 + b) (by omega)]
        obtain ⟨z1, ⟨z2, z3⟩, z4, z5, z6⟩ := k1 b hb
        refine ⟨z1, ?_, z4, z5, z6⟩
        by_cases q : b = i
        · subst q
          rw [i_I_eq, i_I_eq, upU_eq]; exact ⟨rfl, rfl⟩
        · rw [i_I, if_neg (fun z => q z.2), i_I, if_neg (fun z => q (by omega)), u0 (7 + b) (by omega)]
          exact ⟨z2, z3⟩
      · rw [i_I, if_neg (fun z => by omega), u0 (7 + b) (by omega)]
        exact l1 b hb hb3
      · match i, hi3 with
        | 0, _ => rw [upU_eq, upU_ne (show 8 ≠ 7 by omega), upU_ne (show 9 ≠ 7 by omega)]; simp only [Nat.add_zero] at hv; omega
        | 1, _ => rw [upU_eq, upU_ne (show 7 ≠ 7 + 1 by omega), upU_ne (show 9 ≠ 7 + 1 by omega)]; simp only [Nat.reduceAdd] at hv; omega
        | 2, _ => rw [upU_eq, upU_ne (show 7 ≠ 7 + 2 by omega), upU_ne (show 8 ≠ 7 + 2 by omega)]; simp only [Nat.reduceAdd] at hv; omega
    · refine M.cg (fun i => upU_nk e) e0 e1 (fun b => i_I_ne (L6.ne Lk (Or.inr e))) e3 (fun q h1 h2 => i_I_ne (by omega)) (fun q b h1 h2 h3 => ?_)
      rw [i_I, if_neg (fun z => by omega)]
  · exact (R4 j hj).2
  · intro c hc
    rw [i_I, if_neg (fun z => by omega)]; exact R5 c hc
theorem q_3 {k i : Nat} : (3 : Int32) * nI k + nI i = nI (3 * k + i) := by
  rw [show (3 : Int32) = nI 3 by decide +kernel, ← nI_add]
  congr 1
  exact (Int32.ofNat_mul 3 k).symm
theorem q_cl3 {k i : Nat} (hi : i < 3) (m1 : U 2 k + U 7 k + U 8 k + U 9 k ≤ 1000000) : U (7 + i) k ≤ 1000000 := by
  have h : i = 0 ∨ i = 1 ∨ i = 2 := by omega
  rcases h with rfl | rfl | rfl
  · show U 7 k ≤ 1000000; omega
  · show U 8 k ≤ 1000000; omega
  · show U 9 k ≤ 1000000; omega
theorem y_claims {y1 y2 : mm_H} {k i j b O p s c : Nat} {cr tt : Int32} (S' : mS B hy) (S1' : mS B y1) (S2' : mS B y2) (hk : k < 300) (hj : j < 900) (hb : b < 40) (q39 : (3 : Int32) * nI k + nI i = nI j) (b2 : mm_i hy (B + 97) k = nI b) (s5 : mm_i hy (B + 108) j = nI O) (hqu : mm_i hy (B + 68) b = nI p) (hs : s = min (min c O) p) (hc : c < 2 ^ 31) (hO : O < 2 ^ 31) (hp : p < 2 ^ 31) (q1 : y1 = mm_setI hy (B + 68) b (nI (p - s))) (q2 : y2 = mm_setI y1 (B + 108) j (nI (O - s))) (i4 : mm_i y1 (B + 108) j = nI O) (i2 : mm_i y2 (B + 109) j = cr) (i3 : mm_i y2 (B + 110) j = tt) (p2 : fX12_goes (B + 66) (nI s) cr tt y2 = some ((), hy')) : fX12_claims (B + 66) (nI k) (nI i) (nI c) hy = some (nI s, hy') := by
  have hq := fun (β : Type) (z : Option β) => q_ckx hk (by decide) z
  have hq1 := fun (β : Type) (z : Option β) => q_ckx hj (by decide) z
  have hq2 := fun (β : Type) (z : Option β) => q_ckx hb (by decide) z
  have hcl := nI_clamp (n := k) (by omega)
  have hcl1 := nI_clamp (n := j) (by omega)
  have hcl2 := nI_clamp (n := b) (by omega)
  have sub1 : nI O - nI s = nI (O - s) := nI_sub (by omega)
  have sub2 : nI p - nI s = nI (p - s) := nI_sub (by omega)
  have t1 : (nI O ≤ nI c) = (O ≤ c) := propext (nI_leI (by omega) hc)
  have t2 : (nI p ≤ nI O) = (p ≤ O) := propext (nI_leI (by omega) (by omega))
  have t3 : (nI p ≤ nI c) = (p ≤ c) := propext (nI_leI (by omega) hc)
  unfold fX12_claims
  rw [q39, q_lt]
  by_cases w1 : O ≤ c
  · by_cases w2 : p ≤ O
    · obtain rfl : s = p := by omega
      simp only [q_rf, q_lt, q_cl, q_jn, q_b, q_b1, q_ck, kd_I, kd_J, kd_R, n_I, n_J, n_R, r_I, r_J, c_I, c_J, c_R, i_J, i_R, j_I, j_R, y_in, y_isDay, x_within, x_isDay, x_isTown, sb_ybarg S', sb_ymen S', hq, hq1, hq2, hcl, hcl1, hcl2, b2, s5, hqu, t1, t2, w1, w2, if_true, sub1, sub2, ← q1]
      simp only [q_rf, q_lt, q_cl, q_jn, q_b, q_b1, q_ck, kd_I, kd_J, kd_R, n_I, n_J, n_R, r_I, r_J, c_I, c_J, c_R, i_J, i_R, j_I, j_R, y_in, y_isDay, x_within, x_isDay, x_isTown, sb_ybarg S1', hq, hq1, hcl, hcl1, i4, sub1, ← q2]
      simp only [q_rf, q_lt, q_cl, q_jn, q_b, q_b1, q_ck, kd_I, kd_J, kd_R, n_I, n_J, n_R, r_I, r_J, c_I, c_J, c_R, i_J, i_R, j_I, j_R, y_in, y_isDay, x_within, x_isDay, x_isTown, sb_ybarg S1', sb_ybarg S2', hq, hq1, hcl, hcl1, i2, i3, p2]
    · obtain rfl : s = O := by omega
      simp only [q_rf, q_lt, q_cl, q_jn, q_b, q_b1, q_ck, kd_I, kd_J, kd_R, n_I, n_J, n_R, r_I, r_J, c_I, c_J, c_R, i_J, i_R, j_I, j_R, y_in, y_isDay, x_within, x_isDay, x_isTown, sb_ybarg S', sb_ymen S', hq, hq1, hq2, hcl, hcl1, hcl2, b2, s5, hqu, t1, t2, w1, w2, if_true, if_false, sub1, sub2, ← q1]
      simp only [q_rf, q_lt, q_cl, q_jn, q_b, q_b1, q_ck, kd_I, kd_J, kd_R, n_I, n_J, n_R, r_I, r_J, c_I, c_J, c_R, i_J, i_R, j_I, j_R, y_in, y_isDay, x_within, x_isDay, x_isTown, sb_ybarg S1', hq, hq1, hcl, hcl1, i4, sub1, ← q2]
      simp only [q_rf, q_lt, q_cl, q_jn, q_b, q_b1, q_ck, kd_I, kd_J, kd_R, n_I, n_J, n_R, r_I, r_J, c_I, c_J, c_R, i_J, i_R, j_I, j_R, y_in, y_isDay, x_within, x_isDay, x_isTown, sb_ybarg S1', sb_ybarg S2', hq, hq1, hcl, hcl1, i2, i3, p2]
  · by_cases w2 : p ≤ c
    · obtain rfl : s = p := by omega
      simp only [q_rf, q_lt, q_cl, q_jn, q_b, q_b1, q_ck, kd_I, kd_J, kd_R, n_I, n_J, n_R, r_I, r_J, c_I, c_J, c_R, i_J, i_R, j_I, j_R, y_in, y_isDay, x_within, x_isDay, x_isTown, sb_ybarg S', sb_ymen S', hq, hq1, hq2, hcl, hcl1, hcl2, b2, s5, hqu, t1, t3, w1, w2, if_true, if_false, sub1, sub2, ← q1]
      simp only [q_rf, q_lt, q_cl, q_jn, q_b, q_b1, q_ck, kd_I, kd_J, kd_R, n_I, n_J, n_R, r_I, r_J, c_I, c_J, c_R, i_J, i_R, j_I, j_R, y_in, y_isDay, x_within, x_isDay, x_isTown, sb_ybarg S1', hq, hq1, hcl, hcl1, i4, sub1, ← q2]
      simp only [q_rf, q_lt, q_cl, q_jn, q_b, q_b1, q_ck, kd_I, kd_J, kd_R, n_I, n_J, n_R, r_I, r_J, c_I, c_J, c_R, i_J, i_R, j_I, j_R, y_in, y_isDay, x_within, x_isDay, x_isTown, sb_ybarg S1', sb_ybarg S2', hq, hq1, hcl, hcl1, i2, i3, p2]
    · obtain rfl : s = c := by omega
      simp only [q_rf, q_lt, q_cl, q_jn, q_b, q_b1, q_ck, kd_I, kd_J, kd_R, n_I, n_J, n_R, r_I, r_J, c_I, c_J, c_R, i_J, i_R, j_I, j_R, y_in, y_isDay, x_within, x_isDay, x_isTown, sb_ybarg S', sb_ymen S', hq, hq1, hq2, hcl, hcl1, hcl2, b2, s5, hqu, t1, t3, w1, w2, if_false, sub1, sub2, ← q1]
      simp only [q_rf, q_lt, q_cl, q_jn, q_b, q_b1, q_ck, kd_I, kd_J, kd_R, n_I, n_J, n_R, r_I, r_J, c_I, c_J, c_R, i_J, i_R, j_I, j_R, y_in, y_isDay, x_within, x_isDay, x_isTown, sb_ybarg S1', hq, hq1, hcl, hcl1, i4, sub1, ← q2]
      simp only [q_rf, q_lt, q_cl, q_jn, q_b, q_b1, q_ck, kd_I, kd_J, kd_R, n_I, n_J, n_R, r_I, r_J, c_I, c_J, c_R, i_J, i_R, j_I, j_R, y_in, y_isDay, x_within, x_isDay, x_isTown, sb_ybarg S1', sb_ybarg S2', hq, hq1, hcl, hcl1, i2, i3, p2]
theorem J_claims (S : mS B hx) (S' : mS B hy) (M : RMn B ow hx hy nm am) (R : RBg B ow hx hy nm n A U T) (Q : RCx B hx hy nm am P C x) {k i c : Nat} (hk : k < n) (hi : i < U 3 k) (hc : c < 2 ^ 31) : ∃ hx' hy' P' C', fX11_payClaim B (A 0 k) (nI i) (nI c) hx = some (nI (min (min c (U (7 + i) k)) (P (U 1 k))), hx') ∧ fX12_claims (B + 66) (nI k) (nI i) (nI c) hy = some (nI (min (min c (U (7 + i) k)) (P (U 1 k))), hy') ∧ mY B ow [2, 27] hx hx' ∧ (∀ o : Nat → Nat × Nat, mY B o [102, 127] hy hy') ∧ RCx B hx' hy' nm am P' C' x ∧ RBg B ow hx' hy' nm n A (upU U (7 + i) k (U (7 + i) k - min (min c (U (7 + i) k)) (P (U 1 k)))) T := by
  obtain ⟨s, hs⟩ : ∃ s, s = min (min c (U (7 + i) k)) (P (U 1 k)) := ⟨_, rfl⟩
  rw [← hs]
  obtain ⟨⟨a1, a2, a3⟩, ⟨b1, b2, b3⟩, ⟨c1, c2⟩, ⟨d1, d2, d3⟩, ⟨g1, g2, g3, g4, g5, g6⟩, i1, ⟨j1, j2⟩, k1, l1, m1⟩ := (R.2.2.2.1 k hk).1
  obtain ⟨⟨s1, s2, s3⟩, ⟨s4, s5⟩, s6, s7, s8⟩ := k1 i hi
  obtain ⟨⟨r1, r2, r3⟩, -, ⟨r4, r5, r6⟩, r7, r8, r9⟩ := (R.2.2.2.1 k hk).2
  obtain ⟨M1, M2, M3, M4⟩ := id M
  have hn9 := R.1
  have hB := S.1
  have hp := purse_le Q M1 b3
  obtain ⟨LA, L5, L6, L7⟩ := R.lv hk
  have kdA := (R.2.1.2.2.2 k hk).2
  obtain ⟨Lb, kdb⟩ := M2.2.2.2 _ b3
  obtain ⟨Ls, kds⟩ := M2.2.2.2 _ s3
  have hgb := x_get (sk1 S) M2 b3
  have hi3 : i < 3 := by omega
  have hO : U (7 + i) k ≤ 1000000 := q_cl3 hi3 m1
  obtain ⟨j9, hj9⟩ : ∃ j9, 3 * k + i = j9 := ⟨_, rfl⟩
  rw [hj9] at s2 s5 s6 s8
  have q39 : (3 : Int32) * nI k + nI i = nI j9 := by rw [q_3, hj9]
  -- the class
  obtain ⟨h1, e1⟩ : ∃ h1, h1 = mm_setI hx (am (U 1 k)) 3 (nI (P (U 1 k) - s)) := ⟨_, rfl⟩
  obtain ⟨h2, e2⟩ : ∃ h2, h2 = mm_setI h1 (A 2 k) i (nI (U (7 + i) k - s)) := ⟨_, rfl⟩
  have x1 : mY B ow [2] hx h1 := by rw [e1]; exact (mX.rf hB).IL (m := 2) Lb rfl (by decide)
  have S1 := x1.S S
  have x2 : mY B ow [27] h1 h2 := by rw [e2]; exact (mX.rf S1.1).IL (m := 27) L6 rfl (by decide)
  have S2 := x2.S S1
  have hspend : fX7_spend (am (U 1 k)) (nI (min c (U (7 + i) k))) hx = some (nI s, h1) := by
    rw [x_spend kdb (Q.2.1 _ b3).1 (by omega) (by omega), e1, hs]
  -- the reference
  obtain ⟨y1, q1⟩ : ∃ y1, y1 = mm_setI hy (B + 68) (U 1 k) (nI (P (U 1 k) - s)) := ⟨_, rfl⟩
  obtain ⟨y2, q2⟩ : ∃ y2, y2 = mm_setI y1 (B + 108) (j9) (nI (U (7 + i) k - s)) := ⟨_, rfl⟩
  have z1 : ∀ o : Nat → Nat × Nat, mY B o [102] hy y1 := fun o => by rw [q1]; exact (mX.rf S'.1).IF (m := 102) (by omega) rfl (by decide)
  have S1' := (z1 ow).S S'
  have z2 : ∀ o : Nat → Nat × Nat, mY B o [127] y1 y2 := fun o => by rw [q2]; exact (mX.rf S1'.1).IF (m := 127) (by omega) rfl (by decide)
  have S2' := (z2 ow).S S1'
  have Q1 : RCx B h1 y1 nm am (upN P (U 1 k) (P (U 1 k) - s)) C (x + s) := by rw [e1, q1]; exact Q.sub M2 b3 (by omega)
  have M2' : mL B ow h1 (B + 1) 0 8 nm am := M2.up2 rfl (by omega) x1 mO.rf (m := 4) rfl rfl (fun _ => rfl) (by decide)
  have Q2 := Q1.up M2' x2 (z2 ow) (by decide) (by decide)
  have M2'' : mL B ow h2 (B + 1) 0 8 nm am := M2'.up2 rfl (by omega) x2 mO.rf (m := 4) rfl rfl (fun _ => rfl) (by decide)
  have R1 := R.up x1 mO.rf (z1 ow) (by decide) (by decide) (by decide)
  have R2 : RBg B ow h2 y2 nm n A (upU U (7 + i) k (U (7 + i) k - s)) T := by rw [e2, q2, ← hj9]; exact R1.clm S1.1 hk hi (by omega)
  have hcr : mm_i h2 (A 3 k) i = mm_i hx (A 3 k) i := by rw [x2.iL (m := 28) (L7.up x1 mO.rf) rfl (by decide), x1.iL (m := 28) L7 rfl (by decide)]
  have htw : mm_i h2 (am (U (4 + i) k)) 0 = T (U (4 + i) k) := by
    rw [x2.iL (m := 4) (Ls.up x1 mO.rf) rfl (by decide), x1.iL (m := 4) Ls rfl (by decide), ← (M4 _ s3).1.1]
    exact (R.2.2.2.2 _ s3).1
  have hT := (R.2.2.2.2 _ s3).2
  obtain ⟨hx', hy', P', C', p1, p2, p3, p4, p5⟩ := J_give S2 S2' M2'' M1 (s := s) (x := x) Q2 (c := mm_i hx (A 3 k) i) (t := T (U (4 + i) k)) (by
    rcases s7 with j1 | ⟨v, v1, v2, v3⟩
    · exact Or.inl j1
    · exact Or.inr ⟨v, v1, v2⟩) hT
  have kdA1 : mm_kd h1 (A 0 k) = 1 := (x1.kd LA.2.1).trans kdA
  have kdA2 : mm_kd h2 (A 0 k) = 1 := (x2.kd (LA.up x1 mO.rf).2.1).trans kdA1
  have kds2 : mm_kd h2 (am (U (4 + i) k)) = 8 := (M2''.2.2.2 _ s3).2
  have F1 := (R1.2.2.2.1 k hk).2
  have F2 := (R2.2.2.2.1 k hk).2
  have i61 : mm_i h1 (A 2 k) i = nI (U (7 + i) k) := (x1.iL (m := 27) L6 rfl (by decide)).trans s4
  have i02 : mm_i h2 (A 1 k) i = nI (U (4 + i) k) := by rw [x2.iL (m := 29) (L5.up x1 mO.rf) rfl (by decide), x1.iL (m := 29) L5 rfl (by decide)]; exact s1
  have hgs := x_get (sk1 S2) M2'' s3
  have sub1 : nI (U (7 + i) k) - nI s = nI (U (7 + i) k - s) := nI_sub (by omega)
  have sub2 : nI (P (U 1 k)) - nI s = nI (P (U 1 k) - s) := nI_sub (by omega)
  have hq3 := fun (β : Type) (z : Option β) => q_ckx hi3 (by decide) z
  have hcl3 := nI_clamp (n := i) (by omega)
  refine ⟨hx', hy', P', C', ?_, ?_, ((wM_le x1 (by simp)).tr (wM_le x2 (by simp))).tr (wM_le p3 (by simp)), fun o => ((wM_le (z1 o) (by simp)).tr (wM_le (z2 o) (by simp))).tr (wM_le (p4 o) (by simp)), p5, R2.up p3 mO.rf (p4 ow) (by decide) (by decide) (by decide)⟩
  · unfold fX11_payClaim
    simp only [q_rf, q_lt, q_cl, q_jn, q_b, q_b1, q_ck, kd_I, kd_J, kd_R, n_I, n_J, n_R, r_I, r_J, c_I, c_J, c_R, i_J, i_R, j_I, j_R, y_in, y_isDay, x_within, x_isDay, x_isTown, sb_xbase S, kdA, b1, hgb, kdb, r2, r5, r8, hq3, hcl3, s4, nI_min2 (show U (7 + i) k < 2 ^ 31 by omega) hc, hspend, kdA1, F1.1.2.1, F1.2.2.1.2.1, F1.2.2.2.2.1, i61, sub1, ← e2]
    simp only [q_rf, q_lt, q_cl, q_jn, q_b, q_b1, q_ck, kd_I, kd_J, kd_R, n_I, n_J, n_R, r_I, r_J, c_I, c_J, c_R, i_J, i_R, j_I, j_R, y_in, y_isDay, x_within, x_isDay, x_isTown, sb_xbase S1, sb_xbase S2, kdA1, kdA2, F1.1.1, F1.1.2.2, F2.1.1, F2.1.2.2, F1.2.2.1.1, F1.2.2.1.2.2, F2.2.2.1.1, F2.2.2.1.2.2, F1.2.2.2.1, F1.2.2.2.2.2, F2.2.2.2.1, F2.2.2.2.2.2, hq3, hcl3, i02, hgs, kds2, hcr, htw, p1]
  · have i2 : mm_i y2 (B + 109) j9 = mm_i hx (A 3 k) i := by rw [(z2 ow).iF (m := 128) (by omega) rfl (by decide), (z1 ow).iF (m := 128) (by omega) rfl (by decide)]; exact s6
    have i3 : mm_i y2 (B + 110) j9 = T (U (4 + i) k) := by rw [(z2 ow).iF (m := 128) (by omega) rfl (by decide), (z1 ow).iF (m := 128) (by omega) rfl (by decide)]; exact s8
    have i4 : mm_i y1 (B + 108) j9 = nI (U (7 + i) k) := by rw [(z1 ow).iF (m := 127) (by omega) rfl (by decide)]; exact s5
    exact y_claims S' S1' S2' (by omega) (by omega) (by omega) q39 b2 s5 (Q.2.1 _ b3).2 hs hc (by omega) (by omega) q1 q2 i4 i2 i3 p2
end PC
