/-! what is owed goes down: pay -/
def upU (U : Nat → Nat → Nat) (j k v : Nat) : Nat → Nat → Nat := fun i b => if i = j ∧ b = k then v else U i b
theorem upU_eq {U : Nat → Nat → Nat} {j k v : Nat} : upU U j k v j k = v := if_pos ⟨rfl, rfl⟩
theorem upU_ne {U : Nat → Nat → Nat} {j k v i b : Nat} (e : i ≠ j) : upU U j k v i b = U i b := if_neg fun z => e z.1
theorem upU_nk {U : Nat → Nat → Nat} {j k v i b : Nat} (e : b ≠ k) : upU U j k v i b = U i b := if_neg fun z => e z.2
section PA
variable {B : Nat} {h hx hy hx' hy' : mm_H} {ow ow' : Nat → Nat × Nat} {n nm nl nb : Nat} {am al : Nat → Nat} {P C : Nat → Nat} {A U U' : Nat → Nat → Nat} {T : Nat → Int32} {x : Nat}
theorem mBar.cg {k : Nat} (M : mBar B hx hy nm A U T k) (eU : ∀ i, U' i k = U i k) (e0 : ∀ i, mm_i hx' (A 0 k) i = mm_i hx (A 0 k) i) (e1 : ∀ i, mm_i hx' (A 1 k) i = mm_i hx (A 1 k) i) (e2 : ∀ i, mm_i hx' (A 2 k) i = mm_i hx (A 2 k) i) (e3 : ∀ i, mm_i hx' (A 3 k) i = mm_i hx (A 3 k) i) (f1 : ∀ q, 96 ≤ q → q ≤ 106 → mm_i hy' (B + q) k = mm_i hy (B + q) k) (f2 : ∀ q i, 107 ≤ q → q ≤ 110 → i < 3 → mm_i hy' (B + q) (3 * k + i) = mm_i hy (B + q) (3 * k + i)) : mBar B hx' hy' nm A U' T k := by
  obtain ⟨a1, b1, c1, d1, g1, i1, j1, k1, l1, m1⟩ := M
  unfold mBar
  rw [eU, eU, eU, eU, eU, eU, eU]
  simp only [e0, e1, e2, e3]
  rw [f1 96 (by omega) (by omega), f1 97 (by omega) (by omega), f1 98 (by omega) (by omega), f1 99 (by omega) (by omega), f1 100 (by omega) (by omega), f1 101 (by omega) (by omega), f1 102 (by omega) (by omega), f1 103 (by omega) (by omega), f1 104 (by omega) (by omega), f1 105 (by omega) (by omega), f1 106 (by omega) (by omega)]
  refine ⟨a1, b1, c1, d1, g1, i1, j1, fun i hi => ?_, fun i hi hi3 => by rw [eU]; exact l1 i hi hi3, m1⟩
  have hi3 : i < 3 := by have := d1.2.2; omega
  unfold mSur
  rw [eU, eU, f2 107 i (by omega) (by omega) hi3, f2 108 i (by omega) (by omega) hi3, f2 109 i (by omega) (by omega) hi3, f2 110 i (by omega) (by omega) hi3, e1, e2, e3]
  exact k1 i hi
theorem RBg.lv (R : RBg B ow hx hy nm n A U T) {k : Nat} (hk : k < n) : Lv B ow hx 3 k (A 0 k) ∧ Lv B ow hx 5 k (A 1 k) ∧ Lv B ow hx 6 k (A 2 k) ∧ Lv B ow hx 7 k (A 3 k) := ⟨(R.2.1.2.2.2 k hk).1, (R.2.2.2.1 k hk).2.2.1⟩
theorem Lv.ne {t k a t' k' a' : Nat} (L : Lv B ow hx t k a) (L' : Lv B ow hx t' k' a') (e : t ≠ t' ∨ k ≠ k') : a ≠ a' := fun z => by
  have q1 := L.2.2
  rw [z, L'.2.2] at q1
  have q2 := Prod.mk.inj q1
  rcases e with e | e
  · exact e q2.1.symm
  · exact e q2.2.symm
theorem RBg.owed (R : RBg B ow hx hy nm n A U T) (hB : B + 147 ≤ mm_sz hx) {k v : Nat} (hk : k < n) (hv : v ≤ U 2 k) : RBg B ow (mm_setI hx (A 0 k) 6 (nI v)) (mm_setI hy (B + 100) k (nI v)) nm n A (upU U 2 k v) T := by
  have LV := fun {j : Nat} (hj : j < n) => R.lv hj
  obtain ⟨R1, R2, R3, R4, R5⟩ := R
  obtain ⟨Lk, -, -, -⟩ := LV hk
  have x0 : mX B (fun a i => a = A 0 k ∧ i = 6) hx (mm_setI hx (A 0 k) 6 (nI v)) := (mX.rf hB).I (Or.inl ⟨rfl, rfl⟩)
  refine ⟨R1, R2.up (by omega) x0 mO.rf ?_ ?_, ?_, fun j hj => ⟨?_, ?_⟩, ?_⟩
  · have := Lk.1
    exact ⟨fun z => by omega, fun z => by omega⟩
  · intro a i q z
    exact q.ne Lk (Or.inl (by decide)) z.1
  · rw [i_I, if_neg (fun z => by omega)]; exact R3
  · obtain ⟨Lj, L5, L6, L7⟩ := LV hj
    have M := (R4 j hj).1
    have e1 : ∀ i, mm_i (mm_setI hx (A 0 k) 6 (nI v)) (A 1 j) i = mm_i hx (A 1 j) i := fun i => i_I_ne (L5.ne Lk (Or.inl (by decide)))
    have e2 : ∀ i, mm_i (mm_setI hx (A 0 k) 6 (nI v)) (A 2 j) i = mm_i hx (A 2 j) i := fun i => i_I_ne (L6.ne Lk (Or.inl (by decide)))
    have e3 : ∀ i, mm_i (mm_setI hx (A 0 k) 6 (nI v)) (A 3 j) i = mm_i hx (A 3 j) i := fun i => i_I_ne (L7.ne Lk (Or.inl (by decide)))
    by_cases e : j = k
    · subst e
      obtain ⟨a1, b1, c1, d1, g1, i1, j1, k1, l1, m1⟩ := M
      have f : ∀ q i, q ≠ 100 → mm_i (mm_setI hy (B + 100) j (nI v)) (B + q) i = mm_i hy (B + q) i := fun q i hq => i_I_ne (by omega)
      have e0 : ∀ i, i ≠ 6 → mm_i (mm_setI hx (A 0 j) 6 (nI v)) (A 0 j) i = mm_i hx (A 0 j) i := fun i hi => by rw [i_I, if_neg (fun z => hi z.2)]
      unfold mBar mSur
      simp only [e1, e2, e3, e0 0 (by omega), e0 1 (by omega), e0 2 (by omega), e0 3 (by omega), e0 4 (by omega), e0 5 (by omega), e0 7 (by omega), e0 8 (by omega), e0 9 (by omega), f 96 _ (by omega), f 97 _ (by omega), f 98 _ (by omega), f 99 _ (by omega), f 101 _ (by omega), f 102 _ (by omega), f 103 _ (by omega), f 104 _ (by omega), f 105 _ (by omega), f 106 _ (by omega), f 107 _ (by omega), f 108 _ (by omega), f 109 _ (by omega), f 110 _ (by omega), upU_eq, upU_ne (show 0 ≠ 2 by omega), upU_ne (show 1 ≠ 2 by omega), upU_ne (show 3 ≠ 2 by omega), upU_ne (show 7 ≠ 2 by omega), upU_ne (show 8 ≠ 2 by omega), upU_ne (show 9 ≠ 2 by omega)]
      have u4 : ∀ i, upU U 2 j v (4 + i) j = U (4 + i) j := fun i => upU_ne (by omega)
      have u7 : ∀ i, upU U 2 j v (7 + i) j = U (7 + i) j := fun i => upU_ne (by omega)
      simp only [u4, u7]
      refine ⟨a1, b1, ⟨i_I_eq, i_I_eq⟩, d1, g1, ?_, j1, k1, l1, by omega⟩
      rcases i1 with i1 | i1
      · exact Or.inl ⟨i1.1, by omega⟩
      · exact Or.inr i1
    · refine M.cg (fun i => upU_nk e) (fun i => i_I_ne (Lj.ne Lk (Or.inr e))) e1 e2 e3 (fun q h1 h2 => ?_) (fun q i h1 h2 h3 => i_I_ne (by omega))
      rw [i_I, if_neg (fun z => e z.2)]
  · exact (R4 j hj).2
  · intro c hc
    rw [i_I, if_neg (fun z => by omega)]; exact R5 c hc
theorem x_bar (S : mS B hx) (R : RBg B ow hx hy nm n A U T) {k : Nat} (hk : k < n) : fJx4a65c_get_915e3 (B + 3) (nI k) hx = some (some (A 0 k), hx) := x_get (sk3 S) R.2.1 hk
theorem nI_min {a b : Nat} (ha : a < 2 ^ 31) (hb : b < 2 ^ 31) : (if nI a ≤ nI b then nI a else nI b) = nI (min a b) := by
  by_cases e : a ≤ b
  · rw [if_pos (nI_le e hb), Nat.min_eq_left e]
  · rw [if_neg (nI_ge (by omega) ha), Nat.min_eq_right (by omega)]
theorem nI_min2 {a b : Nat} (ha : a < 2 ^ 31) (hb : b < 2 ^ 31) : (if nI a < nI b then nI a else nI b) = nI (min b a) := by
  by_cases e : a < b
  · rw [if_pos (nI_lt e hb), Nat.min_eq_right (by omega)]
  · rw [if_neg (nI_nlt (by omega) ha), Nat.min_eq_left (by omega)]
theorem J_pays (S : mS B hx) (S' : mS B hy) (M : RMn B ow hx hy nm am) (R : RBg B ow hx hy nm n A U T) (Q : RCx B hx hy nm am P C x) {k c : Nat} (hk : k < n) (hc : c < 2 ^ 31) : ∃ hx' hy' P' C', fX11_payOwed B (A 0 k) (nI c) hx = some (nI (min (min c (U 2 k)) (P (U 1 k))), hx') ∧ fX12_pays (B + 66) (nI k) (nI c) hy = some (nI (min (min c (U 2 k)) (P (U 1 k))), hy') ∧ mY B ow [2, 27] hx hx' ∧ (∀ o : Nat → Nat × Nat, mY B o [102, 127] hy hy') ∧ RCx B hx' hy' nm am P' C' x ∧ RBg B ow hx' hy' nm n A (upU U 2 k (U 2 k - min (min c (U 2 k)) (P (U 1 k)))) T := by
  obtain ⟨s, hs⟩ : ∃ s, s = min (min c (U 2 k)) (P (U 1 k)) := ⟨_, rfl⟩
  rw [← hs]
  obtain ⟨⟨a1, a2, a3⟩, ⟨b1, b2, b3⟩, ⟨c1, c2⟩, ⟨d1, d2, d3⟩, ⟨g1, g2, g3, g4, g5, g6⟩, i1, ⟨j1, j2⟩, k1, l1, m1⟩ := (R.2.2.2.1 k hk).1
  obtain ⟨M1, M2, M3, M4⟩ := id M
  have hn9 := R.1
  have hB := S.1
  have hp := purse_le Q M1 b3
  have LA := (R.lv hk).1
  have kdA := (R.2.1.2.2.2 k hk).2
  obtain ⟨Lb, kdb⟩ := M2.2.2.2 _ b3
  obtain ⟨Ls, kds⟩ := M2.2.2.2 _ a3
  have hgb := x_get (sk1 S) M2 b3
  -- the class
  obtain ⟨h1, e1⟩ : ∃ h1, h1 = mm_setI hx (am (U 1 k)) 3 (nI (P (U 1 k) - s)) := ⟨_, rfl⟩
  obtain ⟨h2, e2⟩ : ∃ h2, h2 = mm_setI h1 (A 0 k) 6 (nI (U 2 k - s)) := ⟨_, rfl⟩
  have x1 : mY B ow [2] hx h1 := by rw [e1]; exact (mX.rf hB).IL (m := 2) Lb rfl (by decide)
  have S1 := x1.S S
  have x2 : mY B ow [27] h1 h2 := by rw [e2]; exact (mX.rf S1.1).IL (m := 27) LA rfl (by decide)
  have S2 := x2.S S1
  have hspend : fX7_spend (am (U 1 k)) (nI (min c (U 2 k))) hx = some (nI s, h1) := by
    rw [x_spend kdb (Q.2.1 _ b3).1 (by omega) (by omega), e1, hs]
  -- the reference
  obtain ⟨y1, q1⟩ : ∃ y1, y1 = mm_setI hy (B + 68) (U 1 k) (nI (P (U 1 k) - s)) := ⟨_, rfl⟩
  obtain ⟨y2, q2⟩ : ∃ y2, y2 = mm_setI y1 (B + 100) k (nI (U 2 k - s)) := ⟨_, rfl⟩
  have z1 : ∀ o : Nat → Nat × Nat, mY B o [102] hy y1 := fun o => by rw [q1]; exact (mX.rf S'.1).IF (m := 102) (by omega) rfl (by decide)
  have S1' := (z1 ow).S S'
  have z2 : ∀ o : Nat → Nat × Nat, mY B o [127] y1 y2 := fun o => by rw [q2]; exact (mX.rf S1'.1).IF (m := 127) (by omega) rfl (by decide)
  have S2' := (z2 ow).S S1'
  have Q1 : RCx B h1 y1 nm am (upN P (U 1 k) (P (U 1 k) - s)) C (x + s) := by rw [e1, q1]; exact Q.sub M2 b3 (by omega)
  have M2' : mL B ow h1 (B + 1) 0 8 nm am := M2.up2 rfl (by omega) x1 mO.rf (m := 4) rfl rfl (fun _ => rfl) (by decide)
  have Q2 := Q1.up M2' x2 (z2 ow) (by decide) (by decide)
  have M2'' : mL B ow h2 (B + 1) 0 8 nm am := M2'.up2 rfl (by omega) x2 mO.rf (m := 4) rfl rfl (fun _ => rfl) (by decide)
  have R1 := R.up x1 mO.rf (z1 ow) (by decide) (by decide) (by decide)
  have R2 : RBg B ow h2 y2 nm n A (upU U 2 k (U 2 k - s)) T := by rw [e2, q2]; exact R1.owed S1.1 hk (by omega)
  have hcr : mm_i h2 (A 0 k) 8 = mm_i hx (A 0 k) 8 := by rw [x2.iL (m := 28) (LA.up x1 mO.rf) rfl (by decide), x1.iL (m := 28) LA rfl (by decide)]
  have htw : mm_i h2 (am (U 0 k)) 0 = T (U 0 k) := by
    rw [x2.iL (m := 4) (Ls.up x1 mO.rf) rfl (by decide), x1.iL (m := 4) Ls rfl (by decide), ← (M4 _ a3).1.1]
    exact (R.2.2.2.2 _ a3).1
  have hT := (R.2.2.2.2 _ a3).2
  obtain ⟨hx', hy', P', C', p1, p2, p3, p4, p5⟩ := J_give S2 S2' M2'' M1 (s := s) (x := x) Q2 (c := mm_i hx (A 0 k) 8) (t := T (U 0 k)) (by
    rcases j1 with j1 | ⟨v, v1, v2, v3⟩
    · exact Or.inl j1
    · exact Or.inr ⟨v, v1, v2⟩) hT
  have kdA1 : mm_kd h1 (A 0 k) = 1 := (x1.kd LA.2.1).trans kdA
  have kdA2 : mm_kd h2 (A 0 k) = 1 := (x2.kd (LA.up x1 mO.rf).2.1).trans kdA1
  have kds2 : mm_kd h2 (am (U 0 k)) = 8 := (M2''.2.2.2 _ a3).2
  have i61 : mm_i h1 (A 0 k) 6 = nI (U 2 k) := (x1.iL (m := 27) LA rfl (by decide)).trans c1
  have i02 : mm_i h2 (A 0 k) 0 = nI (U 0 k) := by rw [x2.iL (m := 7) (LA.up x1 mO.rf) rfl (by decide), x1.iL (m := 7) LA rfl (by decide)]; exact a1
  have hgs := x_get (sk1 S2) M2'' a3
  have hs1 : s ≤ U 2 k := by omega
  have hs2 : s ≤ P (U 1 k) := by omega
  have sub1 : nI (U 2 k) - nI s = nI (U 2 k - s) := nI_sub hs1
  have sub2 : nI (P (U 1 k)) - nI s = nI (P (U 1 k) - s) := nI_sub hs2
  refine ⟨hx', hy', P', C', ?_, ?_, ((wM_le x1 (by simp)).tr (wM_le x2 (by simp))).tr (wM_le p3 (by simp)), fun o => ((wM_le (z1 o) (by simp)).tr (wM_le (z2 o) (by simp))).tr (wM_le (p4 o) (by simp)), p5, R2.up p3 mO.rf (p4 ow) (by decide) (by decide) (by decide)⟩
  · unfold fX11_payOwed
    simp only [q_rf, q_lt, q_cl, q_jn, q_b, q_b1, q_ck, kd_I, kd_J, kd_R, n_I, n_J, n_R, r_I, r_J, c_I, c_J, c_R, i_J, i_R, j_I, j_R, y_in, y_isDay, x_within, x_isDay, x_isTown, sb_xbase S, kdA, b1, hgb, kdb, c1, nI_min2 (show U 2 k < 2 ^ 31 by omega) hc, hspend, kdA1, i61, sub1, ← e2]
    simp only [q_rf, q_lt, q_cl, q_jn, q_b, q_b1, q_ck, kd_I, kd_J, kd_R, n_I, n_J, n_R, r_I, r_J, c_I, c_J, c_R, i_J, i_R, j_I, j_R, y_in, y_isDay, x_within, x_isDay, x_isTown, sb_xbase S1, sb_xbase S2, i02, hgs, kds2, hcr, htw, p1]
  · have i1 : ∀ j v, mm_i y1 (B + 100) j = mm_i hy (B + 100) j := fun j v => (z1 ow).iF (m := 127) (by omega) rfl (by decide)
    have i2 : mm_i y2 (B + 104) k = mm_i hx (A 0 k) 8 := by rw [(z2 ow).iF (m := 128) (by omega) rfl (by decide), (z1 ow).iF (m := 128) (by omega) rfl (by decide)]; exact g6
    have i3 : mm_i y2 (B + 105) k = T (U 0 k) := by rw [(z2 ow).iF (m := 128) (by omega) rfl (by decide), (z1 ow).iF (m := 128) (by omega) rfl (by decide)]; exact j2
    have hq := fun (β : Type) (z : Option β) => q_ckx (show k < 300 by omega) (by decide) z
    have hq2 := fun (β : Type) (z : Option β) => q_ckx (show U 1 k < 40 by omega) (by decide) z
    have hcl := nI_clamp (n := k) (by omega)
    have hcl2 := nI_clamp (n := U 1 k) (by omega)
    have m1 := nI_min (a := U 2 k) (b := c) (by omega) hc
    have m2 := nI_min (a := P (U 1 k)) (b := min (U 2 k) c) (by omega) (by omega)
    have hsm : min (P (U 1 k)) (min (U 2 k) c) = s := by omega
    have hqu := (Q.2.1 _ b3).2
    have t1 : (nI (U 2 k) ≤ nI c) = (U 2 k ≤ c) := propext (nI_leI (by omega) hc)
    have t2 : (nI (P (U 1 k)) ≤ nI (U 2 k)) = (P (U 1 k) ≤ U 2 k) := propext (nI_leI (by omega) (by omega))
    have t3 : (nI (P (U 1 k)) ≤ nI c) = (P (U 1 k) ≤ c) := propext (nI_leI (by omega) hc)
    have i4 : mm_i y1 (B + 100) k = nI (U 2 k) := by rw [(z1 ow).iF (m := 127) (by omega) rfl (by decide)]; exact c2
    unfold fX12_pays
    by_cases w1 : U 2 k ≤ c
    · by_cases w2 : P (U 1 k) ≤ U 2 k
      · obtain rfl : s = P (U 1 k) := by omega
        simp only [q_rf, q_lt, q_cl, q_jn, q_b, q_b1, q_ck, kd_I, kd_J, kd_R, n_I, n_J, n_R, r_I, r_J, c_I, c_J, c_R, i_J, i_R, j_I, j_R, y_in, y_isDay, x_within, x_isDay, x_isTown, sb_ybarg S', sb_ymen S', hq, hq2, hcl, hcl2, b2, c2, hqu, t1, t2, w1, w2, if_true, sub1, sub2, ← q1]
        simp only [q_rf, q_lt, q_cl, q_jn, q_b, q_b1, q_ck, kd_I, kd_J, kd_R, n_I, n_J, n_R, r_I, r_J, c_I, c_J, c_R, i_J, i_R, j_I, j_R, y_in, y_isDay, x_within, x_isDay, x_isTown, sb_ybarg S1', hq, hcl, i4, sub1, ← q2]
        simp only [q_rf, q_lt, q_cl, q_jn, q_b, q_b1, q_ck, kd_I, kd_J, kd_R, n_I, n_J, n_R, r_I, r_J, c_I, c_J, c_R, i_J, i_R, j_I, j_R, y_in, y_isDay, x_within, x_isDay, x_isTown, sb_ybarg S1', sb_ybarg S2', hq, hcl, i2, i3, p2]
      · obtain rfl : s = U 2 k := by omega
        simp only [q_rf, q_lt, q_cl, q_jn, q_b, q_b1, q_ck, kd_I, kd_J, kd_R, n_I, n_J, n_R, r_I, r_J, c_I, c_J, c_R, i_J, i_R, j_I, j_R, y_in, y_isDay, x_within, x_isDay, x_isTown, sb_ybarg S', sb_ymen S', hq, hq2, hcl, hcl2, b2, c2, hqu, t1, t2, w1, w2, if_true, if_false, sub1, sub2, ← q1]
        simp only [q_rf, q_lt, q_cl, q_jn, q_b, q_b1, q_ck, kd_I, kd_J, kd_R, n_I, n_J, n_R, r_I, r_J, c_I, c_J, c_R, i_J, i_R, j_I, j_R, y_in, y_isDay, x_within, x_isDay, x_isTown, sb_ybarg S1', hq, hcl, i4, sub1, ← q2]
        simp only [q_rf, q_lt, q_cl, q_jn, q_b, q_b1, q_ck, kd_I, kd_J, kd_R, n_I, n_J, n_R, r_I, r_J, c_I, c_J, c_R, i_J, i_R, j_I, j_R, y_in, y_isDay, x_within, x_isDay, x_isTown, sb_ybarg S1', sb_ybarg S2', hq, hcl, i2, i3, p2]
    · by_cases w2 : P (U 1 k) ≤ c
      · obtain rfl : s = P (U 1 k) := by omega
        simp only [q_rf, q_lt, q_cl, q_jn, q_b, q_b1, q_ck, kd_I, kd_J, kd_R, n_I, n_J, n_R, r_I, r_J, c_I, c_J, c_R, i_J, i_R, j_I, j_R, y_in, y_isDay, x_within, x_isDay, x_isTown, sb_ybarg S', sb_ymen S', hq, hq2, hcl, hcl2, b2, c2, hqu, t1, t3, w1, w2, if_true, if_false, sub1, sub2, ← q1]
        simp only [q_rf, q_lt, q_cl, q_jn, q_b, q_b1, q_ck, kd_I, kd_J, kd_R, n_I, n_J, n_R, r_I, r_J, c_I, c_J, c_R, i_J, i_R, j_I, j_R, y_in, y_isDay, x_within, x_isDay, x_isTown, sb_ybarg S1', hq, hcl, i4, sub1, ← q2]
        simp only [q_rf, q_lt, q_cl, q_jn, q_b, q_b1, q_ck, kd_I, kd_J, kd_R, n_I, n_J, n_R, r_I, r_J, c_I, c_J, c_R, i_J, i_R, j_I, j_R, y_in, y_isDay, x_within, x_isDay, x_isTown, sb_ybarg S1', sb_ybarg S2', hq, hcl, i2, i3, p2]
      · obtain rfl : s = c := by omega
        simp only [q_rf, q_lt, q_cl, q_jn, q_b, q_b1, q_ck, kd_I, kd_J, kd_R, n_I, n_J, n_R, r_I, r_J, c_I, c_J, c_R, i_J, i_R, j_I, j_R, y_in, y_isDay, x_within, x_isDay, x_isTown, sb_ybarg S', sb_ymen S', hq, hq2, hcl, hcl2, b2, c2, hqu, t1, t3, w1, w2, if_false, sub1, sub2, ← q1]
        simp only [q_rf, q_lt, q_cl, q_jn, q_b, q_b1, q_ck, kd_I, kd_J, kd_R, n_I, n_J, n_R, r_I, r_J, c_I, c_J, c_R, i_J, i_R, j_I, j_R, y_in, y_isDay, x_within, x_isDay, x_isTown, sb_ybarg S1', hq, hcl, i4, sub1, ← q2]
        simp only [q_rf, q_lt, q_cl, q_jn, q_b, q_b1, q_ck, kd_I, kd_J, kd_R, n_I, n_J, n_R, r_I, r_J, c_I, c_J, c_R, i_J, i_R, j_I, j_R, y_in, y_isDay, x_within, x_isDay, x_isTown, sb_ybarg S1', sb_ybarg S2', hq, hcl, i2, i3, p2]
end PA
