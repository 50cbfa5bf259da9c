/-! join, the end -/
section JF
variable {B a : Nat} {h hx hy hx' hy' : mm_H} {ow ow' : Nat → Nat × Nat} {n0 n1 : Nat} {m0 m1 : Nat → Int32} {c0 c1 d0 d1 : Nat → Nat} {co da : Nat} {w w' : Nat → Nat → Nat}
theorem J_join (S : mS B hx) (S' : mS B hy) (X : bX B hx n0 n1 m0 m1 c0 c1 d0 d1) (Y : bY B hy n0 n1 m0 m1 c0 c1 d0 d1) (RW : RWo B ow hx) (hco : co ≤ 1000) (hda : da ≤ 1000) : ∃ r hx' hy' ow', fX1_findPairs (B + 52) (nI co) (nI da) hx = some (r, hx') ∧ fX12_join (B + 66) (nI co) (nI da) hy = some (r, hy') ∧ mY B ow [16] hx hx' ∧ mO ow ow' hx ∧ (∀ o : Nat → Nat × Nat, mY B o [116] hy hy') ∧ RWo B ow' hx' ∧ (mm_i hx' (B + 52) 7 = 1 ∧ mm_i hy' (B + 66) 108 = 1 ∧ mm_i hy' (B + 66) 114 = mm_i hx' (B + 52) 5 ∧ mm_i hy' (B + 66) 115 = mm_i hx' (B + 52) 6 ∧ ∀ k, k < n0 → mm_i hy' (B + 145) k = mm_i hx' (B + 63) k) ∧ (∀ j k, j < 147 → j ≠ 52 → j ≠ 63 → j ≠ 64 → mm_i hx' (B + j) k = mm_i hx (B + j) k) ∧ ∀ j k, j < 147 → j ≠ 66 → j ≠ 145 → j ≠ 146 → mm_i hy' (B + j) k = mm_i hy (B + j) k := by
  have n9 := X.1
  have c9 := p_1024 n1 n9.2
  obtain ⟨w, hw⟩ : ∃ w, w = jX m0 m1 c0 c1 d0 d1 co da := ⟨_, rfl⟩
  obtain ⟨w', hw'⟩ : ∃ w', w' = jY m0 m1 c0 c1 d0 d1 co da := ⟨_, rfl⟩
  have hww : ∀ i j, i < n0 → j < n1 → Jw (w i j) (w' i j) := fun i j _ _ => by rw [hw, hw']; exact jXY hco hda i j
  have hJ := fun r s (hr : r ≤ n0) => (jR_rel hww n9.1 r s hr).le (by omega)
  have hb := fun r s (hr : r ≤ n0) => (hJ r s hr).1
  have hb' := fun r s (hr : r ≤ n0) => (hJ r s hr).2
  -- the class
  obtain ⟨h1, ow1, a, e1, x1, o1, XA1, La, k1, -⟩ := x_worths S RW
  have S1 := x1.S S
  have a4 := XA1.2.2.2.1
  have X1 : bX B h1 n0 n1 m0 m1 c0 c1 d0 d1 := by
    obtain ⟨Z0, Z1, Z2, Z3, Z4⟩ := X
    refine ⟨Z0, (k1 53 0 (by omega)).trans Z1, (k1 53 1 (by omega)).trans Z2, fun k hk => ?_, fun k hk => ?_⟩
    · rw [k1 58 k (by omega), k1 61 k (by omega), k1 55 k (by omega)]; exact Z3 k hk
    · rw [k1 59 k (by omega), k1 62 k (by omega), k1 56 k (by omega)]; exact Z4 k hk
  obtain ⟨h2, e2, x2, p2, -⟩ := x_wp (B := B) hco hda n0 0 mm_F h1 (by omega) (by unfold mm_F; omega) S1 X1
  have S2 := x2.S S1
  have j2 : mX B (wJ B a) h1 h2 := x2.up fun x i _ z => Or.inr (Or.inl z)
  have X2 := X1.up a4 j2
  have XA2 := XA1.up j2
  have XW2 : xW B h2 n0 n1 w := fun i j hi hj => by rw [hw]; exact ⟨p2 i j (Nat.zero_le _) hi hj, (jXY hco hda i j).le.1⟩
  obtain ⟨h3, e3, x3, p3, -⟩ := x_zero (B := B) (a := a) n9.2 n9.1 (2 ^ n1) 0 mm_F h2 (by omega) (by unfold mm_F; omega) S2 XA2
  have S3 := x3.S S2
  have j3 : mX B (wJ B a) h2 h3 := x3.up fun x i _ z => Or.inr (Or.inr (Or.inl z))
  have X3 := X2.up a4 j3
  have XA3 := XA2.up j3
  have XW3 : xW B h3 n0 n1 w := fun i j hi hj => by rw [x3.i (by have := S2.1; omega) (by omega)]; exact XW2 i j hi hj
  have XR3 : xR h3 a n0 n1 w n0 := fun p s q1 q2 q3 q4 => by
    have : p = n0 := by omega
    subst this
    rw [p3 s (Nat.zero_le _) q3, Nat.sub_self]
    exact nI_0.symm
  obtain ⟨h4, e4, x4, XR4⟩ := x_rows (B := B) hb n0 mm_F h3 (Nat.le_refl _) (by unfold mm_F; omega) S3 X3 XA3 XW3 XR3
  have S4 := x4.S S3
  have j4 : mX B (wJ B a) h3 h4 := x4.up fun x i _ z => Or.inr (Or.inr (Or.inl z))
  have X4 := X3.up a4 j4
  have XA4 := XA3.up j4
  have XW4 : xW B h4 n0 n1 w := fun i j hi hj => by rw [x4.i (by have := S3.1; omega) (by omega)]; exact XW3 i j hi hj
  obtain ⟨h5, eh5⟩ : ∃ g, g = mm_setI h4 (B + 52) 5 0 := ⟨_, rfl⟩
  obtain ⟨h6, eh6⟩ : ∃ g, g = mm_setI h5 (B + 52) 6 0 := ⟨_, rfl⟩
  have S5 : mS B h5 := by rw [eh5]; exact S4
  have S6 : mS B h6 := by rw [eh6]; exact S5
  have j6 : mX B (wJ B a) h4 h6 := by rw [eh6, eh5]; exact ((mX.rf S4.1).I (Or.inl (Or.inr (Or.inr (Or.inr ⟨rfl, by omega, by omega⟩))))).I (Or.inl (Or.inr (Or.inr (Or.inr ⟨rfl, by omega, by omega⟩))))
  have X6 := X4.up a4 j6
  have XA6 := XA4.up j6
  have XW6 : xW B h6 n0 n1 w := fun i j hi hj => by rw [eh6, i_I_ne (by omega), eh5, i_I_ne (by omega)]; exact XW4 i j hi hj
  have XR6 : xR h6 a n0 n1 w 0 := fun p s q1 q2 q3 q4 => by rw [eh6, i_I_ne (by omega), eh5, i_I_ne (by omega)]; exact XR4 p s q1 q2 q3 q4
  -- the reference
  obtain ⟨y3, f3, z3, r3, -⟩ := y_zero (B := B) n9.2 n9.1 (nI co) (nI da) (2 ^ n1) 0 mm_F hy (by omega) (by unfold mm_F; omega) S'
  have Sy3 := z3.S S'
  have i3 : mX B (wK B) hy y3 := z3.up fun x i _ z => Or.inr (Or.inl z)
  have Y3 := Y.up i3
  have YR3 : yR B y3 n0 n1 w' n0 := fun p s q1 q2 q3 => by
    have : p = n0 := by omega
    subst this
    rw [r3 s (Nat.zero_le _) q3, Nat.sub_self]
    rfl
  obtain ⟨y4, f4, z4, YR4⟩ := y_rows (B := B) hw' hco hda hb' (nI n0) n0 mm_F y3 (Nat.le_refl _) (by unfold mm_F; omega) Sy3 Y3 YR3
  have Sy4 := z4.S Sy3
  have i4 : mX B (wK B) y3 y4 := z4.up fun x i _ z => Or.inr (Or.inl z)
  obtain ⟨y5, ey5⟩ : ∃ g, g = mm_setI y4 (B + 66) 114 0 := ⟨_, rfl⟩
  obtain ⟨y6, ey6⟩ : ∃ g, g = mm_setI y5 (B + 66) 115 0 := ⟨_, rfl⟩
  have Sy5 : mS B y5 := by rw [ey5]; exact Sy4
  have Sy6 : mS B y6 := by rw [ey6]; exact Sy5
  have i6 : mX B (wK B) y4 y6 := by rw [ey6, ey5]; exact ((mX.rf Sy4.1).I (Or.inl (Or.inr (Or.inr ⟨rfl, by omega⟩)))).I (Or.inl (Or.inr (Or.inr ⟨rfl, by omega⟩)))
  have Y6 := (Y3.up i4).up i6
  have YR6 : yR B y6 n0 n1 w' 0 := fun p s q1 q2 q3 => by rw [ey6, j_I, ey5, j_I]; exact YR4 p s q1 q2 q3
  have g5 : mm_i y6 (B + 66) 114 = mm_i h6 (B + 52) 5 := by rw [ey6, i_I, if_neg (fun z => by omega), ey5, i_I_eq, eh6, i_I, if_neg (fun z => by omega), eh5, i_I_eq]
  have g6 : mm_i y6 (B + 66) 115 = mm_i h6 (B + 52) 6 := by rw [ey6, i_I_eq, eh6, i_I_eq]
  obtain ⟨s', h7, y7, k2, k3, hs', x7, z7, k5, k6, k7, -⟩ := J_keep hww hw' hco hda hb hb' n0 0 0 mm_F mm_F h6 y6 (by omega) (by unfold mm_F; omega) (by unfold mm_F; omega) (Nat.two_pow_pos _) (by rw [pcN_0]; exact Nat.le_refl _) S6 Sy6 X6 Y6 XA6 XW6 XR6 YR6 g5 g6
  have S7 := x7.S S6
  have Sy7 := z7.S Sy6
  obtain ⟨pc1, -⟩ := pcN_ok s' hs'
  have j7 : mX B (wJ B a) h6 h7 := x7.up fun x i _ z => by
    rcases z with z | z
    · exact Or.inl z
    · exact Or.inr (Or.inr (Or.inr ⟨z.1, z.2.1, by omega⟩))
  have j8 : mX B (wJ B a) h1 (mm_setI h7 (B + 52) 7 1) := (((((j2.tr j3).tr j4).tr j6).tr j7).I (Or.inl (Or.inr (Or.inr (Or.inr ⟨rfl, by omega, by omega⟩)))))
  have i7 : mX B (wK B) y6 y7 := z7.up fun x i _ z => by
    rcases z with z | z
    · exact Or.inl z
    · exact Or.inr (Or.inr ⟨z.1, Or.inr z.2⟩)
  have i8 : mX B (wK B) hy (mm_setI y7 (B + 66) 108 1) := ((((i3.tr i4).tr i6).tr i7).I (Or.inl (Or.inr (Or.inr ⟨rfl, by omega⟩))))
  simp only [nI_0] at e2 e3 f3 k2
  simp only [nI_0, pcN_0] at k3
  refine ⟨nI (pcN s'), mm_setI h7 (B + 52) 7 1, mm_setI y7 (B + 66) 108 1, ow1, ?_, ?_, ?_, o1, fun o => ?_, ?_, ⟨i_I_eq, i_I_eq, ?_, ?_, fun k hk => ?_⟩, fun j k h1' h2' h3' h4' => ?_, fun j k h1' h2' h3' h4' => ?_⟩
  · have hwp : fX1_weighPairs (B + 52) (nI co) (nI da) h1 = some ((), h2) := by
      unfold fX1_weighPairs
      exact e2 _
    have hkeep : fX1_keepFirstBest (B + 52) (nI (2 ^ n1)) h4 = some (nI (pcN s'), mm_setI h7 (B + 52) 7 1) := by
      unfold fX1_keepFirstBest
      rw [q_ck (sk52 S4), ← eh5, p_lt, ← eh6, p_lt, k2, q_ck (sk52 S7), p_lt, bcF_ok, p_cl, pc1]
    unfold fX1_findPairs
    simp only [q_c0, q_c1]
    rw [q_ck (sk52 S), sr52_0 S, p_rf, q_ck (sk53 S), sn53 S, q_ix0, X.2.1, p_lt, q_ix1, X.2.2.1, jb_p n1 n9.2, p_lt]
    refine (jn_eq h1 e1).trans ?_
    rw [q_ck (sk52 S1), hwp, p_cl, e3, p_lt, e4, q_ck (sk52 S4), hkeep, p_cl]
  · have q1 : 0 ≤ nI co ∧ nI co ≤ 1000 := ⟨nI_pos' (by omega), nI_le (b := 1000) hco (by omega)⟩
    have q2 : 0 ≤ nI da ∧ nI da ≤ 1000 := ⟨nI_pos' (by omega), nI_le (b := 1000) hda (by omega)⟩
    unfold fX12_join
    simp only [q_c0, q_c1]
    rw [y_in, p_cl, if_pos q1, if_neg (by decide), y_in, p_cl, if_pos q2, if_pos (by decide), q_ck (sk66 S'), sr66_109 S', p_rf, q_ck (sk141 S'), sn141 S', q_ix0, Y.2.1, p_lt, q_ix1, Y.2.2.1, p_lt, f3, p_lt, f4, q_ck (sk66 Sy4), ← ey5, p_lt, ← ey6, p_lt, k3, q_ck (sk66 Sy7), p_lt]
  · have m1 : mY B ow [16] hx h1 := x1.up fun x i _ z => by obtain ⟨rfl, rfl⟩ := z; exact wM_F (m := 16) (by omega) rfl (by decide)
    refine m1.tr2 o1 (j8.up fun x i _ z => ?_)
    rcases z with rfl | rfl | rfl | ⟨rfl, -⟩
    · exact wM_F (m := 16) (by omega) rfl (by decide)
    · exact wM_F (m := 16) (by omega) rfl (by decide)
    · exact wM_L (m := 16) La rfl (by decide)
    · exact wM_F (m := 16) (by omega) rfl (by decide)
  · refine i8.up fun x i _ z => ?_
    rcases z with rfl | rfl | ⟨rfl, z⟩
    · exact wM_F (m := 116) (by omega) rfl (by decide)
    · exact wM_F (m := 116) (by omega) rfl (by decide)
    · rcases z with rfl | rfl | rfl
      · exact wM_F (m := 116) (by omega) rfl (by decide)
      · exact wM_F (m := 116) (by omega) rfl (by decide)
      · exact wM_F (m := 116) (by omega) rfl (by decide)
  · have XA8 := XA1.up j8
    exact Or.inr ⟨a, XA8.1, ⟨XA8.2.2.2.1, XA8.2.2.2.2, La.2.2⟩, XA8.2.1, XA8.2.2.1⟩
  · rw [i_I, if_neg (fun z => by omega), i_I, if_neg (fun z => by omega)]; exact k5
  · rw [i_I, if_neg (fun z => by omega), i_I, if_neg (fun z => by omega)]; exact k6
  · rw [i_I_ne (by omega), i_I_ne (by omega)]; exact k7 k (Nat.zero_le _) hk
  · rw [j8.i (by have := S1.1; omega) (wJ_no a4 h1' ⟨h3', h4', h2'⟩)]; exact k1 j k h1'
  · exact i8.i (by have := S'.1; omega) (by rintro (z | z | z) <;> omega)
theorem T_join (S : mS B h) (R : RBk B h) (RW : RWo B ow h) (a b : Int32) : ∃ r h1 h2 ow', fX11_join B a b h = some (r, h1) ∧ fX12_join (B + 66) a b h1 = some (r, h2) ∧ mY B ow [16, 116] h h2 ∧ mO ow ow' h ∧ RBk B h2 ∧ RWo B ow' h2 := by
  have hB := S.1
  by_cases c1 : 0 ≤ a ∧ a ≤ 1000
  case neg =>
    refine ⟨-1, h, h, ow, ?_, ?_, mX.rf hB, mO.rf, R, RW⟩
    · unfold fX11_join
      rw [x_within, p_cl, if_neg c1, if_pos rfl]
    · unfold fX12_join
      rw [y_in, p_cl, if_neg c1, if_pos rfl]
  by_cases c2 : 0 ≤ b ∧ b ≤ 1000
  case neg =>
    refine ⟨-1, h, h, ow, ?_, ?_, mX.rf hB, mO.rf, R, RW⟩
    · unfold fX11_join
      rw [x_within, p_cl, if_pos c1, if_neg (by decide), x_within, p_cl, if_neg c2, if_neg (by decide)]
    · unfold fX12_join
      rw [y_in, p_cl, if_pos c1, if_neg (by decide), y_in, p_cl, if_neg c2, if_neg (by decide)]
  obtain ⟨co, hc31, rfl⟩ := nI_of (Int32.not_lt.mpr c1.1)
  have hco : co ≤ 1000 := (nI_leI (b := 1000) hc31 (by omega)).mp c1.2
  obtain ⟨da, hd31, rfl⟩ := nI_of (Int32.not_lt.mpr c2.1)
  have hda : da ≤ 1000 := (nI_leI (b := 1000) hd31 (by omega)).mp c2.2
  obtain ⟨n0, n1, ⟨⟨a1, a2, a3, a4⟩, ⟨b1, b2, b3, b4⟩⟩, -⟩ := R
  have pos : ∀ x : Int32, 0 ≤ x → x = nI x.toNatClampNeg ∧ x.toNatClampNeg < 2 ^ 31 := fun x hx => by
    obtain ⟨j, hj, rfl⟩ := nI_of (Int32.not_lt.mpr hx)
    rw [nI_clamp hj]; exact ⟨rfl, hj⟩
  have le : ∀ (x : Int32) (n : Nat), 0 ≤ x → x ≤ nI n → n < 2 ^ 31 → x.toNatClampNeg ≤ n := fun x n hx hn h31 => by
    obtain ⟨p1, p2⟩ := pos x hx
    rw [p1] at hn
    exact (nI_leI p2 h31).mp hn
  have X : bX B h n0 n1 (mm_i h (B + 58)) (mm_i h (B + 59)) (fun k => (mm_i h (B + 61) k).toNatClampNeg) (fun k => (mm_i h (B + 62) k).toNatClampNeg) (fun k => (mm_i h (B + 55) k).toNatClampNeg) (fun k => (mm_i h (B + 56) k).toNatClampNeg) := by
    refine ⟨⟨a1, b1⟩, a2, b2, fun k hk => ?_, fun k hk => ?_⟩
    · obtain ⟨-, ⟨u1, u2⟩, u3, u4⟩ := a4 k hk
      exact ⟨rfl, ⟨(pos _ u3).1, le _ 1000000 u3 u4 (by omega)⟩, (pos _ u1).1, le _ 3999 u1 u2 (by omega)⟩
    · obtain ⟨-, ⟨u1, u2⟩, u3, u4⟩ := b4 k hk
      exact ⟨rfl, ⟨(pos _ u3).1, le _ 1000000 u3 u4 (by omega)⟩, (pos _ u1).1, le _ 3999 u1 u2 (by omega)⟩
  have Y : bY B h n0 n1 (mm_i h (B + 58)) (mm_i h (B + 59)) (fun k => (mm_i h (B + 61) k).toNatClampNeg) (fun k => (mm_i h (B + 62) k).toNatClampNeg) (fun k => (mm_i h (B + 55) k).toNatClampNeg) (fun k => (mm_i h (B + 56) k).toNatClampNeg) := by
    refine ⟨⟨a1, b1⟩, a3, b3, fun k hk => ?_, fun k hk => ?_⟩
    · obtain ⟨⟨v1, v2, v3⟩, -⟩ := a4 k hk
      obtain ⟨-, u1, u2⟩ := X.2.2.2.1 k hk
      rw [v1, v2, v3]; exact ⟨rfl, u1, u2⟩
    · obtain ⟨⟨v1, v2, v3⟩, -⟩ := b4 k hk
      obtain ⟨-, u1, u2⟩ := X.2.2.2.2 k hk
      rw [v1, v2, v3]; exact ⟨rfl, u1, u2⟩
  obtain ⟨r, h1, -, -, p1, -, y, -⟩ := J_join S S X Y RW hco hda
  have S1 := y.S S
  have Y1 : bY B h1 n0 n1 (mm_i h (B + 58)) (mm_i h (B + 59)) (fun k => (mm_i h (B + 61) k).toNatClampNeg) (fun k => (mm_i h (B + 62) k).toNatClampNeg) (fun k => (mm_i h (B + 55) k).toNatClampNeg) (fun k => (mm_i h (B + 56) k).toNatClampNeg) := by
    obtain ⟨Z0, Z1, Z2, Z3, Z4⟩ := Y
    have e : ∀ j k, j = 141 ∨ j = 142 ∨ j = 143 ∨ j = 144 → mm_i h1 (B + j) k = mm_i h (B + j) k := fun j k hj => by
      rcases hj with rfl | rfl | rfl | rfl <;> exact y.iF (m := 116) (by omega) rfl (by decide)
    refine ⟨Z0, (e 141 0 (by omega)).trans Z1, (e 141 1 (by omega)).trans Z2, fun k hk => ?_, fun k hk => ?_⟩
    · rw [e 143 k (by omega), e 144 k (by omega), e 142 k (by omega)]; exact Z3 k hk
    · rw [e 143 _ (by omega), e 144 _ (by omega), e 142 _ (by omega)]; exact Z4 k hk
  obtain ⟨r', h1', h2, ow', q1, q2, y1, o2, y2, RW2, ⟨g1, g2, g3, g4, g5⟩, kx, ky⟩ := J_join S S1 X Y1 RW hco hda
  rw [p1] at q1
  obtain ⟨e1, e2⟩ := Prod.mk.inj (Option.some.inj q1)
  subst e1
  subst e2
  have S2 := (y2 ow).S S1
  have yt := (wM_le y (by simp) : mY B ow [16, 116] h h1).tr (wM_le (y2 ow) (by simp))
  refine ⟨r, h1, h2, ow', ?_, q2, yt, o2, ⟨n0, n1, ⟨⟨a1, ?_, ?_, fun k hk => ?_⟩, ⟨b1, ?_, ?_, fun k hk => ?_⟩⟩, Or.inr ⟨⟨?_, g2⟩, ?_, ?_, fun k hk => ?_⟩⟩, RW2.up (y2 ow') mO.rf (by decide)⟩
  · unfold fX11_join
    rw [x_within, p_cl, if_pos c1, if_neg (by decide), x_within, p_cl, if_pos c2, if_pos (by decide), q_ck (sk0 S), sr0_10 S, p_rf, q_ck (sk52 S), p1, p_cl]
  all_goals
    have cx : ∀ j k, j < 66 → j ≠ 52 → j ≠ 63 → j ≠ 64 → mm_i h2 (B + j) k = mm_i h (B + j) k := fun j k h1' h2' h3' h4' => (ky j k (by omega) (by omega) (by omega) (by omega)).trans (kx j k (by omega) h2' h3' h4')
    have cy : ∀ j k, 66 < j → j < 145 → mm_i h2 (B + j) k = mm_i h (B + j) k := fun j k h1' h2' => (ky j k (by omega) (by omega) (by omega) (by omega)).trans (kx j k (by omega) (by omega) (by omega) (by omega))
    have cz : ∀ j k, j < 66 → mm_i h2 (B + j) k = mm_i h1 (B + j) k := fun j k h1' => ky j k (by omega) (by omega) (by omega) (by omega)
  · rw [cx 53 0 (by omega) (by omega) (by omega) (by omega)]; exact a2
  · rw [cy 141 0 (by omega) (by omega)]; exact a3
  · rw [cy 142 k (by omega) (by omega), cy 143 k (by omega) (by omega), cy 144 k (by omega) (by omega), cx 55 k (by omega) (by omega) (by omega) (by omega), cx 58 k (by omega) (by omega) (by omega) (by omega), cx 61 k (by omega) (by omega) (by omega) (by omega)]; exact a4 k hk
  · rw [cx 53 1 (by omega) (by omega) (by omega) (by omega)]; exact b2
  · rw [cy 141 1 (by omega) (by omega)]; exact b3
  · rw [cy 142 _ (by omega) (by omega), cy 143 _ (by omega) (by omega), cy 144 _ (by omega) (by omega), cx 56 k (by omega) (by omega) (by omega) (by omega), cx 59 k (by omega) (by omega) (by omega) (by omega), cx 62 k (by omega) (by omega) (by omega) (by omega)]; exact b4 k hk
  · rw [cz 52 7 (by omega)]; exact g1
  · rw [cz 52 5 (by omega)]; exact g3
  · rw [cz 52 6 (by omega)]; exact g4
  · rw [cz 63 k (by omega)]; exact g5 k hk
end JF
