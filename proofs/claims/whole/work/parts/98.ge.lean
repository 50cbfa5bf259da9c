/-! die -/
section GE
variable {B : Nat} {h hx hy hx' hy' : mm_H} {ow ow' : Nat → Nat × Nat} {n nl nm : Nat} {am al : Nat → Nat} {P C : Nat → Nat} {A U : Nat → Nat → Nat} {T : Nat → Int32} {x : Nat}
theorem RMn.gone (R : RMn B ow hx hy nm am) (hB : B + 147 ≤ mm_sz hx) (N2 : 0 ≤ mm_i hx B 11) {m : Nat} (hm : m < nm) : RMn B ow (mm_setI hx (am m) 4 (mm_i hx B 11)) (mm_setI hy (B + 70) m (mm_i hx B 11)) nm am := by
  obtain ⟨R1, R2, R3, R4⟩ := R
  have L1 := (R2.2.2.2 m hm).1
  have x1 : mY B ow [24] hx (mm_setI hx (am m) 4 (mm_i hx B 11)) := (mX.rf hB).IL (m := 24) L1 rfl (by decide)
  refine ⟨R1, R2.up2 rfl (by omega) x1 mO.rf (m := 4) rfl rfl (fun _ => rfl) (by decide), by rw [i_I_ne (by omega)]; exact R3, fun j hj => ?_⟩
  obtain ⟨m1, m2, m3, m4⟩ := R4 j hj
  have Lj := (R2.2.2.2 j hj).1
  unfold mMan
  rw [i_I_ne (a := B + 70) (b := B + 67) (by omega), i_I_ne (a := B + 70) (b := B + 73) (by omega), i_I_ne (a := B + 70) (b := B + 69) (by omega), x1.iL (m := 4) (k := 0) Lj rfl (by decide), x1.iL (m := 4) (k := 1) Lj rfl (by decide), x1.iL (m := 4) (k := 2) Lj rfl (by decide), x1.i0 (m := 1) rfl (by decide)]
  refine ⟨m1, m2, m3, ?_⟩
  by_cases e : j = m
  · subst e
    rw [i_I_eq, i_I_eq]
    exact Or.inr ⟨N2, Int32.le_refl _, rfl⟩
  · rw [i_I_ne (Lj.ne L1 (Or.inr e)), i_I, if_neg (fun z => e z.2)]
    exact m4
theorem J_die (S : mS B hx) (S' : mS B hy) (N : 0 ≤ mm_i hx B 11 ∧ mm_i hx B 11 ≤ 3999) (N1 : mm_i hy (B + 66) 1 = mm_i hx B 11) (M : RMn B ow hx hy nm am) (R : RBg B ow hx hy nm n A U T) (L : RLt B ow hx hy nm nl al) (Q : RCo B hx hy nm am P C) (a : Int32) : ∃ r hx' hy' P' C' U', fX11_die B a hx = some (r, hx') ∧ fX12_die (B + 66) a hy = some (r, hy') ∧ mY B ow [2, 24, 26, 27, 28] hx hx' ∧ (∀ o : Nat → Nat × Nat, mY B o [100, 102, 124, 126, 127, 128] hy hy') ∧ RMn B ow hx' hy' nm am ∧ RBg B ow hx' hy' nm n A U' T ∧ RLt B ow hx' hy' nm nl al ∧ RCo B hx' hy' nm am P' C' := by
  obtain ⟨f1, f2⟩ := x_manThere S M.2.1 (a := a)
  obtain ⟨g1, g2⟩ := y_isThere S' M N.2 (a := a)
  have m9 := M.1
  have n9 := R.1
  have l9 := L.1
  by_cases c : isTh hx nm am a
  case neg =>
    refine ⟨-2, hx, hy, P, C, U, ?_, ?_, mX.rf S.1, fun _ => mX.rf S'.1, M, R, L, Q⟩
    · unfold fX11_die
      rw [q_ck (sk0 S), f2 c, p_cl, if_neg (not_not_intro rfl)]
    · unfold fX12_die
      rw [q_ck (sk66 S'), g2 c, p_cl, if_neg (not_not_intro rfl)]
  obtain ⟨m, hm, rfl, hg⟩ := id c
  have f3 := f1 c
  have g3 := g1 c
  have hcm := nI_clamp (n := m) (by omega)
  rw [hcm] at f3
  obtain ⟨Lm, kdm⟩ := M.2.1.2.2.2 m hm
  have hqm := fun (β : Type) (z : Option β) => q_ckx (show m < 40 by omega) (by decide) z
  have hT0 := R.2.2.2.2
  -- gone
  obtain ⟨h1, eh1⟩ : ∃ g, g = mm_setI hx (am m) 4 (mm_i hx B 11) := ⟨_, rfl⟩
  obtain ⟨y1, ey1⟩ : ∃ g, g = mm_setI hy (B + 70) m (mm_i hx B 11) := ⟨_, rfl⟩
  have x1 : mY B ow [24] hx h1 := by rw [eh1]; exact (mX.rf S.1).IL (m := 24) Lm rfl (by decide)
  have z1 : ∀ o : Nat → Nat × Nat, mY B o [124] hy y1 := fun o => by rw [ey1]; exact (mX.rf S'.1).IF (m := 124) (by omega) rfl (by decide)
  have M1 : RMn B ow h1 y1 nm am := by rw [eh1, ey1]; exact M.gone S.1 N.1 hm
  have S1 := x1.S S
  have Sy1 := (z1 ow).S S'
  have R1 : RBg B ow h1 y1 nm n A U T := R.up x1 mO.rf (z1 ow) (by decide) (by decide) (by decide)
  have Q1 : RCx B h1 y1 nm am P C 0 := (RCx_0.mpr Q).up M.2.1 x1 (z1 ow) (by decide) (by decide)
  -- the done ones
  obtain ⟨y2, d1, z2, -, d2⟩ := y_done (n := n) (nI m) 1 n 0 mm_F y1 Sy1 R1.2.2.1 n9 (by omega) (by unfold mm_F; omega)
  have Sy2 := (z2 ow).S Sy1
  have id1 : mY B ow [] h1 h1 := mX.rf S1.1
  have M2 : RMn B ow h1 y2 nm am := M1.up id1 mO.rf (z2 ow) (by decide) (by decide) (Int32.le_refl _)
  have R2 : RBg B ow h1 y2 nm n A U T := R1.up id1 mO.rf (z2 ow) (by decide) (by decide) (by decide)
  have Q2 : RCx B h1 y2 nm am P C 0 := Q1.up M1.2.1 id1 (z2 ow) (by decide) (by decide)
  -- the debts
  obtain ⟨D, hD⟩ : ∃ D : Nat → Int32, ∀ k, k < n → mm_i h1 (A 0 k) 4 = D k := ⟨fun k => mm_i h1 (A 0 k) 4, fun _ _ => rfl⟩
  obtain ⟨h2, y3, P1, C1, U1, e1, e2, x2, z3, Q3, R3⟩ := J_debts (ow := ow) (D := D) m9 hm n h1 y2 P C U none 0 mm_F mm_F S1 Sy2 M2 R2 Q2 hD (fun j hj => by cases hj) (fun k hk w1 w2 w3 => by
    exfalso
    obtain ⟨v1, -⟩ := xP_false w1 w2 w3
    rcases (R2.2.2.2.1 k hk).1.2.2.2.2.2.1 with z | z
    · rw [hD k hk] at z; exact w2 z.1
    · rw [hD k hk] at z
      exact v1 (Int32.lt_of_lt_of_le (show (-1 : Int32) < 0 by decide) z)) (fun k hk _ => d2 k (by omega) hk) cnt_le (by omega) (by unfold mm_F; omega) (by unfold mm_F; omega)
  have hnext := x_nextDebt S1 R2 hD m9 hm none (fun j hj => by cases hj)
  have S2 := x2.S S1
  have Sy3 := (z3 ow).S Sy2
  have M3 : RMn B ow h2 y3 nm am := M2.up x2 mO.rf (z3 ow) (by decide) (by decide) (le_11 x2 (by decide))
  -- the claims
  obtain ⟨h3, y4, P2, C2, U2, e3, e4, x3, z4, Q4, R4⟩ := J_claimsAll (ow := ow) hm n 0 h2 y3 P1 C1 U1 mm_F mm_F (by omega) (by unfold mm_F; omega) (by unfold mm_F; omega) S2 Sy3 M3 R3 Q3
  have S3 := x3.S S2
  have Sy4 := (z4 ow).S Sy3
  have M4 : RMn B ow h3 y4 nm am := M3.up x3 mO.rf (z4 ow) (by decide) (by decide) (le_11 x3 (by decide))
  simp only [nI_0] at d1 e1 e3 e4
  -- the heir
  have hT : ∀ c, c < nm → mm_i y4 (B + 67) c = T c := fun c hc => (R4.2.2.2.2 c hc).1
  have now3 : mm_i h3 B 11 = mm_i hx B 11 := by rw [x3.i0 (m := 1) rfl (by decide), x2.i0 (m := 1) rfl (by decide), x1.i0 (m := 1) rfl (by decide)]
  have hh := x_heir S3 M4 hT m
  have hyh := fun K => y_heir Sy4 M4 (by rw [now3]; exact N.2) hT hm K nm 0 mm_F (by omega) (by unfold mm_F; omega)
  simp only [nI_0] at hyh
  obtain ⟨v, ev⟩ : ∃ v, v = fstF (hrP h3 am T m) nm 0 := ⟨_, rfl⟩
  rw [← ev] at hh
  simp only [← ev] at hyh
  have hv : v = -1 ∨ ∃ c, c < nm ∧ v = nI c ∧ T c = T m := by
    rcases fstF_spec (P := hrP h3 am T m) (e := nm) (i := 0) (by omega) with z | ⟨j, -, j2, j3, j4⟩
    · exact Or.inl (ev.trans z)
    · refine Or.inr ⟨j, by omega, ev.trans j3, ?_⟩
      unfold hrP at j4
      simp only [Bool.and_eq_true, decide_eq_true_eq] at j4
      exact j4.2
  have hv2 : v = -1 ∨ ∃ c, c < nm ∧ v = nI c := hv.imp id fun ⟨c, c1, c2, _⟩ => ⟨c, c1, c2⟩
  -- the class's purse
  have Tm := (hT0 m hm).2
  obtain ⟨pm, pm'⟩ := Q4.2.1 m hm
  have pm9 := purse_le Q4 m9 hm
  have kd3 : mm_kd h3 (am m) = 8 := (M4.2.1.2.2.2 m hm).2
  have Lm3 := (M4.2.1.2.2.2 m hm).1
  have tm3 : mm_i h3 (am m) 0 = T m := by rw [← (M4.2.2.2 m hm).1.1]; exact hT m hm
  obtain ⟨h4, eh4⟩ : ∃ g, g = mm_setI h3 (am m) 3 (nI (P2 m - P2 m)) := ⟨_, rfl⟩
  have hspend : fX7_spend (am m) (nI (P2 m)) h3 = some (nI (P2 m), h4) := by
    rw [x_spend kd3 pm (by omega) (by omega), Nat.min_self, eh4]
  have x4 : mY B ow [2] h3 h4 := by rw [eh4]; exact (mX.rf S3.1).IL (m := 2) Lm3 rfl (by decide)
  have S4 := x4.S S3
  have sub : ∀ y, mS B y → (∀ o : Nat → Nat × Nat, mY B o [128] y4 y) → ∃ y', y' = mm_setI y (B + 68) m (nI (P2 m - P2 m)) ∧ mS B y' ∧ (∀ o : Nat → Nat × Nat, mY B o [102] y y') ∧ RCx B h4 y' nm am (upN P2 m (P2 m - P2 m)) C2 (0 + P2 m) := fun y Sy yy => by
    refine ⟨_, rfl, Sy, fun o => (mX.rf Sy.1).IF (m := 102) (by omega) rfl (by decide), ?_⟩
    have Qy := Q4.up M4.2.1 (ms := []) (mX.rf S3.1) (yy ow) (by decide) (by decide)
    rw [eh4]
    exact Qy.sub M4.2.1 hm (Nat.le_refl _)
  have Lm4 : mL B ow h4 (B + 1) 0 8 nm am := M4.2.1.up2 rfl (by omega) x4 mO.rf (m := 4) rfl rfl (fun _ => rfl) (by decide)
  obtain ⟨y4s, -, Sy4s, -, Q4s⟩ := sub y4 Sy4 (fun o => mX.rf Sy4.1)
  obtain ⟨h5, -, -, -, k1, -, x5, -, -⟩ := J_give S4 Sy4s Lm4 m9 Q4s hv2 Tm
  have S5 := x5.S S4
  -- the class's lots
  have x05 : mY B ow [2, 24, 27] hx h5 := ((((wM_le x1 (by simp)).tr (wM_le x2 (by simp))).tr (wM_le x3 (by simp))).tr (wM_le x4 (by simp))).tr (wM_le x5 (by simp))
  have z04 : ∀ o : Nat → Nat × Nat, mY B o [100, 102, 124, 127] hy y4 := fun o => (((wM_le (z1 o) (by simp)).tr (wM_le (z2 o) (by simp))).tr (wM_le (z3 o) (by simp))).tr (wM_le (z4 o) (by simp))
  have L5 : RLt B ow h5 y4 nm nl al := L.up x05 mO.rf (z04 ow) (by decide) (by decide) (Nat.le_refl _) (by omega)
  obtain ⟨h6, -, k2, -, x6, -, -⟩ := J_lots (ow := ow) hm m9 hv2 nl 0 h5 y4 mm_F mm_F (by omega) (by unfold mm_F; omega) (by unfold mm_F; omega) S5 Sy4 L5
  have S6 := x6.S S5
  -- the dues
  have R6 : RBg B ow h6 y4 nm n A U2 T := R4.up (((wM_le x4 (by simp)).tr (wM_le x5 (by simp))).tr (wM_le x6 (by simp)) : mY B ow [2, 26] h3 h6) mO.rf (ms' := []) (mX.rf Sy4.1) (by decide) (by decide) (by decide)
  obtain ⟨h7, y5, k3, k4, x7, z5, R7⟩ := J_dues (ow := ow) hm m9 hv n 0 h6 y4 mm_F mm_F (by omega) (by unfold mm_F; omega) (by unfold mm_F; omega) S6 Sy4 R6
  have S7 := x7.S S6
  have Sy5 := (z5 ow).S Sy4
  -- the reference's purse
  obtain ⟨y6, ey6, Sy6, z6, Q6⟩ := sub y5 Sy5 z5
  obtain ⟨h5', y7, P3, C3, k1', k5, -, z7, Q7⟩ := J_give S4 Sy6 Lm4 m9 Q6 hv2 Tm
  rw [k1] at k1'
  obtain rfl : h5 = h5' := (Prod.mk.inj (Option.some.inj k1')).2
  have Sy7 := (z7 ow).S Sy6
  -- the reference's lots
  have z47 : ∀ o : Nat → Nat × Nat, mY B o [102, 128] y4 y7 := fun o => ((wM_le (z5 o) (by simp)).tr (wM_le (z6 o) (by simp))).tr (wM_le (z7 o) (by simp))
  have L7 : RLt B ow h5 y7 nm nl al := L5.up (ms := []) (mX.rf S5.1) mO.rf (z47 ow) (by decide) (by decide) (Nat.le_refl _) (by omega)
  obtain ⟨h6', y8, k2', k6, -, z8, L8⟩ := J_lots (ow := ow) hm m9 hv2 nl 0 h5 y7 mm_F mm_F (by omega) (by unfold mm_F; omega) (by unfold mm_F; omega) S5 Sy7 L7
  have k22 := (k2 (fun g => some ((), g))).symm.trans (k2' (fun g => some ((), g)))
  obtain rfl : h6 = h6' := (Prod.mk.inj (Option.some.inj k22)).2
  simp only [nI_0] at k2 k3 k4 k6
  have x57 : mY B ow [26, 28] h5 h7 := (wM_le x6 (by simp)).tr (wM_le x7 (by simp))
  have Lm5 : mL B ow h5 (B + 1) 0 8 nm am := Lm4.up2 rfl (by omega) x5 mO.rf (m := 4) rfl rfl (fun _ => rfl) (by decide)
  have x17 : mY B ow [2, 26, 27, 28] h1 h7 := ((((wM_le x2 (by simp)).tr (wM_le x3 (by simp))).tr (wM_le x4 (by simp))).tr (wM_le x5 (by simp))).tr (wM_le x57 (by simp))
  have z18 : ∀ o : Nat → Nat × Nat, mY B o [100, 102, 126, 127, 128] y1 y8 := fun o => ((((wM_le (z2 o) (by simp)).tr (wM_le (z3 o) (by simp))).tr (wM_le (z4 o) (by simp))).tr (wM_le (z47 o) (by simp))).tr (wM_le (z8 o) (by simp))
  refine ⟨v, h7, y8, P3, C3, U2, ?_, ?_, (wM_le x1 (by simp)).tr (wM_le x17 (by simp)), fun o => (wM_le (z1 o) (by simp)).tr (wM_le (z18 o) (by simp)), M1.up x17 mO.rf (z18 ow) (by decide) (by decide) (le_11 x17 (by decide)), ?_, ?_, ?_⟩
  · have hpb : fX11_payBargainsOf B (nI m) h1 = some ((), h2) := by
      unfold fX11_payBargainsOf
      rw [q_ck (sk0 S1)]
      rw [show (-1 : Int32) = eO none from rfl, hnext, p_cl]
      exact e1 _
    have hpc : fX11_payClaimsOf B (nI m) h2 = some ((), h3) := by
      unfold fX11_payClaimsOf
      exact e3 _
    have hll : fX11_leaveLots B (nI m) v h5 = some ((), h6) := by
      unfold fX11_leaveLots
      exact k2 _
    have hld : fX11_leaveDues B (nI m) v h6 = some ((), h7) := by
      unfold fX11_leaveDues
      exact k3 _
    unfold fX11_die
    rw [q_ck (sk0 S), f3, p_cl, if_pos (by simp), q_ck (sk0 S), p_rf, q_ck kdm, ← eh1, p_lt, hpb, p_cl, q_ck (sk0 S2), hpc, p_cl, q_ck kd3, q_ck (sk0 S3), tm3, hh, p_cl, q_ck kd3, pm, hspend, p_cl, q_ck (sk0 S4), tm3, k1, p_cl, q_ck (sk0 S5), hll, p_cl, q_ck (sk0 S6), hld, p_cl]
  · have i1 : mm_i y5 (B + 68) m = nI (P2 m) := by rw [(z5 ow).iF (m := 102) (by omega) rfl (by decide)]; exact pm'
    have i2 : mm_i y6 (B + 67) m = T m := by rw [ey6, i_I_ne (by omega), (z5 ow).iF (m := 104) (by omega) rfl (by decide)]; exact hT m hm
    have i3 : (0 : Int32) = nI (P2 m - P2 m) := by rw [Nat.sub_self]; exact nI_0.symm
    unfold fX12_die
    simp only [hcm]
    rw [q_ck (sk66 S'), g3, p_cl, if_pos (by decide), q_ck (sk66 S'), sr66_6 S', p_rf, q_ck (sk70 S'), sn70 S', hqm, N1, ← ey1, p_lt, d1, e2, e4, hyh, k4, q_ck (sk66 Sy5), sr66_4 Sy5, p_rf, q_ck (sk68 Sy5), sn68 Sy5, hqm, p_lt, hqm, i1]
    have e9 : mm_setI y5 (B + 68) m (0 : Int32) = y6 := by rw [ey6, ← i3]
    rw [e9, p_lt, sr66_3 Sy6, p_rf, q_ck (sk67 Sy6), sn67 Sy6, hqm, i2, k5, p_cl, k6]
  · exact R7.up (ms := []) (mX.rf S7.1) mO.rf (((wM_le (z6 ow) (by simp)).tr (wM_le (z7 ow) (by simp))).tr (wM_le (z8 ow) (by simp)) : mY B ow [102, 126] y5 y8) (by decide) (by decide) (by decide)
  · exact L8.up x7 mO.rf (ms' := []) (mX.rf ((z8 ow).S Sy7).1) (by decide) (by decide) (Nat.le_refl _) (by omega)
  · exact RCx_0.mp (Q7.up Lm5 x57 (z8 ow) (by decide) (by decide))
theorem T_die (S : mS B h) (N : RNow B h) (M : RMn B ow h h nm am) (R : RBg B ow h h nm n A U T) (L : RLt B ow h h nm nl al) (Q : RCo B h h nm am P C) (a : Int32) : ∃ r h1 h2 P' C' U', fX11_die B a h = some (r, h1) ∧ fX12_die (B + 66) a h1 = some (r, h2) ∧ mY B ow [2, 24, 26, 27, 28, 100, 102, 124, 126, 127, 128] h h2 ∧ RMn B ow h2 h2 nm am ∧ RBg B ow h2 h2 nm n A U' T ∧ RLt B ow h2 h2 nm nl al ∧ RCo B h2 h2 nm am P' C' := by
  obtain ⟨N1, N2, N3⟩ := N
  have m9 := M.1
  obtain ⟨r, h1, -, -, -, -, p1, -, y, -⟩ := J_die S S ⟨N2, N3⟩ N1 M R L Q a
  have S1 := y.S S
  have id0 : mY B ow [] h h := mX.rf S.1
  have M1 : RMn B ow h h1 nm am := M.up id0 mO.rf y (by decide) (by decide) (Int32.le_refl _)
  have L1 : RLt B ow h h1 nm nl al := L.up id0 mO.rf y (by decide) (by decide) (Nat.le_refl _) (by omega)
  have R1 : RBg B ow h h1 nm n A U T := R.up id0 mO.rf y (by decide) (by decide) (by decide)
  have Q1 : RCo B h h1 nm am P C := Q.up M.2.1 id0 y (by decide) (by decide)
  obtain ⟨r', h1', h2, P', C', U', q1, q2, y1, y2, M2, R2, L2, Q2⟩ := J_die S S1 ⟨N2, N3⟩ ((y.iF (m := 101) (by omega) rfl (by decide)).trans N1) M1 R1 L1 Q1 a
  rw [p1] at q1
  obtain ⟨e1, e2⟩ := Prod.mk.inj (Option.some.inj q1)
  subst e1
  subst e2
  have S2 := (y2 ow).S S1
  have id2 : mY B ow [] h2 h2 := mX.rf S2.1
  exact ⟨r, h1, h2, P', C', U', p1, q2, (wM_le y (by simp)).tr (wM_le (y2 ow) (by simp)), M2.up (y2 ow) mO.rf id2 (by decide) (by decide) (le_11 (y2 ow) (by decide)), R2.up (y2 ow) mO.rf id2 (by decide) (by decide) (by decide), L2.up (y2 ow) mO.rf id2 (by decide) (by decide) (Nat.le_refl _) (by omega), Q2.up M2.2.1 (y2 ow) id2 (by decide) (by decide)⟩
end GE
