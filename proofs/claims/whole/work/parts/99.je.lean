/-! join -/
def RWo (B : Nat) (ow : Nat → Nat × Nat) (h : mm_H) : Prop := mm_r h (B + 52) 9 = none ∨ ∃ a, mm_r h (B + 52) 9 = some a ∧ Lv B ow h 13 0 a ∧ mm_kd h a = 14 ∧ mm_n h a = 11264
section JE
variable {B a : Nat} {h hx hy hx' hy' : mm_H} {ow ow' : Nat → Nat × Nat} {n0 n1 : Nat} {m0 m1 : Nat → Int32} {c0 c1 d0 d1 : Nat → Nat} {co da : Nat} {w w' : Nat → Nat → Nat}
theorem RWo.up (R : RWo B ow hx) {ms : List Nat} (x : mY B ow ms hx hx') (o : mO ow ow' hx) (h1 : 16 ∉ ms) : RWo B ow' hx' := by
  have e : mm_r hx' (B + 52) 9 = mm_r hx (B + 52) 9 := x.rF (m := 16) (by omega) rfl h1
  rcases R with R | ⟨a, r1, r2, r3, r4⟩
  · exact Or.inl (e.trans R)
  · exact Or.inr ⟨a, e.trans r1, r2.up x o, (x.kd r2.2.1).trans r3, (x.n r2.2.1).trans r4⟩
theorem y_offs (S : mS B h) (X : bY B h n0 n1 m0 m1 c0 c1 d0 d1) {i j : Nat} (hi : i < n0) (hj : j < n1) : fX12_off (mm_i h (B + 144) i) (mm_i h (B + 144) (10 + j)) h = some (nI (dst (c0 i) (c1 j)), h) ∧ fX12_off (mm_i h (B + 142) i) (mm_i h (B + 142) (10 + j)) h = some (nI (dst (d0 i) (d1 j)), h) := by
  obtain ⟨⟨X0, X0'⟩, X1, X2, X3, X4⟩ := X
  obtain ⟨a1, ⟨a2, a2'⟩, a3, a3'⟩ := X3 i hi
  obtain ⟨b1, ⟨b2, b2'⟩, b3, b3'⟩ := X4 j hj
  rw [a2, b2, a3, b3]
  exact ⟨q_off (by omega) (by omega) h, q_off (by omega) (by omega) h⟩
theorem J_keep (hww : ∀ i j, i < n0 → j < n1 → Jw (w i j) (w' i j)) (hw' : w' = jY m0 m1 c0 c1 d0 d1 co da) (hco : co ≤ 1000) (hda : da ≤ 1000) (hb : ∀ r s, r ≤ n0 → jR w n0 n1 r s ≤ 1000200010) (hb' : ∀ r s, r ≤ n0 → jR w' n0 n1 r s ≤ 100000000000) : ∀ (e i s fuel fuel' : Nat) (hx hy : mm_H), i + e = n0 → e < fuel → e < fuel' → s < 2 ^ n1 → pcN s ≤ i → mS B hx → mS B hy → bX B hx n0 n1 m0 m1 c0 c1 d0 d1 → bY B hy n0 n1 m0 m1 c0 c1 d0 d1 → xA B hx a → xW B hx n0 n1 w → xR hx a n0 n1 w 0 → yR B hy n0 n1 w' 0 → mm_i hy (B + 66) 114 = mm_i hx (B + 52) 5 → mm_i hy (B + 66) 115 = mm_i hx (B + 52) 6 → ∃ s' hx' hy', (∀ K, fX1_keepFirstBest_L14 (B + 52) (nI (2 ^ n1)) K fuel (nI s) (nI i) hx = K (nI s') hx') ∧ (∀ K, fX12_join_L251 (B + 66) (nI co) (nI da) (nI n0) (nI n1) K fuel' (nI s) (nI (pcN s)) (nI i) hy = K (nI (pcN s')) hy') ∧ s' < 1024 ∧ mX B (fun x i => x = B + 63 ∨ (x = B + 52 ∧ 5 ≤ i ∧ i ≤ 6)) hx hx' ∧ mX B (fun x i => x = B + 145 ∨ (x = B + 66 ∧ (i = 114 ∨ i = 115))) hy hy' ∧ mm_i hy' (B + 66) 114 = mm_i hx' (B + 52) 5 ∧ mm_i hy' (B + 66) 115 = mm_i hx' (B + 52) 6 ∧ (∀ k, i ≤ k → k < n0 → mm_i hy' (B + 145) k = mm_i hx' (B + 63) k) ∧ ∀ k, k < i → mm_i hx' (B + 63) k = mm_i hx (B + 63) k ∧ mm_i hy' (B + 145) k = mm_i hy (B + 145) k := by
  intro e
  induction e with
  | zero =>
    intro i s fuel fuel' hx hy hi hf hf' hs hp S S' X Y XA XW XR YR g5 g6
    obtain ⟨f, rfl⟩ : ∃ f, fuel = f + 1 := ⟨fuel - 1, by omega⟩
    obtain ⟨f', rfl⟩ : ∃ f, fuel' = f + 1 := ⟨fuel' - 1, by omega⟩
    have n9 := X.1
    have c9 := p_1024 n1 n9.2
    refine ⟨s, hx, hy, fun K => ?_, fun K => ?_, by omega, mX.rf S.1, mX.rf S'.1, g5, g6, fun k h1 h2 => by omega, fun k _ => ⟨rfl, rfl⟩⟩
    · show fX1_keepFirstBest_L14_b _ _ _ _ _ _ _ = _
      unfold fX1_keepFirstBest_L14_b
      simp only [q_c0]
      rw [q_ck (sk52 S), sr52_0 S, p_rf, q_ck (sk53 S), sn53 S, q_ix0, X.2.1, if_pos (nI_le (show n0 ≤ i by omega) (by omega))]
    · show fX12_join_L251_b _ _ _ _ _ _ _ _ _ _ _ = _
      unfold fX12_join_L251_b
      rw [if_pos (nI_le (show n0 ≤ i by omega) (by omega))]
  | succ e ih =>
    intro i s fuel fuel' hx hy hi hf hf' hs hp S S' X Y XA XW XR YR g5 g6
    obtain ⟨f, rfl⟩ : ∃ f, fuel = f + 1 := ⟨fuel - 1, by omega⟩
    obtain ⟨f', rfl⟩ : ∃ f, fuel' = f + 1 := ⟨fuel' - 1, by omega⟩
    obtain ⟨a1, a2, a3, a4, a5⟩ := id XA
    have n9 := X.1
    have c9 := p_1024 n1 n9.2
    have hi2 : i < n0 := by omega
    have hqi := fun (β : Type) (z : Option β) => q_ckx (show i < 10 by omega) (by decide) z
    have hqi2 := fun (β : Type) (z : Option β) => q_ckx (show i < 20 by omega) (by decide) z
    have hci := nI_clamp (n := i) (by omega)
    -- the partner
    obtain ⟨v, hv⟩ : ∃ v, v = fstF (jP w n0 n1 i s) n1 0 := ⟨_, rfl⟩
    have hvy : fstF (jP w' n0 n1 i s) n1 0 = v := by
      rw [hv]; exact fstF_cg fun j _ hj => (jP_rel hww n9.1 hi2 (by omega)).symm
    have hpart := x_part S X XA XW hb hi2 hs hp XR
    rw [← hv] at hpart
    obtain ⟨hx1, ex1⟩ : ∃ g, g = mm_setI hx (B + 63) i v := ⟨_, rfl⟩
    obtain ⟨hy0, ey0⟩ : ∃ g, g = mm_setI hy (B + 145) i (-1) := ⟨_, rfl⟩
    obtain ⟨hy1, ey1⟩ : ∃ g, g = mm_setI hy0 (B + 145) i v := ⟨_, rfl⟩
    have Sx1 : mS B hx1 := by rw [ex1]; exact S
    have Sy0 : mS B hy0 := by rw [ey0]; exact S'
    have Sy1 : mS B hy1 := by rw [ey1]; exact Sy0
    have x1 : mX B (fun x i => x = B + 63 ∨ (x = B + 52 ∧ 5 ≤ i ∧ i ≤ 6)) hx hx1 := by rw [ex1]; exact (mX.rf S.1).I (Or.inl (Or.inl rfl))
    have y0 : mX B (fun x i => x = B + 145 ∨ (x = B + 66 ∧ (i = 114 ∨ i = 115))) hy hy0 := by rw [ey0]; exact (mX.rf S'.1).I (Or.inl (Or.inl rfl))
    have y1 : mX B (fun x i => x = B + 145 ∨ (x = B + 66 ∧ (i = 114 ∨ i = 115))) hy hy1 := by rw [ey1]; exact y0.I (Or.inl (Or.inl rfl))
    have toX : ∀ g, mX B (fun x i => x = B + 63 ∨ (x = B + 52 ∧ 5 ≤ i ∧ i ≤ 6)) hx g → bX B g n0 n1 m0 m1 c0 c1 d0 d1 ∧ xA B g a ∧ xW B g n0 n1 w ∧ xR g a n0 n1 w 0 := fun g xg => by
      have xj : mX B (wJ B a) hx g := xg.up fun x i _ z => by
        rcases z with z | z
        · exact Or.inl z
        · exact Or.inr (Or.inr (Or.inr ⟨z.1, z.2.1, by omega⟩))
      refine ⟨X.up a4 xj, XA.up xj, fun p q hp hq => ?_, fun p t h1 h2 h3 h4 => ?_⟩
      · rw [xg.i (by have := S.1; omega) (by rintro (z | z) <;> omega)]; exact XW p q hp hq
      · rw [xg.i a5 (by rintro (z | z) <;> omega)]; exact XR p t h1 h2 h3 h4
    have toY : ∀ g, mX B (fun x i => x = B + 145 ∨ (x = B + 66 ∧ (i = 114 ∨ i = 115))) hy g → bY B g n0 n1 m0 m1 c0 c1 d0 d1 ∧ yR B g n0 n1 w' 0 := fun g yg => by
      have yj : mX B (wK B) hy g := yg.up fun x i _ z => by
        rcases z with z | z
        · exact Or.inl z
        · exact Or.inr (Or.inr ⟨z.1, Or.inr z.2⟩)
      refine ⟨Y.up yj, fun p t h1 h2 h3 => ?_⟩
      rw [yg.j (by have := S'.1; omega) (by rintro (z | z) <;> omega)]; exact YR p t h1 h2 h3
    have Y0 := toY hy0 y0
    have hyp := fun K => y_part hw' hco hda hb' Sy0 Y0.1 Y0.2 hi2 hs (by rw [ey0, i_I_eq]) (nI n0) (nI (pcN s)) K n1 0 mm_F (by omega) (by unfold mm_F; omega)
    simp only [hvy, ← ey1, nI_0] at hyp
    have v63 : mm_i hx1 (B + 63) i = v := by rw [ex1, i_I_eq]
    have v145 : mm_i hy1 (B + 145) i = v := by rw [ey1, i_I_eq]
    have g5' : mm_i hy1 (B + 66) 114 = mm_i hx1 (B + 52) 5 := by rw [ey1, i_I_ne (by omega), ey0, i_I_ne (by omega), ex1, i_I_ne (by omega)]; exact g5
    have g6' : mm_i hy1 (B + 66) 115 = mm_i hx1 (B + 52) 6 := by rw [ey1, i_I_ne (by omega), ey0, i_I_ne (by omega), ex1, i_I_ne (by omega)]; exact g6
    have o63 : ∀ k, k ≠ i → mm_i hx1 (B + 63) k = mm_i hx (B + 63) k := fun k hk => by rw [ex1, i_I, if_neg (fun z => hk z.2)]
    have o145 : ∀ k, k ≠ i → mm_i hy1 (B + 145) k = mm_i hy (B + 145) k := fun k hk => by rw [ey1, i_I, if_neg (fun z => hk z.2), ey0, i_I, if_neg (fun z => hk z.2)]
    have X1 := toX hx1 x1
    have Y1 := toY hy1 y1
    rcases fstF_spec (P := jP w n0 n1 i s) (e := n1) (i := 0) (by omega) with z | ⟨j, -, hj, z, zj⟩
    · -- none
      have hv1 : v = -1 := hv.trans z
      obtain ⟨s', hx', hy', q1, q2, q3, q4, q5, q6, q7, q8, q9⟩ := ih (i + 1) s f f' hx1 hy1 (by omega) (by omega) (by omega) hs (by omega) Sx1 Sy1 X1.1 Y1.1 X1.2.1 X1.2.2.1 X1.2.2.2 Y1.2 g5' g6'
      refine ⟨s', hx', hy', fun K => ?_, fun K => ?_, q3, x1.tr q4, y1.tr q5, q6, q7, fun k h1 h2 => ?_, fun k hk => ⟨(q9 k (by omega)).1.trans (o63 k (by omega)), (q9 k (by omega)).2.trans (o145 k (by omega))⟩⟩
      · rw [← q1 K]
        show fX1_keepFirstBest_L14_b _ _ _ _ _ _ _ = _
        unfold fX1_keepFirstBest_L14_b
        simp only [q_c0, hci]
        rw [q_ck (sk52 S), sr52_0 S, p_rf, q_ck (sk53 S), sn53 S, q_ix0, X.2.1, if_neg (nI_ge hi2 (by omega)), hpart, p_cl, q_ck (sk52 S), sr52_4 S, p_rf, q_ck (sk63 S), sn63 S, hqi, ← ex1, p_lt]
        refine (jn_eq2 (nI s) hx1 (fun q => if_pos hv1)).trans ?_
        rw [p_lt, nI_1]
      · rw [← q2 K]
        show fX12_join_L251_b _ _ _ _ _ _ _ _ _ _ _ = _
        unfold fX12_join_L251_b
        simp only [hci]
        rw [if_neg (nI_ge hi2 (by omega)), q_ck (sk66 S'), sr66_113 S', p_rf, q_ck (sk145 S'), sn145 S', hqi, ← ey0, p_lt, hyp, q_ck (sk66 Sy1), sr66_113 Sy1, p_rf, q_ck (sk145 Sy1), sn145 Sy1, hqi, v145]
        refine Eq.trans (b := mm_lt (nI i + 1) fun v108 => fX12_join_L251 (B + 66) (nI co) (nI da) (nI n0) (nI n1) K f' (nI s) (nI (pcN s)) v108 hy1) ?_ ?_
        · exact if_pos hv1
        · rw [p_lt, nI_1]
      · by_cases c : k = i
        · subst c
          rw [(q9 k (by omega)).1, (q9 k (by omega)).2, v63, v145]
        · exact q8 k (by omega) h2
    · -- entry j of home's
      rw [Nat.zero_add] at hj
      have hvj : v = nI j := hv.trans z
      have hjn : ¬ v = -1 := by rw [hvj]; exact nI_neg1 (by omega)
      have w2 : s.testBit j = false := by
        unfold jP at zj
        simp only [Bool.and_eq_true, Bool.not_eq_true'] at zj
        exact zj.2.1
      have hol := or_lt hs hj
      have hpc := pcN_or s (by omega) j (by omega) w2
      have hor := jb_or s (by omega) j (by omega)
      obtain ⟨k1, k2⟩ := x_coins Sx1 X1.1 hi2 hj
      obtain ⟨l1, l2⟩ := y_offs Sy1 Y1.1 hi2 hj
      obtain ⟨hx2, ex2⟩ : ∃ g, g = mm_setI hx1 (B + 52) 5 (mm_i hx1 (B + 52) 5 + nI (dst (c0 i) (c1 j))) := ⟨_, rfl⟩
      obtain ⟨hx3, ex3⟩ : ∃ g, g = mm_setI hx2 (B + 52) 6 (mm_i hx2 (B + 52) 6 + nI (dst (d0 i) (d1 j))) := ⟨_, rfl⟩
      obtain ⟨hy2, ey2⟩ : ∃ g, g = mm_setI hy1 (B + 66) 114 (mm_i hy1 (B + 66) 114 + nI (dst (c0 i) (c1 j))) := ⟨_, rfl⟩
      obtain ⟨hy3, ey3⟩ : ∃ g, g = mm_setI hy2 (B + 66) 115 (mm_i hy2 (B + 66) 115 + nI (dst (d0 i) (d1 j))) := ⟨_, rfl⟩
      have x2 : mX B (fun x i => x = B + 63 ∨ (x = B + 52 ∧ 5 ≤ i ∧ i ≤ 6)) hx hx2 := by rw [ex2]; exact x1.I (Or.inl (Or.inr ⟨rfl, by omega, by omega⟩))
      have x3 : mX B (fun x i => x = B + 63 ∨ (x = B + 52 ∧ 5 ≤ i ∧ i ≤ 6)) hx hx3 := by rw [ex3]; exact x2.I (Or.inl (Or.inr ⟨rfl, by omega, by omega⟩))
      have y2 : mX B (fun x i => x = B + 145 ∨ (x = B + 66 ∧ (i = 114 ∨ i = 115))) hy hy2 := by rw [ey2]; exact y1.I (Or.inl (Or.inr ⟨rfl, Or.inl rfl⟩))
      have y3 : mX B (fun x i => x = B + 145 ∨ (x = B + 66 ∧ (i = 114 ∨ i = 115))) hy hy3 := by rw [ey3]; exact y2.I (Or.inl (Or.inr ⟨rfl, Or.inr rfl⟩))
      have Sx2 := x2.S S
      have Sx3 := x3.S S
      have Sy2 := y2.S S'
      have Sy3 := y3.S S'
      have X2 := toX hx2 x2
      have X3 := toX hx3 x3
      have Y2 := toY hy2 y2
      have Y3 := toY hy3 y3
      obtain ⟨-, k2'⟩ := x_coins Sx2 X2.1 hi2 hj
      obtain ⟨-, l2'⟩ := y_offs Sy2 Y2.1 hi2 hj
      have f5 : mm_i hy3 (B + 66) 114 = mm_i hx3 (B + 52) 5 := by rw [ey3, i_I, if_neg (fun z => by omega), ey2, i_I_eq, ex3, i_I, if_neg (fun z => by omega), ex2, i_I_eq, g5']
      have f6 : mm_i hy3 (B + 66) 115 = mm_i hx3 (B + 52) 6 := by rw [ey3, i_I_eq, ey2, i_I, if_neg (fun z => by omega), ex3, i_I_eq, ex2, i_I, if_neg (fun z => by omega), g6']
      obtain ⟨s', hx', hy', q1, q2, q3, q4, q5, q6, q7, q8, q9⟩ := ih (i + 1) (s ||| 2 ^ j) f f' hx3 hy3 (by omega) (by omega) (by omega) hol (by omega) Sx3 Sy3 X3.1 Y3.1 X3.2.1 X3.2.2.1 X3.2.2.2 Y3.2 f5 f6
      have o63' : ∀ k, mm_i hx3 (B + 63) k = mm_i hx1 (B + 63) k := fun k => by rw [ex3, i_I_ne (by omega), ex2, i_I_ne (by omega)]
      have o145' : ∀ k, mm_i hy3 (B + 145) k = mm_i hy1 (B + 145) k := fun k => by rw [ey3, i_I_ne (by omega), ey2, i_I_ne (by omega)]
      refine ⟨s', hx', hy', fun K => ?_, fun K => ?_, q3, x3.tr q4, y3.tr q5, q6, q7, fun k h1 h2 => ?_, fun k hk => ⟨((q9 k (by omega)).1.trans (o63' k)).trans (o63 k (by omega)), ((q9 k (by omega)).2.trans (o145' k)).trans (o145 k (by omega))⟩⟩
      · rw [← q1 K]
        show fX1_keepFirstBest_L14_b _ _ _ _ _ _ _ = _
        unfold fX1_keepFirstBest_L14_b
        simp only [q_c0, hci]
        rw [q_ck (sk52 S), sr52_0 S, p_rf, q_ck (sk53 S), sn53 S, q_ix0, X.2.1, if_neg (nI_ge hi2 (by omega)), hpart, p_cl, q_ck (sk52 S), sr52_4 S, p_rf, q_ck (sk63 S), sn63 S, hqi, ← ex1, p_lt]
        refine (jn_eq2 (nI (s ||| 2 ^ j)) hx3 (fun q => ?_)).trans ?_
        · rw [if_neg hjn, hvj, hor, p_lt, k1, p_cl, q_ck (sk52 Sx1), ← ex2, p_lt, k2', p_cl, q_ck (sk52 Sx2), ← ex3, p_lt]
        · rw [p_lt, nI_1]
      · rw [← q2 K]
        have hq10 := fun (β : Type) (z : Option β) => q_ckx (show 10 + j < 20 by omega) (by decide) z
        have hc10 := nI_clamp (n := 10 + j) (by omega)
        have h10 : (10 : Int32) + nI j = nI (10 + j) := by rw [show (10 : Int32) = nI 10 by decide +kernel, nI_add]
        have v145' : mm_i hy2 (B + 145) i = nI j := by rw [ey2, i_I_ne (by omega), v145, hvj]
        show fX12_join_L251_b _ _ _ _ _ _ _ _ _ _ _ = _
        unfold fX12_join_L251_b
        simp only [hci]
        rw [if_neg (nI_ge hi2 (by omega)), q_ck (sk66 S'), sr66_113 S', p_rf, q_ck (sk145 S'), sn145 S', hqi, ← ey0, p_lt, hyp, q_ck (sk66 Sy1), sr66_113 Sy1, p_rf, q_ck (sk145 Sy1), sn145 Sy1, hqi, v145]
        refine Eq.trans (b := mm_lt (nI i + 1) fun v108 => fX12_join_L251 (B + 66) (nI co) (nI da) (nI n0) (nI n1) K f' (nI (s ||| 2 ^ j)) (nI (pcN (s ||| 2 ^ j))) v108 hy3) ?_ ?_
        · rw [p_jn, if_neg hjn, hqi, hvj, hor, p_lt, nI_1, ← hpc, p_lt, sr66_112 Sy1, p_rf, q_ck (sk144 Sy1), sn144 Sy1, hqi2, hqi, h10, hq10, hc10, l1, p_cl, q_ck (sk66 Sy1), ← ey2, p_lt, sr66_110 Sy2, p_rf, q_ck (sk142 Sy2), sn142 Sy2, hqi2, sr66_113 Sy2, p_rf, q_ck (sk145 Sy2), sn145 Sy2, hqi, v145', h10, hq10, hc10, l2', p_cl, q_ck (sk66 Sy2), ← ey3, p_lt]
        · rw [p_lt, nI_1]
      · by_cases c : k = i
        · subst c
          rw [(q9 k (by omega)).1, (q9 k (by omega)).2, o63', o145', v63, v145]
        · exact q8 k (by omega) h2
/-- the class's array of worths is there -/
theorem x_worths (S : mS B h) (R : RWo B ow h) : ∃ h1 ow1 a, (∀ K : mm_H → Option (Int32 × mm_H), (if ¬ (mm_r h (B + 52) 9) = none then (K h) else (mm_lt (mm_new h 14 (11264 : Int32).toNatClampNeg) fun g47 => mm_lt (mm_sz h) fun u48 => mm_ck (mm_kd g47 (B + 52) = 2) <| mm_lt (mm_setR g47 (B + 52) 9 (some u48)) fun g51 => K g51)) = K h1) ∧ mX B (fun x i => x = B + 52 ∧ i = 9) h h1 ∧ mO ow ow1 h ∧ xA B h1 a ∧ Lv B ow1 h1 13 0 a ∧ (∀ j k, j < 147 → mm_i h1 (B + j) k = mm_i h (B + j) k) ∧ (∀ x, x < mm_sz h → ∀ k, mm_i h1 x k = mm_i h x k) := by
  rcases R with R | ⟨a, r1, r2, r3, r4⟩
  · have hB := S.1
    obtain ⟨h1, e1⟩ : ∃ g, g = mm_setR (mm_new h 14 11264) (B + 52) 9 (some (mm_sz h)) := ⟨_, rfl⟩
    have x1 : mX B (fun x i => x = B + 52 ∧ i = 9) h h1 := by rw [e1]; exact ((mX.rf hB).N).R (Or.inl ⟨⟨rfl, rfl⟩, Or.inr (Or.inr (Or.inl ⟨rfl, rfl⟩))⟩)
    have hi : ∀ x, x < mm_sz h → ∀ k, mm_i h1 x k = mm_i h x k := fun x hx k => by rw [e1, i_R, i_N, if_neg (by omega)]
    have z : (11264 : Int32).toNatClampNeg = 11264 := by decide
    refine ⟨h1, oN ow (mm_sz h) 13 0, mm_sz h, fun K => ?_, x1, oN.mO (Nat.le_refl _), ⟨?_, ?_, ?_, hB, ?_⟩, ⟨hB, ?_, oN.at⟩, fun j k hj => hi _ (by omega) k, hi⟩
    · have k2 : mm_kd (mm_new h 14 11264) (B + 52) = 2 := by rw [kd_N, if_neg (by omega)]; exact sk52 S
      rw [R, if_neg (not_not_intro rfl), z, p_lt, p_lt, q_ck k2, ← e1, p_lt]
    · rw [e1, r_R, if_pos ⟨rfl, rfl⟩]
    · rw [e1, kd_R, kd_N, if_pos rfl]
    · rw [e1, n_R, n_N, if_pos rfl]
    · rw [e1]; exact Nat.lt_succ_self _
    · rw [e1]; exact Nat.lt_succ_self _
  · refine ⟨h, ow, a, fun K => ?_, mX.rf S.1, mO.rf, ⟨r1, r3, r4, r2.1, r2.2.1⟩, r2, fun _ _ _ => rfl, fun _ _ _ => rfl⟩
    rw [r1, if_pos (by simp)]
end JE
