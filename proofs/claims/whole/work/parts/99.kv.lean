/-! a new law on both sides -/
def nuV (n u : Nat) (V : Nat → Nat → Nat) : Nat → Nat → Nat := fun c k => if k = n then (if c = 0 then u + 3 else if c = 1 then u else if c = 2 then u + 1 else u + 2) else V c k
def nuZ (n : Nat) (g : List (List (Nat × Nat))) (Z : Nat → Nat → Nat) : Nat → Nat → Nat := fun c k => if k = n then (if c = 0 then g.length else if c = 1 then g.flatten.length else sgS g (c - 10)) else Z c k
def nuG (n : Nat) (cs : List (Nat × Nat)) (G : Nat → Nat → Nat) : Nat → Nat → Nat := fun k j => if k = n then (gdF cs j).1 else G k j
def nuE (n : Nat) (cs : List (Nat × Nat)) (E : Nat → Nat → Nat) : Nat → Nat → Nat := fun k j => if k = n then (gdF cs j).2 else E k j
section KY
variable {B : Nat} {h hx hy hx' hy' : mm_H} {ow ow' : Nat → Nat × Nat} {n z0 z1 L k : Nat} {V Z G E V' Z' G' E' : Nat → Nat → Nat}
theorem mLaw.cg2 (M : mLaw B hx hy V Z G E k) (e0 : ∀ j, mm_i hx' (V 0 k) j = mm_i hx (V 0 k) j) (e1 : ∀ j, mm_i hx' (V 1 k) j = mm_i hx (V 1 k) j) (e2 : ∀ j, mm_i hx' (V 2 k) j = mm_i hx (V 2 k) j) (e3 : ∀ j, mm_i hx' (V 3 k) j = mm_i hx (V 3 k) j) (f80 : mm_i hy' (B + 80) k = mm_i hy (B + 80) k) (f81 : mm_i hy' (B + 81) k = mm_i hy (B + 81) k) (f82 : mm_i hy' (B + 82) k = mm_i hy (B + 82) k) (f83 : mm_i hy' (B + 83) k = mm_i hy (B + 83) k) (f84 : ∀ c, c < 10 → mm_i hy' (B + 84) (10 * k + c) = mm_i hy (B + 84) (10 * k + c) ∧ mm_i hy' (B + 85) (10 * k + c) = mm_i hy (B + 85) (10 * k + c) ∧ mm_i hy' (B + 86) (10 * k + c) = mm_i hy (B + 86) (10 * k + c)) (f87 : ∀ j, j < 400 → mm_i hy' (B + 87) (400 * k + j) = mm_i hy (B + 87) (400 * k + j) ∧ mm_i hy' (B + 88) (400 * k + j) = mm_i hy (B + 88) (400 * k + j)) : mLaw B hx' hy' V Z G E k := by
  obtain ⟨a1, a2, a3, ⟨a4, a5, a6⟩, a7, a8, a9⟩ := M
  refine ⟨by rw [f80, e0]; exact a1, by rw [f82, e0]; exact a2, by rw [f81, e0]; exact a3, ⟨by rw [f83]; exact a4, a5, a6⟩, fun c hc => by rw [e2]; exact a7 c hc, fun c hc => ?_, fun j hj => ?_⟩
  · obtain ⟨g1, g2, g3⟩ := f84 c (by omega)
    rw [g1, g2, g3, e1]; exact a8 c hc
  · obtain ⟨g1, g2⟩ := f87 j (by omega)
    unfold mStp
    rw [e3, g1, g2]; exact a9 j hj
theorem mLaw.eqV (M : mLaw B hx hy V Z G E k) (hV : ∀ c, V' c k = V c k) (hZ : ∀ c, Z' c k = Z c k) (hG : G' k = G k) (hE : E' k = E k) : mLaw B hx hy V' Z' G' E' k := by
  unfold mLaw mStp at *
  simp only [hV, hZ, hG, hE]
  exact M
theorem mLrf.eqV (M : mLrf B ow hx V Z k) (hV : ∀ c, V' c k = V c k) (hZ : ∀ c, Z' c k = Z c k) : mLrf B ow hx V' Z' k := by
  unfold mLrf at *
  simp only [hV, hZ]
  exact M
theorem lwH_x {a b c : Int32} (hB : B + 147 ≤ mm_sz h) : mX B (fun _ _ => False) h (lwH h B z0 z1 a b c) := by
  have x3 := (mX.rf (W := fun _ _ => False) hB).N (kd := 14) (n := z0)
  have x8 := x3.N (kd := 14) (n := z0 + 1)
  have x13 := x8.N (kd := 14) (n := z1)
  have x21 := x13.Cp (a0 := B + 11) (a := mm_sz h) (m := z0) (Nat.le_refl _)
  have x26 := x21.Cp (a0 := B + 12) (a := mm_sz h + 1) (m := z0 + 1) (by omega)
  have x30 := x26.Cp (a0 := B + 10) (a := mm_sz h + 2) (m := z1) (by omega)
  have x31 := x30.N (kd := 5) (n := 0)
  have y1 := x31.I (a := mm_sz h + 3) (k := 0) (v := a) (Or.inr (by omega))
  have y2 := y1.I (a := mm_sz h + 3) (k := 2) (v := b) (Or.inr (by omega))
  have y3 := y2.I (a := mm_sz h + 3) (k := 1) (v := c) (Or.inr (by omega))
  have y4 := y3.R (a := mm_sz h + 3) (k := 3) (v := some (mm_sz h)) (Or.inr (by omega))
  have y5 := y4.R (a := mm_sz h + 3) (k := 4) (v := some (mm_sz h + 1)) (Or.inr (by omega))
  exact y5.R (a := mm_sz h + 3) (k := 5) (v := some (mm_sz h + 2)) (Or.inr (by omega))
theorem J_newLaw {g : List (List (Nat × Nat))} (S : mS B hx) (R : RLw B ow hx hy n V Z G E) (hn : n < 30) (h13 : mm_i hx (B + 5) 13 = nI g.length) (hg : g.length ≤ 10) (hg2 : g.flatten.length ≤ 400) (h10 : mm_i hx (B + 5) 10 = nI g.flatten.length) (cx : cdx B hx g.flatten) (cy : cdy B hy n g.flatten) (cd : clD B hx hy n g) (ok : ∀ x, x ∈ g.flatten → okC x) (h12 : mm_i hx (B + 12) 0 = 0) (h83 : mm_i hy (B + 83) n = nI g.length) {a b c : Int32} (ha : 0 ≤ a ∧ a ≤ 2) (hb : b = -1 ∨ 0 ≤ b) {hy2 : mm_H} (e2 : hy2 = mm_setI (mm_setI (mm_setI (mm_setI hy (B + 80) n a) (B + 82) n c) (B + 81) n b) (B + 66) 23 (nI (n + 1))) : ∃ hx2 ow2, fJx4a65c_add_9ea2d (B + 14) (mm_sz hx + 3) (lwH hx B g.length g.flatten.length a b c) = some (1, hx2) ∧ mm_kd (lwH hx B g.length g.flatten.length a b c) (B + 14) = 0 ∧ mY B ow [8] hx hx2 ∧ mO ow ow2 hx ∧ RLw B ow2 hx2 hy2 (n + 1) (nuV n (mm_sz hx) V) (nuZ n g Z) (nuG n g.flatten G) (nuE n g.flatten E) ∧ mm_i hx2 (B + 12) 0 = 0 := by
  obtain ⟨R1, R2, R3, R4⟩ := id R
  have hB := S.1
  obtain ⟨u, hu⟩ : ∃ u, u = mm_sz hx := ⟨_, rfl⟩
  obtain ⟨g1, e1⟩ : ∃ g1, g1 = lwH hx B g.length g.flatten.length a b c := ⟨_, rfl⟩
  rw [← hu, ← e1]
  have x1 : mX B (fun _ _ => False) hx g1 := by rw [e1]; exact lwH_x hB
  have S1 := x1.S S
  have z1 : mm_sz g1 = u + 4 := by rw [e1, hu]; rfl
  -- kinds, lengths, references of the new cells
  have kdn : ∀ x, mm_kd g1 x = (if x = u + 3 then 5 else if x = u + 2 then 14 else if x = u + 1 then 14 else if x = u then 14 else mm_kd hx x) ∧ mm_n g1 x = (if x = u + 3 then 0 else if x = u + 2 then g.flatten.length else if x = u + 1 then g.length + 1 else if x = u then g.length else mm_n hx x) := fun x => by
    rw [e1, hu]; exact ⟨rfl, rfl⟩
  have ref : ∀ k, mm_r g1 (u + 3) k = if k = 5 then some (u + 2) else if k = 4 then some (u + 1) else if k = 3 then some u else mm_r g1 (u + 3) k := fun k => by
    by_cases k5 : k = 5
    · rw [if_pos k5, e1, hu, k5]; unfold lwH; rw [r_R, if_pos ⟨rfl, rfl⟩]
    · rw [if_neg k5]
      by_cases k4 : k = 4
      · rw [if_pos k4, e1, hu, k4]; unfold lwH; rw [r_R, if_neg (fun z => by omega), r_R, if_pos ⟨rfl, rfl⟩]
      · rw [if_neg k4]
        by_cases k3 : k = 3
        · rw [if_pos k3, e1, hu, k3]; unfold lwH; rw [r_R, if_neg (fun z => by omega), r_R, if_neg (fun z => by omega), r_R, if_pos ⟨rfl, rfl⟩]
        · rw [if_neg k3]
  -- ints of the new cells
  obtain ⟨g0, e0⟩ : ∃ g0, g0 = mm_cpI (mm_cpI (mm_cpI (mm_new (mm_new (mm_new hx 14 g.length) 14 (g.length + 1)) 14 g.flatten.length) (B + 11) 0 (mm_sz hx) 0 g.length) (B + 12) 0 (mm_sz hx + 1) 0 (g.length + 1)) (B + 10) 0 (mm_sz hx + 2) 0 g.flatten.length := ⟨_, rfl⟩
  have sz0 : mm_sz g0 = u + 3 := by rw [e0, hu]; rfl
  have i1 : ∀ x k, x ≠ u + 3 → mm_i g1 x k = mm_i g0 x k := fun x k hx2 => by
    rw [e1]; unfold lwH
    show mm_i (mm_setI (mm_setI (mm_setI (mm_new _ 5 0) (mm_sz hx + 3) 0 a) (mm_sz hx + 3) 2 b) (mm_sz hx + 3) 1 c) x k = _
    rw [i_I_ne (by omega), i_I_ne (by omega), i_I_ne (by omega), ← e0, i_N, if_neg (by omega)]
  have i1' : mm_i g1 (u + 3) 0 = a ∧ mm_i g1 (u + 3) 1 = c ∧ mm_i g1 (u + 3) 2 = b := by
    rw [e1, hu]; unfold lwH
    show mm_i (mm_setI (mm_setI (mm_setI (mm_new _ 5 0) (mm_sz hx + 3) 0 a) (mm_sz hx + 3) 2 b) (mm_sz hx + 3) 1 c) _ 0 = a ∧ mm_i (mm_setI (mm_setI (mm_setI (mm_new _ 5 0) (mm_sz hx + 3) 0 a) (mm_sz hx + 3) 2 b) (mm_sz hx + 3) 1 c) _ 1 = c ∧ mm_i (mm_setI (mm_setI (mm_setI (mm_new _ 5 0) (mm_sz hx + 3) 0 a) (mm_sz hx + 3) 2 b) (mm_sz hx + 3) 1 c) _ 2 = b
    simp [i_I]
  have o3 : ∀ x k, x < u → mm_i (mm_new (mm_new (mm_new hx 14 g.length) 14 (g.length + 1)) 14 g.flatten.length) x k = mm_i hx x k := fun x k hxu => by
    rw [i_N, if_neg (by show x ≠ mm_sz hx + 1 + 1; omega), i_N, if_neg (by show x ≠ mm_sz hx + 1; omega), i_N, if_neg (by omega)]
  have vd : ∀ k, k < g.length → mm_i g0 u k = mm_i hx (B + 11) k := fun k hk => by
    rw [e0, i_cp0, if_neg (fun z => by omega), i_cp0, if_neg (fun z => by omega), i_cp0, if_pos ⟨by omega, hk⟩, o3 _ _ (by omega)]
  have vs : ∀ k, k < g.length + 1 → mm_i g0 (u + 1) k = mm_i hx (B + 12) k := fun k hk => by
    rw [e0, i_cp0, if_neg (fun z => by omega), i_cp0, if_pos ⟨by omega, hk⟩, i_cp0, if_neg (fun z => by omega), o3 _ _ (by omega)]
  have vc : ∀ k, k < g.flatten.length → mm_i g0 (u + 2) k = mm_i hx (B + 10) k := fun k hk => by
    rw [e0, i_cp0, if_pos ⟨by omega, hk⟩, i_cp0, if_neg (fun z => by omega), i_cp0, if_neg (fun z => by omega), o3 _ _ (by omega)]
  -- the owners
  obtain ⟨ow1, hw1⟩ : ∃ o, o = oN (oN (oN (oN ow u 8 n) (u + 1) 9 n) (u + 2) 10 n) (u + 3) 4 n := ⟨_, rfl⟩
  have o1 : mO ow ow1 hx := fun x hx2 => by
    rw [hw1]; unfold oN
    rw [if_neg (by omega), if_neg (by omega), if_neg (by omega), if_neg (by omega)]
  have own : ow1 u = (8, n) ∧ ow1 (u + 1) = (9, n) ∧ ow1 (u + 2) = (10, n) ∧ ow1 (u + 3) = (4, n) := by
    rw [hw1]; unfold oN
    refine ⟨?_, ?_, ?_, ?_⟩
    · rw [if_neg (by omega), if_neg (by omega), if_neg (by omega), if_pos rfl]
    · rw [if_neg (by omega), if_neg (by omega), if_pos rfl]
    · rw [if_neg (by omega), if_pos rfl]
    · rw [if_pos rfl]
  have L1 : mL B ow1 g1 (B + 14) 3 5 n (V 0) := R2.up2 rfl (by omega) (x1.up (V := wM B ow []) fun a k _ z => absurd z (fun z => z)) o1 (m := 8) rfl rfl (fun _ => rfl) (by decide)
  have U1 : Lv B ow1 g1 4 n (u + 3) := ⟨by omega, by omega, own.2.2.2⟩
  obtain ⟨g2, ow2, f2, x2, o2, L2⟩ := x_add S1.1 (by omega) (Or.inr (Or.inl ⟨Or.inr (Or.inr (Or.inr rfl)), rfl⟩)) (sk14 S1) (by decide) L1 (by omega) U1 (by rw [(kdn _).1, if_pos rfl])
  have y2 : mY B ow1 [8] g1 g2 := wM_wL (m := 8) x2 rfl (by omega) (fun k hk => rfl) (fun _ => rfl) (by decide)
  have x3 : mY B ow [8] hx g2 := (x1.up (V := wM B ow [8]) fun a k _ z => absurd z (fun z => z)).tr2 o1 y2
  -- cells of laws stay
  have keep : ∀ {t k x : Nat}, (t = 4 ∨ t = 8 ∨ t = 9 ∨ t = 10) → B + 147 ≤ x → x < mm_sz g1 → ow1 x = (t, k) → (∀ j, mm_i g2 x j = mm_i g1 x j ∧ mm_r g2 x j = mm_r g1 x j) ∧ mm_kd g2 x = mm_kd g1 x ∧ mm_n g2 x = mm_n g1 x := fun {t k x} ht hx1 hx2 ho => by
    have nw : ∀ j, ¬ wL B ow1 (B + 14) 3 x j := fun j z => by
      rcases z with z | z
      · omega
      · have := z.2
        rw [ho] at this
        have := congrArg Prod.fst this
        simp at this
        omega
    exact ⟨fun j => ⟨x2.i hx2 (nw j), x2.r hx2 (nw j)⟩, x2.kd hx2, x2.n hx2⟩
  have old : ∀ {t k x : Nat}, (t = 4 ∨ t = 8 ∨ t = 9 ∨ t = 10) → Lv B ow hx t k x → (∀ j, mm_i g2 x j = mm_i hx x j ∧ mm_r g2 x j = mm_r hx x j) ∧ mm_kd g2 x = mm_kd hx x ∧ mm_n g2 x = mm_n hx x := fun {t k x} ht Lx => by
    obtain ⟨q1, q2, q3⟩ := keep ht Lx.1 (Nat.lt_of_lt_of_le Lx.2.1 x1.1.1) ((o1 x Lx.2.1).trans Lx.2.2)
    exact ⟨fun j => ⟨(q1 j).1.trans (x1.i Lx.2.1 (fun z => z)), (q1 j).2.trans (x1.r Lx.2.1 (fun z => z))⟩, q2.trans (x1.kd Lx.2.1), q3.trans (x1.n Lx.2.1)⟩
  have LvU : ∀ {t k x : Nat}, Lv B ow hx t k x → Lv B ow2 g2 t k x := fun L => (L.up x1 o1).up x2 o2
  have NU := @keep 4 n (u + 3) (Or.inl rfl) (by omega) (by omega) own.2.2.2
  have N0 := @keep 8 n u (Or.inr (Or.inl rfl)) (by omega) (by omega) own.1
  have N1 := @keep 9 n (u + 1) (Or.inr (Or.inr (Or.inl rfl))) (by omega) (by omega) own.2.1
  have N2 := @keep 10 n (u + 2) (Or.inr (Or.inr (Or.inr rfl))) (by omega) (by omega) own.2.2.1
  have q66 : ∀ x k, x ≠ B + 66 → x ≠ B + 80 → x ≠ B + 81 → x ≠ B + 82 → mm_i hy2 x k = mm_i hy x k := fun x k h1 h2 h3 h4 => by
    rw [e2, i_I_ne h1, i_I_ne h3, i_I_ne h4, i_I_ne h2]
  have q80 : mm_i hy2 (B + 80) n = a ∧ mm_i hy2 (B + 81) n = b ∧ mm_i hy2 (B + 82) n = c ∧ mm_i hy2 (B + 66) 23 = nI (n + 1) := by
    rw [e2]; simp [i_I]
  have q80' : ∀ k, k ≠ n → mm_i hy2 (B + 80) k = mm_i hy (B + 80) k ∧ mm_i hy2 (B + 81) k = mm_i hy (B + 81) k ∧ mm_i hy2 (B + 82) k = mm_i hy (B + 82) k := fun k hk => by
    rw [e2]; simp [i_I, hk]
  refine ⟨g2, ow2, f2, sk14 S1, x3, o1.tr x1 o2, ⟨by omega, L2, q80.2.2.2, fun k hk => ?_⟩, ?_⟩
  · by_cases e : k = n
    · subst e
      have v0 : nuV k u V 0 k = u + 3 := by unfold nuV; rw [if_pos rfl, if_pos rfl]
      have v1 : nuV k u V 1 k = u := by unfold nuV; rw [if_pos rfl, if_neg (by decide), if_pos rfl]
      have v2 : nuV k u V 2 k = u + 1 := by unfold nuV; rw [if_pos rfl, if_neg (by decide), if_neg (by decide), if_pos rfl]
      have v3 : nuV k u V 3 k = u + 2 := by unfold nuV; rw [if_pos rfl, if_neg (by decide), if_neg (by decide), if_neg (by decide)]
      have w0 : nuZ k g Z 0 k = g.length := by unfold nuZ; rw [if_pos rfl, if_pos rfl]
      have w1 : nuZ k g Z 1 k = g.flatten.length := by unfold nuZ; rw [if_pos rfl, if_neg (by decide), if_pos rfl]
      have wc : ∀ c, nuZ k g Z (10 + c) k = sgS g c := fun c => by unfold nuZ; rw [if_pos rfl, if_neg (by omega), if_neg (by omega), Nat.add_sub_cancel_left]
      have wc1 : ∀ c, nuZ k g Z (11 + c) k = sgS g (c + 1) := fun c => by rw [show 11 + c = 10 + (c + 1) by omega, wc]
      have wG : nuG k g.flatten G k = fun j => (gdF g.flatten j).1 := by unfold nuG; funext j; rw [if_pos rfl]
      have wE : ∀ j, nuE k g.flatten E k j = (gdF g.flatten j).2 := fun j => by unfold nuE; rw [if_pos rfl]
      have starts : ∀ c, c ≤ g.length → mm_i g2 (u + 1) c = nI (sgS g c) := fun c hc => by
        rw [(N1.1 c).1, i1 _ _ (by omega), vs c (by omega)]
        cases c with
        | zero => rw [sgS_0, h12, nI_0]
        | succ c => exact (clD_at cd c (by omega)).2.1
      refine ⟨?_, ?_⟩
      · unfold mLaw
        rw [v0, v1, v2, v3, w0, w1, q80.1, q80.2.1, q80.2.2.1, (NU.1 0).1, (NU.1 1).1, (NU.1 2).1, i1'.1, i1'.2.1, i1'.2.2, q66 (B + 83) _ (by omega) (by omega) (by omega) (by omega)]
        refine ⟨⟨rfl, ha⟩, rfl, ⟨rfl, hb⟩, ⟨h83, hg, hg2⟩, fun c hc => ?_, fun c hc => ?_, fun j hj => ?_⟩
        · rw [wc]; exact ⟨starts c hc, sgS_le.1⟩
        · obtain ⟨d1, d2, d3, d4, d5⟩ := clD_at cd c hc
          rw [wc, wc1, wG, q66 (B + 84) _ (by omega) (by omega) (by omega) (by omega), q66 (B + 85) _ (by omega) (by omega) (by omega) (by omega), q66 (B + 86) _ (by omega) (by omega) (by omega) (by omega), (N0.1 c).1, i1 _ _ (by omega), vd c hc]
          exact ⟨d1, d3, d4, sgS_le.2 hc, d5⟩
        · obtain ⟨c1, c2⟩ := cdy_at cy j hj
          obtain ⟨k1, k2, k3⟩ := ok _ (gd_mem hj)
          unfold mStp
          rw [wG, wE, q66 (B + 87) _ (by omega) (by omega) (by omega) (by omega), q66 (B + 88) _ (by omega) (by omega) (by omega) (by omega), (N2.1 j).1, i1 _ _ (by omega), vc j hj]
          exact ⟨cdx_at cx j hj, c1, c2, k1, k2⟩
      · unfold mLrf
        rw [v0, v1, v2, v3, w0, w1, (NU.1 3).2, (NU.1 4).2, (NU.1 5).2, ref 3, ref 4, ref 5]
        refine ⟨⟨rfl, rfl, rfl⟩, ⟨?_, ?_, ?_⟩, ⟨?_, ?_, ?_⟩, ?_, ?_, ?_⟩
        · exact (show Lv B ow1 g1 8 k u from ⟨by omega, by omega, own.1⟩).up x2 o2
        · exact (show Lv B ow1 g1 9 k (u + 1) from ⟨by omega, by omega, own.2.1⟩).up x2 o2
        · exact (show Lv B ow1 g1 10 k (u + 2) from ⟨by omega, by omega, own.2.2.1⟩).up x2 o2
        · rw [N0.2.1, (kdn _).1, if_neg (by omega), if_neg (by omega), if_neg (by omega), if_pos rfl]
        · rw [N1.2.1, (kdn _).1, if_neg (by omega), if_neg (by omega), if_pos rfl]
        · rw [N2.2.1, (kdn _).1, if_neg (by omega), if_pos rfl]
        · rw [N0.2.2, (kdn _).2, if_neg (by omega), if_neg (by omega), if_neg (by omega), if_pos rfl]
        · rw [N1.2.2, (kdn _).2, if_neg (by omega), if_neg (by omega), if_pos rfl]
        · rw [N2.2.2, (kdn _).2, if_neg (by omega), if_pos rfl]
    · obtain ⟨M1, M2⟩ := R4 k (by omega)
      have Lk := (R2.2.2.2 k (by omega)).1
      have hV : ∀ c, nuV n u V c k = V c k := fun c => by unfold nuV; rw [if_neg e]
      have hZ : ∀ c, nuZ n g Z c k = Z c k := fun c => by unfold nuZ; rw [if_neg e]
      have hG : nuG n g.flatten G k = G k := by unfold nuG; funext j; rw [if_neg e]
      have hE : nuE n g.flatten E k = E k := by unfold nuE; funext j; rw [if_neg e]
      obtain ⟨b1, b2, b3⟩ := M2.2.1
      have O0 := old (Or.inl rfl) Lk
      have O1 := old (Or.inr (Or.inl rfl)) b1
      have O2 := old (Or.inr (Or.inr (Or.inl rfl))) b2
      have O3 := old (Or.inr (Or.inr (Or.inr rfl))) b3
      obtain ⟨p0, p1, p2⟩ := q80' k e
      refine ⟨(M1.cg2 (hx' := g2) (hy' := hy2) (fun j => (O0.1 j).1) (fun j => (O1.1 j).1) (fun j => (O2.1 j).1) (fun j => (O3.1 j).1) p0 p1 p2 (q66 _ _ (by omega) (by omega) (by omega) (by omega)) (fun c hc => ⟨q66 _ _ (by omega) (by omega) (by omega) (by omega), q66 _ _ (by omega) (by omega) (by omega) (by omega), q66 _ _ (by omega) (by omega) (by omega) (by omega)⟩) (fun j hj => ⟨q66 _ _ (by omega) (by omega) (by omega) (by omega), q66 _ _ (by omega) (by omega) (by omega) (by omega)⟩)).eqV hV hZ hG hE, mLrf.eqV (V := V) (Z := Z) ?_ hV hZ⟩
      obtain ⟨⟨r1, r2, r3⟩, -, ⟨k1, k2, k3⟩, n1, n2, n3⟩ := M2
      exact ⟨⟨(O0.1 3).2.trans r1, (O0.1 4).2.trans r2, (O0.1 5).2.trans r3⟩, ⟨LvU b1, LvU b2, LvU b3⟩, ⟨O1.2.1.trans k1, O2.2.1.trans k2, O3.2.1.trans k3⟩, O1.2.2.trans n1, O2.2.2.trans n2, O3.2.2.trans n3⟩
  · rw [x2.i (by omega) (by rintro (z | z); omega; omega), x1.i (by omega) (fun z => z)]; exact h12
end KY
