/-! a clause of the reference -/
section KS
variable {B : Nat} {h h' g7 hx hy hx' hy' : mm_H} {t : Nat → Int32} {n m L i j c cl p : Nat} {cs : List (Nat × Nat)}
theorem wR_Q {a k : Nat} (z : wR B L a k) : wQy B L a k := Or.inl z
theorem wV_Q {a k : Nat} (z : wV B a k) : wQy B L a k := by
  obtain ⟨z1, z2, z3⟩ := z
  exact Or.inl (Or.inl ⟨z1, Or.inl (by omega)⟩)
/-- the verb has failed -/
theorem z_clause0 (S : mS B h) (hL : mm_i h (B + 66) 23 = nI L ∧ L < 30) {w : Int32} (hv : fX12_verb (B + 66) h = some (w, g7)) (x : mX B (wV B) h g7) {φ : Nat} (h0 : φ ≠ 0) (h9 : φ ≤ 4000) (h20 : mm_i g7 (B + 66) 20 = nI φ) : fX12_clause (B + 66) h = some ((), g7) := by
  have S1 := x.S S
  have hq30 := fun (β : Type) (z : Option β) => q_ckx (show L < 30 from hL.2) (by decide) z
  unfold fX12_clause
  rw [q_ck (sk66 S), sr66_27 S, p_rf, q_ck (sk83 S), hL.1, sn83 S, hq30, p_lt, hv, p_cl, q_ck (sk66 S1), h20, if_neg (show ¬ nI φ ≤ (0 : Int32) from nI_ge (a := 0) (by omega) (by omega))]
theorem z_clause1 (S : mS B h) (hL : mm_i h (B + 66) 23 = nI L ∧ L < 30) (h83 : mm_i h (B + 83) L = nI cl) (hcl : cl < 10) {w : Int32} (hv : fX12_verb (B + 66) h = some (w, g7)) (x : mX B (wV B) h g7) (Y : yV B g7 t n L p 0) (e : skF t n p = plF t n j) : (tkF t n (plF t n j) ≠ 17 → ∃ h', fX12_clause (B + 66) h = some ((), h') ∧ mX B (wQy B L) h h' ∧ mm_i h' (B + 66) 20 = nI (fl 0 0 (plF t n j))) ∧ (tkF t n (plF t n j) = 17 → mm_i h (B + 66) 22 = nI c → mm_i h (B + 66) 33 = nI cs.length → cdy B h L cs → cs.length ≤ j → (∀ k, k < j + 1 → plF t n k < n) → c ≤ 80 → ∀ r' : rA, rRun t n mm_F (0, j + 1, c, [], cs, 0) = some r' → ∃ h', fX12_clause (B + 66) h = some ((), h') ∧ mX B (wQy B L) h h' ∧ yA B h' t n L r' ∧ rOk t n r' ∧ (r'.1 = 4 → r'.2.2.2.2.2 = 0 → mm_i h' (B + 66) 18 = nI (plF t n r'.2.1)) ∧ mm_i h' (B + 84) (10 * L + cl) = w ∧ mm_i h' (B + 85) (10 * L + cl) = nI cs.length ∧ mm_i h' (B + 86) (10 * L + cl) = nI r'.2.2.2.2.1.length ∧ mm_i h' (B + 83) L = nI (cl + 1) ∧ ∀ k, k < cl → mm_i h' (B + 84) (10 * L + k) = mm_i h (B + 84) (10 * L + k) ∧ mm_i h' (B + 85) (10 * L + k) = mm_i h (B + 85) (10 * L + k) ∧ mm_i h' (B + 86) (10 * L + k) = mm_i h (B + 86) (10 * L + k)) := by
  have S7 := Y.1.2.2.1
  have hq30 := fun (β : Type) (z : Option β) => q_ckx (show L < 30 from hL.2) (by decide) z
  have hidx : (10 : Int32) * nI L + nI cl = nI (10 * L + cl) := by rw [show (10 : Int32) = nI 10 by decide +kernel, nI_mul, nI_add]
  have hq300 := fun (β : Type) (z : Option β) => q_ckx (show 10 * L + cl < 300 by omega) (by decide) z
  have hcl3 := nI_clamp (n := 10 * L + cl) (by omega)
  have hcL := nI_clamp (n := L) (by omega)
  obtain ⟨g1, a1, a2, Y1, -⟩ := z_bl Y e
  have S1 := Y1.1.2.2.1
  have hp := Y1.2.1.2
  have hwe := we_le (t := t) hp
  have hIs1 : fX12_is (B + 66) (mm_c g1 14) (nI (weF t n (plF t n j))) g1 = some (if rIs t (plF t n j) (weF t n (plF t n j)) 4 = true then 1 else 0, g1) := z_is (k := 4) Y1 hwe.1 hwe.2 (by omega) (by decide)
  have hi1 : rIs t (plF t n j) (weF t n (plF t n j)) 4 = true ↔ tkF t n (plF t n j) = 17 := rw_iff (w := 17) hp (by omega)
  have xg1 : mX B (wQy B L) h g1 := (x.tr a2).up fun a k _ z => wV_Q z
  have hB := x.1.2.2
  refine ⟨fun hk => ?_, fun hk h22 h33 hcd hcj hpl hc r' hrun => ?_⟩
  · obtain ⟨g2, b1, b2, Y2, -⟩ := z_fails Y1 0 (plF t n j) (by omega)
    refine ⟨g2, ?_, xg1.tr (b2.up fun a k _ z => wV_Q z), Y2.2.2⟩
    unfold fX12_clause
    rw [q_ck (sk66 S), sr66_27 S, p_rf, q_ck (sk83 S), hL.1, sn83 S, hq30, p_lt, hv, p_cl, q_ck (sk66 S7), Y.2.2, if_pos (by rw [nI_0]; exact Int32.le_refl _), a1, p_cl, q_ck (sk66 S1), z_wordEnd Y1, p_cl, q_ck (sk66 S1), hIs1, p_cl, if_neg (fun z => hk (hi1.mp z)), if_neg (not_not_intro rfl), q_ck (sk66 S1), Y1.2.1.1, ← nI_0, b1, p_cl]
  · obtain ⟨g2, e2⟩ : ∃ g, g = mm_setI g1 (B + 66) 18 (nI (weF t n (plF t n j))) := ⟨_, rfl⟩
    obtain ⟨g3, e3⟩ : ∃ g, g = mm_setI g2 (B + 84) (10 * L + cl) w := ⟨_, rfl⟩
    obtain ⟨g4, e4⟩ : ∃ g, g = mm_setI g3 (B + 85) (10 * L + cl) (nI cs.length) := ⟨_, rfl⟩
    obtain ⟨g5, e5⟩ : ∃ g, g = mm_setI g4 (B + 66) 34 0 := ⟨_, rfl⟩
    obtain ⟨g6, e6⟩ : ∃ g, g = mm_setI g5 (B + 66) 21 0 := ⟨_, rfl⟩
    have S2 : mS B g2 := by rw [e2]; exact S1
    have S3 : mS B g3 := by rw [e3]; exact S2
    have S4 : mS B g4 := by rw [e4]; exact S3
    have x6 : mX B (wQy B L) g1 g6 := by
      rw [e6, e5, e4, e3, e2]
      exact (((((mX.rf (W := wQy B L) S1.1).I (Or.inl (by unfold wQy wR; omega))).I (Or.inl (by unfold wQy wR; omega))).I (Or.inl (by unfold wQy wR; omega))).I (Or.inl (by unfold wQy wR; omega))).I (Or.inl (by unfold wQy wR; omega))
    have c33 : mm_i g3 (B + 66) 33 = nI cs.length := by
      rw [e3, i_I_ne (by omega), e2, i_I, if_neg (fun z => by omega), (x.tr a2).i (by omega) (by unfold wV; omega)]; exact h33
    have k6 : ∀ k, k ≠ 18 → k ≠ 34 → k ≠ 21 → mm_i g6 (B + 66) k = mm_i g1 (B + 66) k := fun k h1 h2 h3 => by
      rw [e6, i_I, if_neg (fun z => h3 z.2), e5, i_I, if_neg (fun z => h2 z.2), e4, i_I_ne (by omega), e3, i_I_ne (by omega), e2, i_I, if_neg (fun z => h1 z.2)]
    have o6 : ∀ a k, a ≠ B + 66 → a ≠ B + 84 → a ≠ B + 85 → mm_i g6 a k = mm_i g1 a k := fun a k h1 h2 h3 => by
      rw [e6, i_I_ne h1, e5, i_I_ne h1, e4, i_I_ne h3, e3, i_I_ne h2, e2, i_I_ne h1]
    have k1 : ∀ k, ¬ (18 ≤ k ∧ k ≤ 20) → mm_i g1 (B + 66) k = mm_i h (B + 66) k := fun k hk => (x.tr a2).i (by omega) (by unfold wV; omega)
    have o1 : ∀ a k, a < B + 147 → a ≠ B + 66 → mm_i g1 a k = mm_i h a k := fun a k h1 h2 => (x.tr a2).i (by omega) (by unfold wV; omega)
    have m18 : mm_i g6 (B + 66) 18 = nI (weF t n (plF t n j)) := by rw [e6, i_I, if_neg (fun z => by omega), e5, i_I, if_neg (fun z => by omega), e4, i_I_ne (by omega), e3, i_I_ne (by omega), e2, i_I_eq]
    have Y6 : yS B g6 t n L (weF t n (plF t n j)) 0 c [] cs 0 := by
      obtain ⟨⟨y1, y2, y3⟩, y4, y5, y6, y7⟩ := Y1.1
      refine ⟨⟨⟨y1, by rw [k6 _ (by omega) (by omega) (by omega)]; exact y2, fun k hk => by rw [o6 _ _ (by omega) (by omega) (by omega)]; exact y3 k hk⟩, y4.up x6, x6.S y5, by rw [k6 _ (by omega) (by omega) (by omega)]; exact y6, y7⟩, ⟨m18, hwe.2⟩, by rw [k6 _ (by omega) (by omega) (by omega)]; exact Y1.2.2, by rw [e6, i_I_eq, nI_0], by rw [k6 _ (by omega) (by omega) (by omega), k1 _ (by omega)]; exact h22, by rw [k6 _ (by omega) (by omega) (by omega), k1 _ (by omega)]; exact h33, by rw [e6, i_I, if_neg (fun z => by omega), e5, i_I_eq]; exact nI_0.symm, trivial, cdy_cg (fun k _ => by rw [o6 _ _ (by omega) (by omega) (by omega), o6 _ _ (by omega) (by omega) (by omega), o1 _ _ (by omega) (by omega), o1 _ _ (by omega) (by omega)]; exact ⟨rfl, rfl⟩) hcd, ?_⟩
      have h1 := ps_ge (t := t) (n := n) j (fun k hk => hpl k (by omega))
      have h2 := pl_le (t := t) (n := n) j
      show 0 + cs.length ≤ 400
      omega
    have hpos : weF t n (plF t n j) = nxF t n (plF t n j) := nx_word (by omega)
    have YA : yA B g6 t n L (0, j + 1, c, [], cs, 0) := ⟨⟨_, Y6, by rw [hpos]; rfl⟩, fun k hk => by cases hk⟩
    obtain ⟨g9, r1, r2, r3, r4, r5⟩ := y_run (b1 := nI (10 * L + cl)) mm_F (0, j + 1, c, [], cs, 0) g6 YA ⟨by show 0 + cs.length ≤ j + 1; omega, hpl, fun _ => hc, by show (0 : Nat) ≤ 4; omega, by show (0 : Nat) ≤ 4000; omega⟩ (fun z => absurd z (show ¬ (0 : Nat) = 4 by decide)) hrun
    have hB6 := x6.1.2.2
    have hB9 := r2.1.2.2
    obtain ⟨⟨p9, Y9, s9⟩, kk9⟩ := id r3
    have S9 := Y9.1.2.2.1
    obtain ⟨g10, e10⟩ : ∃ g, g = mm_setI g9 (B + 86) (10 * L + cl) (nI r'.2.2.2.2.1.length) := ⟨_, rfl⟩
    obtain ⟨g11, e11⟩ : ∃ g, g = mm_setI g10 (B + 83) L (nI (cl + 1)) := ⟨_, rfl⟩
    have S10 : mS B g10 := by rw [e10]; exact S9
    have x11 : mX B (wQy B L) g9 g11 := by
      rw [e11, e10]
      exact ((mX.rf (W := wQy B L) S9.1).I (Or.inl (by unfold wQy; omega))).I (Or.inl (by unfold wQy; omega))
    have o11 : ∀ a k, a ≠ B + 86 → a ≠ B + 83 → mm_i g11 a k = mm_i g9 a k := fun a k h1 h2 => by rw [e11, i_I_ne h2, e10, i_I_ne h1]
    have c83 : mm_i g9 (B + 83) L = nI cl := by rw [r2.i (by omega) (by unfold wR; omega), o6 _ _ (by omega) (by omega) (by omega), o1 _ _ (by omega) (by omega)]; exact h83
    have YA11 : yA B g11 t n L r' := by
      obtain ⟨⟨⟨y1, y2, y3⟩, y4, y5, y6, y7⟩, ⟨z1, z2⟩, z3, z4, z5, z6, z7, z8, z9, z10⟩ := Y9
      refine ⟨⟨p9, ⟨⟨⟨y1, by rw [o11 _ _ (by omega) (by omega)]; exact y2, fun k hk => by rw [o11 _ _ (by omega) (by omega)]; exact y3 k hk⟩, y4.up x11, x11.S y5, by rw [o11 _ _ (by omega) (by omega)]; exact y6, y7⟩, ⟨by rw [o11 _ _ (by omega) (by omega)]; exact z1, z2⟩, by rw [o11 _ _ (by omega) (by omega)]; exact z3, by rw [o11 _ _ (by omega) (by omega)]; exact z4, by rw [o11 _ _ (by omega) (by omega)]; exact z5, by rw [o11 _ _ (by omega) (by omega)]; exact z6, by rw [o11 _ _ (by omega) (by omega)]; exact z7, stk_cg (fun k _ => o11 _ _ (by omega) (by omega)) z8, cdy_cg (fun k _ => ⟨o11 _ _ (by omega) (by omega), o11 _ _ (by omega) (by omega)⟩) z9, z10⟩, s9⟩, kk9⟩
    refine ⟨g11, ?_, ((xg1.tr x6).tr (r2.up fun a k _ z => wR_Q z)).tr x11, YA11, r4, fun z1 z2 => by rw [o11 _ _ (by omega) (by omega)]; exact r5 z1 z2, ?_, ?_, ?_, by rw [e11, i_I_eq], fun k hk => ?_⟩
    · unfold fX12_clause
      rw [nI_0] at r1
      rw [q_ck (sk66 S), sr66_27 S, p_rf, q_ck (sk83 S), hL.1, sn83 S, hq30, hcL, h83, hidx, p_lt]
      simp only [hcl3]
      rw [hv, p_cl, q_ck (sk66 S7), Y.2.2, if_pos (by rw [nI_0]; exact Int32.le_refl _), a1, p_cl, q_ck (sk66 S1), z_wordEnd Y1, p_cl, q_ck (sk66 S1), hIs1, p_cl, if_pos (hi1.mpr hk), if_pos (show ¬ (1 : Int32) = 0 by decide), q_ck (sk66 S1), ← e2, p_lt, sr66_28 S2, p_rf, q_ck (sk84 S2), sn84 S2, hq300, ← e3, p_lt, sr66_29 S3, p_rf, q_ck (sk85 S3), sn85 S3, hq300, c33, ← e4, p_lt, ← e5, p_lt, ← e6, p_lt, r1, q_ck (sk66 S9), sr66_30 S9, p_rf, q_ck (sk86 S9), sn86 S9, hq300, Y9.2.2.2.2.2.1, ← e10, p_lt, sr66_27 S10, p_rf, q_ck (sk83 S10), show mm_i g10 (B + 66) 23 = nI L by rw [e10, i_I_ne (by omega)]; exact Y9.1.2.2.2.1, sn83 S10, hq30, hq30, hcL, show mm_i g10 (B + 83) L = nI cl by rw [e10, i_I_ne (by omega)]; exact c83, nI_1, ← e11, p_lt]
    · rw [o11 _ _ (by omega) (by omega), r2.i (by omega) (by unfold wR; omega), e6, i_I_ne (by omega), e5, i_I_ne (by omega), e4, i_I_ne (by omega), e3, i_I_eq]
    · rw [o11 _ _ (by omega) (by omega), r2.i (by omega) (by unfold wR; omega), e6, i_I_ne (by omega), e5, i_I_ne (by omega), e4, i_I_eq]
    · rw [e11, i_I_ne (by omega), e10, i_I_eq]
    · refine ⟨?_, ?_, ?_⟩
      · rw [o11 _ _ (by omega) (by omega), r2.i (by omega) (by unfold wR; omega), e6, i_I_ne (by omega), e5, i_I_ne (by omega), e4, i_I_ne (by omega), e3, i_I, if_neg (fun z => by omega), e2, i_I_ne (by omega), o1 _ _ (by omega) (by omega)]
      · rw [o11 _ _ (by omega) (by omega), r2.i (by omega) (by unfold wR; omega), e6, i_I_ne (by omega), e5, i_I_ne (by omega), e4, i_I, if_neg (fun z => by omega), e3, i_I_ne (by omega), e2, i_I_ne (by omega), o1 _ _ (by omega) (by omega)]
      · rw [e11, i_I_ne (by omega), e10, i_I, if_neg (fun z => by omega), r2.i (by omega) (by unfold wR; omega), o6 _ _ (by omega) (by omega) (by omega), o1 _ _ (by omega) (by omega)]
end KS
