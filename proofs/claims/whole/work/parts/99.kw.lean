/-! law alike -/
section KZ
variable {B : Nat} {h hx hy hx' hy' : mm_H} {ow ow' : Nat → Nat × Nat} {n : Nat} {V Z G E : Nat → Nat → Nat}
theorem RLw.up3 (R : RLw B ow hx hy n V Z G E) (x : mY B ow [0] hx hx') (y : mX B (wQy B n) hy hy') : RLw B ow hx' hy' n V Z G E := by
  have hB := y.1.2.2
  have R1 := R.up x mO.rf (mX.rf (W := wM B ow []) hB) (by decide) (by decide)
  obtain ⟨a1, a2, a3, a4⟩ := R1
  have q : ∀ a k, a < B + 147 → ¬ wQy B n a k → mm_i hy' a k = mm_i hy a k := fun a k h1 h2 => y.i (by omega) h2
  refine ⟨a1, a2, by rw [q _ _ (by omega) (by unfold wQy wR; omega)]; exact a3, fun k hk => ⟨(a4 k hk).1.cg2 (fun _ => rfl) (fun _ => rfl) (fun _ => rfl) (fun _ => rfl) (q _ _ (by omega) (by unfold wQy wR; omega)) (q _ _ (by omega) (by unfold wQy wR; omega)) (q _ _ (by omega) (by unfold wQy wR; omega)) (q _ _ (by omega) (by unfold wQy wR; omega)) (fun c hc => ⟨q _ _ (by omega) (by unfold wQy wR; omega), q _ _ (by omega) (by unfold wQy wR; omega), q _ _ (by omega) (by unfold wQy wR; omega)⟩) (fun j hj => ⟨q _ _ (by omega) (by unfold wQy wR; omega), q _ _ (by omega) (by unfold wQy wR; omega)⟩), (a4 k hk).2⟩⟩
theorem J_law (S : mS B hx) (S' : mS B hy) (M : mT hx) (M' : mT hy) (T : RTp B hx hy) (R : RLw B ow hx hy n V Z G E) (N1 : mm_i hy (B + 66) 1 = mm_i hx B 11) (N2 : 0 ≤ mm_i hx B 11) (h12 : mm_i hx (B + 12) 0 = 0) (a b : Int32) : ∃ r hx2 hy2 ow2 n2 V2 Z2 G2 E2, fX11_law B a b hx = some (r, hx2) ∧ fX12_law (B + 66) a b hy = some (r, hy2) ∧ mY B ow [0, 8, 9] hx hx2 ∧ (∀ o : Nat → Nat × Nat, mY B o [100, 108, 109, 131] hy hy2) ∧ mO ow ow2 hx ∧ RLw B ow2 hx2 hy2 n2 V2 Z2 G2 E2 ∧ RTp B hx2 hy2 ∧ mm_i hx2 (B + 12) 0 = 0 := by
  obtain ⟨R1, R2, R3, R4⟩ := id R
  have hsz := x_size (sk14 S) R2
  have hB := S.1
  have hB' := S'.1
  have same : ∀ v : Int32, fX11_law B a b hx = some (v, hx) → fX12_law (B + 66) a b hy = some (v, hy) → ∃ r hx2 hy2 ow2 n2 V2 Z2 G2 E2, fX11_law B a b hx = some (r, hx2) ∧ fX12_law (B + 66) a b hy = some (r, hy2) ∧ mY B ow [0, 8, 9] hx hx2 ∧ (∀ o : Nat → Nat × Nat, mY B o [100, 108, 109, 131] hy hy2) ∧ mO ow ow2 hx ∧ RLw B ow2 hx2 hy2 n2 V2 Z2 G2 E2 ∧ RTp B hx2 hy2 ∧ mm_i hx2 (B + 12) 0 = 0 := fun v h1 h2 => ⟨v, hx, hy, ow, n, V, Z, G, E, h1, h2, mX.rf hB, fun o => mX.rf hB', mO.rf, R, T, h12⟩
  have w1 : fX11_within a 0 2 hx = some (if 0 ≤ a ∧ a ≤ 2 then 1 else 0, hx) := x_within
  have w2 : fX12_in a 0 2 hy = some (if 0 ≤ a ∧ a ≤ 2 then 1 else 0, hy) := y_in
  have w3 : fX11_within b (mm_i hx B 11) 3999 hx = some (if mm_i hx B 11 ≤ b ∧ b ≤ 3999 then 1 else 0, hx) := x_within
  have w4 : fX12_in b (mm_i hy (B + 66) 1) 3999 hy = some (if mm_i hy (B + 66) 1 ≤ b ∧ b ≤ 3999 then 1 else 0, hy) := y_in
  by_cases c30 : n = 30
  · refine same (-1) ?_ ?_
    · unfold fX11_law
      rw [q_ck (sk0 S), sr0_5 S, p_rf, q_ck (sk13 S), sr13_0 S, p_rf, q_ck (sk14 S), hsz, p_cl, if_pos (show (30 : Int32) ≤ nI n from nI_le (a := 30) (by omega) (by omega))]
    · unfold fX12_law
      rw [q_ck (sk66 S'), R3, c30, if_pos (show nI 30 = (30 : Int32) by decide +kernel)]
  have hn : n < 30 := by omega
  have n30x : ¬ (30 : Int32) ≤ nI n := nI_ge (b := 30) hn (by omega)
  have n30y : ¬ nI n = (30 : Int32) := fun z => c30 ((nI_eq (b := 30) (by omega) (by omega)).mp z)
  by_cases ca : 0 ≤ a ∧ a ≤ 2
  case neg =>
    refine same (-1) ?_ ?_
    · unfold fX11_law
      rw [q_ck (sk0 S), sr0_5 S, p_rf, q_ck (sk13 S), sr13_0 S, p_rf, q_ck (sk14 S), hsz, p_cl, if_neg n30x, w1, p_cl, if_neg ca, if_neg (not_not_intro rfl)]
    · unfold fX12_law
      rw [q_ck (sk66 S'), R3, if_neg n30y, w2, p_cl, if_neg ca, if_pos rfl]
  by_cases cb : a = 1 ∧ ¬ (mm_i hx B 11 ≤ b ∧ b ≤ 3999)
  · refine same (-1) ?_ ?_
    · unfold fX11_law
      rw [q_ck (sk0 S), sr0_5 S, p_rf, q_ck (sk13 S), sr13_0 S, p_rf, q_ck (sk14 S), hsz, p_cl, if_neg n30x, w1, p_cl, if_pos ca, if_pos (show ¬ (1 : Int32) = 0 by decide), p_jn, if_neg (not_not_intro cb.1), q_ck (sk0 S), w3, p_cl, if_neg cb.2, if_neg (not_not_intro rfl)]
    · unfold fX12_law
      rw [q_ck (sk66 S'), R3, if_neg n30y, w2, p_cl, if_pos ca, if_neg (show ¬ (1 : Int32) = 0 by decide), p_jn, if_neg (not_not_intro cb.1), q_ck (sk66 S'), w4, p_cl, N1, if_neg cb.2, if_neg (not_not_intro rfl)]
  -- the text is read
  have hbb : a = 1 → mm_i hx B 11 ≤ b ∧ b ≤ 3999 := fun z => by
    by_cases y : mm_i hx B 11 ≤ b ∧ b ≤ 3999
    · exact y
    · exact absurd ⟨z, y⟩ cb
  obtain ⟨bi, hbi⟩ : ∃ bi : Int32, bi = (if a = 0 then mm_i hx B 11 else if a = 1 then b else -1) := ⟨_, rfl⟩
  have hbi2 : bi = -1 ∨ 0 ≤ bi := by
    rw [hbi]
    by_cases e : a = 0
    · rw [if_pos e]; exact Or.inr N2
    · rw [if_neg e]
      by_cases e2 : a = 1
      · rw [if_pos e2]; exact Or.inr (Int32.le_trans N2 (hbb e2).1)
      · rw [if_neg e2]; exact Or.inl rfl
  obtain ⟨nt, T9, T1, T2, T3⟩ := id T
  obtain ⟨y1, e1⟩ : ∃ g, g = mm_setI hy (B + 66) 18 0 := ⟨_, rfl⟩
  obtain ⟨y2, e2⟩ : ∃ g, g = mm_setI y1 (B + 66) 20 0 := ⟨_, rfl⟩
  obtain ⟨y3, e3⟩ : ∃ g, g = mm_setI y2 (B + 66) 22 0 := ⟨_, rfl⟩
  obtain ⟨y4, e4⟩ : ∃ g, g = mm_setI y3 (B + 66) 33 0 := ⟨_, rfl⟩
  obtain ⟨y5, e5⟩ : ∃ g, g = mm_setI y4 (B + 83) n 0 := ⟨_, rfl⟩
  have Sy4 : mS B y4 := by rw [e4, e3, e2, e1]; exact S'
  have xy5 : mX B (wQy B n) hy y5 := by
    rw [e5, e4, e3, e2, e1]
    exact (((((mX.rf (W := wQy B n) hB').I (Or.inl (by unfold wQy wR; omega))).I (Or.inl (by unfold wQy wR; omega))).I (Or.inl (by unfold wQy wR; omega))).I (Or.inl (by unfold wQy wR; omega))).I (Or.inl (by unfold wQy wR; omega))
  have k66 : ∀ k, k ≠ 18 → k ≠ 20 → k ≠ 22 → k ≠ 33 → mm_i y5 (B + 66) k = mm_i hy (B + 66) k := fun k h1 h2 h3 h4 => by
    rw [e5, i_I_ne (by omega), e4, i_I, if_neg (fun z => h4 z.2), e3, i_I, if_neg (fun z => h3 z.2), e2, i_I, if_neg (fun z => h2 z.2), e1, i_I, if_neg (fun z => h1 z.2)]
  have o66 : ∀ x k, x ≠ B + 66 → x ≠ B + 83 → mm_i y5 x k = mm_i hy x k := fun x k h1 h2 => by
    rw [e5, i_I_ne h2, e4, i_I_ne h1, e3, i_I_ne h1, e2, i_I_ne h1, e1, i_I_ne h1]
  have Y5 : yV B y5 (mm_i hx (B + 6)) nt n 0 0 := by
    refine ⟨⟨⟨T9, (k66 17 (by omega) (by omega) (by omega) (by omega)).trans T2, fun k hk => by rw [o66 _ _ (by omega) (by omega)]; exact T3 k hk⟩, M'.up xy5, xy5.S S', (k66 23 (by omega) (by omega) (by omega) (by omega)).trans R3, hn⟩, ⟨?_, Nat.zero_le _⟩, ?_⟩
    · rw [e5, i_I_ne (by omega), e4, i_I, if_neg (fun z => by omega), e3, i_I, if_neg (fun z => by omega), e2, i_I, if_neg (fun z => by omega), e1, i_I_eq, nI_0]
    · rw [e5, i_I_ne (by omega), e4, i_I, if_neg (fun z => by omega), e3, i_I, if_neg (fun z => by omega), e2, i_I_eq, nI_0]
  have c22 : mm_i y5 (B + 66) 22 = 0 := by rw [e5, i_I_ne (by omega), e4, i_I, if_neg (fun z => by omega), e3, i_I_eq]
  have c33 : mm_i y5 (B + 66) 33 = 0 := by rw [e5, i_I_ne (by omega), e4, i_I_eq]
  have c83 : mm_i y5 (B + 83) n = 0 := by rw [e5, i_I_eq]
  have TC : tC B hx (mm_i hx (B + 6)) nt := ⟨T9, T1, fun k _ => rfl⟩
  have jt := J_tape (b1 := a) (b2 := b) S M TC Y5 c22 c33 c83
  have hqx : ∀ q : mm_H → Option (Int32 × mm_H), (if ¬ a = (1 : Int32) then (q hx) else (mm_ck (mm_kd hx B = 12) <| mm_cl (fX11_within b ((mm_i hx B 11)) (3999 : Int32) hx) fun v54 g55 => if ¬ v54 = 0 then (q g55) else (some ((-1 : Int32), g55)))) = q hx := fun q => by
    by_cases e : a = 1
    · rw [if_neg (not_not_intro e), q_ck (sk0 S), w3, p_cl, if_pos (hbb e), if_pos (show ¬ (1 : Int32) = 0 by decide)]
    · rw [if_pos e]
  have hqy : ∀ q : mm_H → Option (Int32 × mm_H), (if ¬ a = (1 : Int32) then (q hy) else (mm_ck (mm_kd hy (B + 66) = 13) <| mm_cl (fX12_in b ((mm_i hy (B + 66) 1)) (3999 : Int32) hy) fun v57 g58 => if ¬ v57 = 0 then (q g58) else (some ((-1 : Int32), g58)))) = q hy := fun q => by
    by_cases e : a = 1
    · rw [if_neg (not_not_intro e), q_ck (sk66 S'), w4, p_cl, N1, if_pos (hbb e), if_pos (show ¬ (1 : Int32) = 0 by decide)]
    · rw [if_pos e]
  have hq30 := fun (β : Type) (z : Option β) => q_ckx hn (by decide) z
  have hcn := nI_clamp (n := n) (by omega)
  -- the reference, behind its reading
  have refer : ∀ hy', (∀ K2, fX12_law_L71 (B + 66) a b K2 mm_F 1 y5 = K2 hy') → mS B hy' → mm_i hy' (B + 66) 23 = nI n → mm_i hy' (B + 66) 1 = mm_i hx B 11 → ((mm_i hy' (B + 66) 20 = 0 → fX12_law (B + 66) a b hy = some (nI n, mm_setI (mm_setI (mm_setI (mm_setI (mm_setI hy' (B + 66) 17 0) (B + 80) n a) (B + 82) n (mm_i hx B 11)) (B + 81) n bi) (B + 66) 23 (nI (n + 1)))) ∧ ∀ f, f ≠ 0 → f ≤ 4000 → mm_i hy' (B + 66) 20 = nI f → fX12_law (B + 66) a b hy = some (-2 - nI f, mm_setI (mm_setI hy' (B + 66) 17 0) (B + 83) n 0)) := fun hy' hL Sy' h23 h1' => by
    obtain ⟨z1, f1⟩ : ∃ g, g = mm_setI hy' (B + 66) 17 0 := ⟨_, rfl⟩
    have Sz1 : mS B z1 := by rw [f1]; exact Sy'
    have z23 : mm_i z1 (B + 66) 23 = nI n := by rw [f1, i_I, if_neg (fun z => by omega)]; exact h23
    have z20 : mm_i z1 (B + 66) 20 = mm_i hy' (B + 66) 20 := by rw [f1, i_I, if_neg (fun z => by omega)]
    have z01 : mm_i z1 (B + 66) 1 = mm_i hx B 11 := by rw [f1, i_I, if_neg (fun z => by omega)]; exact h1'
    rw [← f1]
    have start : ∀ X, fX12_law_L71 (B + 66) a b (fun (g30 : mm_H) => mm_ck (mm_kd g30 (B + 66) = 13) <| mm_lt (mm_setI g30 (B + 66) 17 (0 : Int32)) fun g32 => if (mm_i g32 (B + 66) 20) ≤ 0 then (mm_rf (mm_r g32 (B + 66) 24) fun u34 => mm_ck (mm_kd g32 u34 = 14) <| mm_ck (mm_ix ((mm_i g32 (B + 66) 23)) (mm_n g32 u34)) <| mm_lt (mm_setI g32 u34 (mm_i g32 (B + 66) 23).toNatClampNeg a) fun g37 => mm_rf (mm_r g37 (B + 66) 26) fun u38 => mm_ck (mm_kd g37 u38 = 14) <| mm_ck (mm_ix ((mm_i g37 (B + 66) 23)) (mm_n g37 u38)) <| mm_lt (mm_setI g37 u38 (mm_i g37 (B + 66) 23).toNatClampNeg ((mm_i g37 (B + 66) 1))) fun g41 => mm_jn (fun (v42 : Int32) => mm_rf (mm_r g41 (B + 66) 25) fun u44 => mm_ck (mm_kd g41 u44 = 14) <| mm_ck (mm_ix ((mm_i g41 (B + 66) 23)) (mm_n g41 u44)) <| mm_lt (mm_setI g41 u44 (mm_i g41 (B + 66) 23).toNatClampNeg v42) fun g47 => mm_lt (mm_setI g47 (B + 66) 23 (((mm_i g47 (B + 66) 23) + (1 : Int32)))) fun g48 => some (((mm_i g48 (B + 66) 23) - (1 : Int32)), g48)) (fun (q43 : Int32 → Option (Int32 × mm_H)) => if ¬ a = 0 then (if ¬ a = (1 : Int32) then (q43 (-1 : Int32)) else (q43 b)) else (q43 ((mm_i g41 (B + 66) 1))))) else (mm_rf (mm_r g32 (B + 66) 27) fun u51 => mm_ck (mm_kd g32 u51 = 14) <| mm_ck (mm_ix ((mm_i g32 (B + 66) 23)) (mm_n g32 u51)) <| mm_lt (mm_setI g32 u51 (mm_i g32 (B + 66) 23).toNatClampNeg (0 : Int32)) fun g54 => some (((-2 : Int32) - (mm_i g54 (B + 66) 20)), g54))) mm_F (1 : Int32) y5 = X → fX12_law (B + 66) a b hy = X := fun X hX => by
      rw [← hX]
      unfold fX12_law
      rw [q_ck (sk66 S'), R3, if_neg n30y, w2, p_cl, if_pos ca, if_neg (show ¬ (1 : Int32) = 0 by decide)]
      refine (jn_eq hy hqy).trans ?_
      rw [q_ck (sk66 S'), p_lt, ← e1, p_lt, ← e2, p_lt, ← e3, p_lt, ← e4, sr66_27 Sy4, p_rf, q_ck (sk83 Sy4), show mm_i y4 (B + 66) 23 = nI n by rw [← k66 23 (by omega) (by omega) (by omega) (by omega), e5, i_I_ne (by omega)] at R3; exact R3, sn83 Sy4, hq30, hcn, ← e5, p_lt]
    refine ⟨fun h0 => start _ ?_, fun f hf hf9 h0 => start _ ?_⟩
    · obtain ⟨z2, f2⟩ : ∃ g, g = mm_setI z1 (B + 80) n a := ⟨_, rfl⟩
      obtain ⟨z3, f3⟩ : ∃ g, g = mm_setI z2 (B + 82) n (mm_i hx B 11) := ⟨_, rfl⟩
      obtain ⟨z4, f4⟩ : ∃ g, g = mm_setI z3 (B + 81) n bi := ⟨_, rfl⟩
      have Sz2 : mS B z2 := by rw [f2]; exact Sz1
      have Sz3 : mS B z3 := by rw [f3]; exact Sz2
      have y23 : ∀ k, mm_i z2 (B + 66) k = mm_i z1 (B + 66) k := fun k => by rw [f2, i_I_ne (by omega)]
      have y33 : ∀ k, mm_i z3 (B + 66) k = mm_i z1 (B + 66) k := fun k => by rw [f3, i_I_ne (by omega), y23]
      have y43 : ∀ k, mm_i z4 (B + 66) k = mm_i z1 (B + 66) k := fun k => by rw [f4, i_I_ne (by omega), y33]
      rw [hL, q_ck (sk66 Sy'), ← f1, p_lt, z20, h0, if_pos (Int32.le_refl _), sr66_24 Sz1, p_rf, q_ck (sk80 Sz1), z23, sn80 Sz1, hq30, hcn, ← f2, p_lt, sr66_26 Sz2, p_rf, q_ck (sk82 Sz2), y23, y23, z23, z01, sn82 Sz2, hq30, hcn, ← f3, p_lt]
      refine (jn_eq bi (fun q => ?_)).trans ?_
      · rw [hbi, y33, z01]
        by_cases e : a = 0
        · rw [if_neg (not_not_intro e), if_pos e]
        · rw [if_pos e, if_neg e]
          by_cases e2 : a = 1
          · rw [if_neg (not_not_intro e2), if_pos e2]
          · rw [if_pos e2, if_neg e2]
      · rw [sr66_25 Sz3, p_rf, q_ck (sk81 Sz3), y33, z23, sn81 Sz3, hq30, hcn, ← f4, p_lt, y43, z23, nI_1, p_lt, i_I_eq, nI_pred, f4, f3, f2]
    · rw [hL, q_ck (sk66 Sy'), ← f1, p_lt, z20, h0, if_neg (show ¬ nI f ≤ (0 : Int32) from nI_ge (a := 0) (by omega) (by omega)), sr66_27 Sz1, p_rf, q_ck (sk83 Sz1), z23, sn83 Sz1, hq30, hcn, p_lt, i_I_ne (by omega), z20, h0]
  have Rm : ∀ hx' hy', mX B (wC B) hx hx' → mX B (wQy B n) y5 hy' → RLw B ow (mm_setI hx' (B + 5) 1 0) (mm_setI hy' (B + 66) 17 0) n V Z G E ∧ mY B ow [0, 9] hx (mm_setI hx' (B + 5) 1 0) ∧ (∀ o : Nat → Nat × Nat, mY B o [100, 108, 109] hy (mm_setI hy' (B + 66) 17 0)) ∧ mm_i hy' (B + 66) 1 = mm_i hx B 11 ∧ mm_i hy' (B + 66) 23 = nI n ∧ mm_i hx' (B + 12) 0 = 0 := fun hx' hy' x y => by
    have xy := xy5.tr y
    have x0 : mY B ow [0] hx hx' := x.up fun a k _ z => w0C (by decide) z
    have r1 := R.up3 x0 xy
    have r2 := r1.up ((mX.rf (W := wM B ow [9]) (x0.S S).1).IF (j := 5) (k := 1) (m := 9) (v := 0) (by omega) rfl (by decide)) mO.rf ((mX.rf (W := wM B ow [109]) (xy.S S').1).IF (j := 66) (k := 17) (m := 109) (v := 0) (by omega) rfl (by decide)) (by decide) (by decide)
    refine ⟨r2, (wM_le x0 (by decide)).IF (j := 5) (m := 9) (by omega) rfl (by decide), fun o => (xy.up (V := wM B o [100, 108, 109]) fun a k _ z => w1Q (by decide) (by decide) z).IF (j := 66) (m := 109) (by omega) rfl (by decide), ?_, ?_, ?_⟩
    · rw [xy.i (by omega) (by unfold wQy wR; omega)]; exact N1
    · rw [xy.i (by omega) (by unfold wQy wR; omega)]; exact R3
    · rw [x.i (by omega) (by unfold wC; omega)]; exact h12
  have classer : ∀ (hx' : mm_H) (v19 : Int32), fX5_readTape (B + 5) hx = some (v19, hx') → mS B hx' → ∀ X, (if v19 = 0 then (mm_jn (fun (v27 : Int32) => mm_rf (mm_r (mm_setI hx' (B + 5) 1 0) B 5) fun u29 => mm_ck (mm_kd (mm_setI hx' (B + 5) 1 0) u29 = 3) <| mm_rf (mm_r (mm_setI hx' (B + 5) 1 0) B 4) fun u31 => mm_ck (mm_kd (mm_setI hx' (B + 5) 1 0) u31 = 6) <| mm_cl (fX5_lawOf u31 a v27 ((mm_i (mm_setI hx' (B + 5) 1 0) B 11)) (mm_setI hx' (B + 5) 1 0)) fun v33 g34 => mm_rf (mm_r (mm_setI hx' (B + 5) 1 0) u29 0) fun u36 => mm_ck (mm_kd g34 u36 = 0) <| mm_rf v33 fun u38 => mm_cl (fJx4a65c_add_9ea2d u36 u38 g34) fun v39 g40 => mm_ck (mm_kd g40 B = 12) <| mm_rf (mm_r g40 B 5) fun u43 => mm_ck (mm_kd g40 u43 = 3) <| mm_rf (mm_r g40 u43 0) fun u45 => mm_ck (mm_kd g40 u45 = 0) <| mm_cl (fJx4a65c_size_8abf5 u45 g40) fun v47 g48 => some ((v47 - (1 : Int32)), g48)) (fun (q28 : Int32 → Option (Int32 × mm_H)) => if ¬ a = 0 then (if ¬ a = (1 : Int32) then (q28 (-1 : Int32)) else (q28 b)) else (q28 ((mm_i (mm_setI hx' (B + 5) 1 0) B 11))))) else (some (((-2 : Int32) - v19), mm_setI hx' (B + 5) 1 0))) = X → fX11_law B a b hx = X := fun hx' v19 h1 h2 X hX => by
    rw [← hX]
    unfold fX11_law
    rw [q_ck (sk0 S), sr0_5 S, p_rf, q_ck (sk13 S), sr13_0 S, p_rf, q_ck (sk14 S), hsz, p_cl, if_neg n30x, w1, p_cl, if_pos ca, if_pos (show ¬ (1 : Int32) = 0 by decide)]
    refine (jn_eq hx hqx).trans ?_
    rw [q_ck (sk0 S), sr0_4 S, p_rf, q_ck (sk5 S), h1, p_cl, q_ck (sk0 h2), sr0_4 h2, p_rf, q_ck (sk5 h2), p_lt]
  rcases jt with ⟨hx', hy', g, t1, t2, t3, t4, ⟨⟨m, i, c, X'⟩, ⟨o2, o3⟩, o4, o5, o6, o7, o8, o9, o10⟩⟩ | ⟨hx', hy', f, t1, t2, t3, t4, t5, t6, t7⟩
  · obtain ⟨m1, m2, m3, m4, m5, m6⟩ := Rm hx' hy' t3 t4
    have Sx' := t3.S S
    have Sy' := (xy5.tr t4).S S'
    obtain ⟨x2, ex2⟩ : ∃ g, g = mm_setI hx' (B + 5) 1 0 := ⟨_, rfl⟩
    have S2 : mS B x2 := by rw [ex2]; exact Sx'
    have n11 : mm_i x2 B 11 = mm_i hx B 11 := by
      rw [ex2, i_I, if_neg (fun z => by omega)]
      exact t3.i (by omega) (by unfold wC; omega)
    obtain ⟨f1, -⟩ := refer hy' t2 Sy' m5 m4
    obtain ⟨hy2, ehy2⟩ : ∃ g, g = mm_setI (mm_setI (mm_setI (mm_setI (mm_setI hy' (B + 66) 17 0) (B + 80) n a) (B + 82) n (mm_i hx B 11)) (B + 81) n bi) (B + 66) 23 (nI (n + 1)) := ⟨_, rfl⟩
    rw [← ex2] at m1 m2
    have k2 : ∀ x k, ¬ (x = B + 5 ∧ k = 1) → mm_i x2 x k = mm_i hx' x k := fun x k h => by rw [ex2, i_I, if_neg h]
    have v2 : ∀ x k, ¬ (x = B + 66 ∧ k = 17) → mm_i (mm_setI hy' (B + 66) 17 0) x k = mm_i hy' x k := fun x k h => by rw [i_I, if_neg h]
    obtain ⟨hx2, ow2, p1, p2, p3, p4, p5, p6⟩ := J_newLaw S2 m1 hn (by rw [k2 _ _ (by omega)]; exact o2) o3 o10 (by rw [k2 _ _ (by omega)]; exact X'.2.2.2.1) (cdx_cg (fun k _ => k2 _ _ (by omega)) X'.2.2.2.2.1) (cdy_cg (fun k _ => ⟨v2 _ _ (by omega), v2 _ _ (by omega)⟩) o6) (clD_cg (fun k _ => ⟨⟨k2 _ _ (by omega), k2 _ _ (by omega)⟩, v2 _ _ (by omega), v2 _ _ (by omega), v2 _ _ (by omega)⟩) o8) o9 (by rw [k2 _ _ (by omega)]; exact m6) (by rw [v2 _ _ (by omega)]; exact o7) (a := a) (b := bi) (c := mm_i hx B 11) ca hbi2 ehy2
    have Sx2 := p3.S S2
    have hsz2 := x_size (sk14 Sx2) p5.2.1
    refine ⟨nI n, hx2, hy2, ow2, n + 1, _, _, _, _, classer hx' 0 t1 Sx' _ ?_, by rw [ehy2]; exact f1 o4, (wM_le m2 (by decide)).tr (wM_le p3 (by decide)), fun o => ?_, mO.tr mO.rf m2 p4, p5, ⟨0, Nat.zero_le _, ?_, ?_, fun k hk => absurd hk (Nat.not_lt_zero _)⟩, p6⟩
    · rw [if_pos rfl, ← ex2]
      refine (jn_eq bi (fun q => ?_)).trans ?_
      · rw [hbi, n11]
        by_cases e : a = 0
        · rw [if_neg (not_not_intro e), if_pos e]
        · rw [if_pos e, if_neg e]
          by_cases e2 : a = 1
          · rw [if_neg (not_not_intro e2), if_pos e2]
          · rw [if_pos e2, if_neg e2]
      · rw [sr0_5 S2, p_rf, q_ck (sk13 S2), sr0_4 S2, p_rf, q_ck (sk5 S2), n11, x_lawOf S2 (by rw [k2 _ _ (by omega)]; exact o2) o3 (by rw [k2 _ _ (by omega)]; exact X'.2.2.2.1) o10, p_cl, sr13_0 S2, p_rf, q_ck p2, p_rf, p1, p_cl, q_ck (sk0 Sx2), sr0_5 Sx2, p_rf, q_ck (sk13 Sx2), sr13_0 Sx2, p_rf, q_ck (sk14 Sx2), hsz2, p_cl, nI_pred]
    · rw [ehy2]
      exact (((((wM_le (m3 o) (by decide)).IF (j := 80) (m := 108) (by omega) rfl (by decide)).IF (j := 82) (m := 108) (by omega) rfl (by decide)).IF (j := 81) (m := 131) (by omega) rfl (by decide)).IF (j := 66) (m := 108) (by omega) rfl (by decide))
    · rw [p3.iF (j := 5) (m := 9) (by omega) rfl (by decide), ex2, i_I_eq, nI_0]
    · rw [ehy2, i_I, if_neg (fun z => by omega), i_I_ne (by omega), i_I_ne (by omega), i_I_ne (by omega), i_I_eq, nI_0]
  · obtain ⟨m1, m2, m3, m4, m5, m6⟩ := Rm hx' hy' t3 t4
    have Sx' := t3.S S
    have Sy' := (xy5.tr t4).S S'
    obtain ⟨-, f1⟩ := refer hy' t2 Sy' m5 m4
    refine ⟨-2 - nI f, mm_setI hx' (B + 5) 1 0, mm_setI (mm_setI hy' (B + 66) 17 0) (B + 83) n 0, ow, n, V, Z, G, E, classer hx' (nI f) t1 Sx' _ ?_, f1 f t5 t6 t7, wM_le m2 (by decide), fun o => (wM_le (m3 o) (by decide)).IF (j := 83) (m := 108) (by omega) rfl (by decide), mO.rf, m1.up3 (mX.rf (W := wM B ow [0]) Sx'.1) ((mX.rf (W := wQy B n) (h := mm_setI hy' (B + 66) 17 0) Sy'.1).I (a := B + 83) (k := n) (Or.inl (by unfold wQy; omega))), ⟨0, Nat.zero_le _, ?_, ?_, fun k hk => absurd hk (Nat.not_lt_zero _)⟩, ?_⟩
    · rw [if_neg (show ¬ nI f = (0 : Int32) from fun z => t5 ((nI_eq (b := 0) (by omega) (by omega)).mp z))]
    · rw [i_I_eq, nI_0]
    · rw [i_I_ne (by omega), i_I_eq, nI_0]
    · rw [i_I_ne (by omega)]; exact m6
end KZ
