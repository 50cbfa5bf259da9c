/-! the verdict: rank by rank, clause by clause -/
section DC
variable {B : Nat} {h hx hy hx' hy' : mm_H} {ow ow' : Nat → Nat × Nat} {n d nm nl nb nw a : Nat} {V Z G E : Nat → Nat → Nat}
theorem RLw.sx (R : RLw B ow hx hy n V Z G E) (x : mX B (wSx B) hx hx') (y : mX B (wSy B) hy hy') : RLw B ow hx' hy' n V Z G E := R.up (wSx_0 (ms := [0]) x (by simp) ow) mO.rf (wSy_0 (ms := [100]) y (by simp) ow) (by decide) (by decide)
theorem J_first_L {b9 : Int32} (R0 : RLw B ow hx hy n V Z G E) {k : Nat} (hk : k < n) : ∀ (e c : Nat) (hx1 hy1 : mm_H) (f f' : Nat), c + e = Z 0 k → e < f → e < f' → mS B hx1 → mS B hy1 → mX B (wSx B) hx hx1 → mX B (wSy B) hy hy1 → evF B hx1 hy1 → ∃ hx2 hy2, mX B (wSx B) hx hx2 ∧ mX B (wSy B) hy hy2 ∧ evF B hx2 hy2 ∧ (((∀ K, fX4_firstTrue_L2 (V 0 k) (B + 15) (B + 16) K f (nI c) hx1 = K hx2) ∧ ∀ K, fX12_weighs_L275 (B + 66) b9 (nI k) K f' (nI c) hy1 = K hy2) ∨ ∃ c', c' < Z 0 k ∧ (∀ K, fX4_firstTrue_L2 (V 0 k) (B + 15) (B + 16) K f (nI c) hx1 = some (nI c', hx2)) ∧ ∀ K, fX12_weighs_L275 (B + 66) b9 (nI k) K f' (nI c) hy1 = some (mm_i hx (V 1 k) c', mm_setI (mm_setI hy2 (B + 66) 59 (nI k)) (B + 66) 60 (nI c'))) := by
  intro e
  induction e with
  | zero =>
    intro c hx1 hy1 f f' hc hf hf' S S' x y F
    obtain ⟨g, rfl⟩ : ∃ g, f = g + 1 := ⟨f - 1, by omega⟩
    obtain ⟨g', rfl⟩ : ∃ g, f' = g + 1 := ⟨f' - 1, by omega⟩
    have R := R0.sx x y
    obtain ⟨m1, m2, m3, ⟨m4, m4', m4''⟩, m5, m6, m7⟩ := (R.2.2.2 k hk).1
    obtain ⟨⟨r1, r2, r3⟩, -, ⟨k1, k2, k3⟩, n1, n2, n3⟩ := (R.2.2.2 k hk).2
    have kd := (R.2.1.2.2.2 k hk).2
    have n9 := R.1
    have hle : nI (Z 0 k) ≤ nI c := nI_le (by omega) (by omega)
    have hne : ¬ nI k = -1 := nI_neg1 (by omega)
    have hqk := fun (β : Type) (z : Option β) => q_ckx (show k < 30 by omega) (by omega) z
    have hck := nI_clamp (n := k) (by omega)
    refine ⟨hx1, hy1, x, y, F, Or.inl ⟨fun K => ?_, fun K => ?_⟩⟩
    · show fX4_firstTrue_L2_b _ _ _ _ _ _ _ = _
      unfold fX4_firstTrue_L2_b
      rw [q_ck kd, r1, q_rf, q_ck k1, n1, if_pos hle]
    · show fX12_weighs_L275_b _ _ _ _ _ _ _ = _
      unfold fX12_weighs_L275_b
      rw [if_neg hne, q_ck (sk66 S'), sr66_27 S', q_rf, q_ck (sk83 S'), sn83 S', hqk, hck, m4, if_pos hle]
  | succ e ih =>
    intro c hx1 hy1 f f' hc hf hf' S S' x y F
    obtain ⟨g, rfl⟩ : ∃ g, f = g + 1 := ⟨f - 1, by omega⟩
    obtain ⟨g', rfl⟩ : ∃ g, f' = g + 1 := ⟨f' - 1, by omega⟩
    have R := R0.sx x y
    obtain ⟨m1, m2, m3, ⟨m4, m4', m4''⟩, m5, m6, m7⟩ := (R.2.2.2 k hk).1
    obtain ⟨⟨r1, r2, r3⟩, ⟨l1, l2, l3⟩, ⟨k1, k2, k3⟩, n1, n2, n3⟩ := (R.2.2.2 k hk).2
    have kd := (R.2.1.2.2.2 k hk).2
    have n9 := R.1
    have hlt : ¬ nI (Z 0 k) ≤ nI c := nI_ge (by omega) (by omega)
    have hlt2 : ¬ nI (Z 0 k + 1) ≤ nI (c + 1) := nI_ge (by omega) (by omega)
    have hne : ¬ nI k = -1 := nI_neg1 (by omega)
    have hqk := fun (β : Type) (z : Option β) => q_ckx (show k < 30 by omega) (by omega) z
    have hck := nI_clamp (n := k) (by omega)
    have q10 : (10 : Int32) * nI k + nI c = nI (10 * k + c) := by
      rw [show (10 : Int32) = nI 10 by decide +kernel, nI_mul, nI_add]
    obtain ⟨r, hx2, hy2, p1, p2, p3, p4, p5⟩ := J_isTrue S S' R F hk (c := c) (by omega)
    have S2 := p4.S S
    have S2' := p5.S S'
    have gX : ∀ K, fX4_firstTrue_L2 (V 0 k) (B + 15) (B + 16) K (g + 1) (nI c) hx1 = if r = 0 then fX4_firstTrue_L2 (V 0 k) (B + 15) (B + 16) K g (nI (c + 1)) hx2 else some (nI c, hx2) := fun K => by
      show fX4_firstTrue_L2_b _ _ _ _ _ _ _ = _
      unfold fX4_firstTrue_L2_b
      rw [q_ck kd, r1, q_rf, q_ck k1, n1, if_neg hlt, r2, q_rf, q_ck k2, n2, nI_1, if_neg hlt2, p2, q_cl, q_lt]
    rcases p1 with rfl | rfl
    · obtain ⟨hx3, hy3, u1, u2, u3, u4⟩ := ih (c + 1) hx2 hy2 g g' (by omega) (by omega) (by omega) S2 S2' (x.tr p4) (y.tr p5) (F.up p4 p5)
      have gY : ∀ K, fX12_weighs_L275 (B + 66) b9 (nI k) K (g' + 1) (nI c) hy1 = fX12_weighs_L275 (B + 66) b9 (nI k) K g' (nI (c + 1)) hy2 := fun K => by
        show fX12_weighs_L275_b _ _ _ _ _ _ _ = _
        unfold fX12_weighs_L275_b
        rw [if_neg hne, q_ck (sk66 S'), sr66_27 S', q_rf, q_ck (sk83 S'), sn83 S', hqk, hck, m4, if_neg hlt, q10, p3, q_cl, if_pos rfl, q_lt, nI_1]
      refine ⟨hx3, hy3, u1, u2, u3, ?_⟩
      simp only [gX, gY, if_true]
      exact u4
    · have hq10 := fun (β : Type) (z : Option β) => q_ckx (show 10 * k + c < 300 by omega) (by omega) z
      have hc10 := nI_clamp (n := 10 * k + c) (by omega)
      have hw : mm_i hy2 (B + 84) (10 * k + c) = mm_i hx (V 1 k) c := by
        rw [(wSy_0 (ms := [100]) p5 (by simp) ow).iF (m := 108) (by omega) rfl (by decide), (m6 c (by omega)).1, x.i (R0.2.2.2 k hk).2.2.1.1.2.1 (fun z => by have := (R0.2.2.2 k hk).2.2.1.1.1; have : V 1 k = B + 16 := z; omega)]
      have gY : ∀ K, fX12_weighs_L275 (B + 66) b9 (nI k) K (g' + 1) (nI c) hy1 = some (mm_i hx (V 1 k) c, mm_setI (mm_setI hy2 (B + 66) 59 (nI k)) (B + 66) 60 (nI c)) := fun K => by
        show fX12_weighs_L275_b _ _ _ _ _ _ _ = _
        unfold fX12_weighs_L275_b
        rw [if_neg hne, q_ck (sk66 S'), sr66_27 S', q_rf, q_ck (sk83 S'), sn83 S', hqk, hck, m4, if_neg hlt, q10, p3, q_cl, if_neg (by decide), q_ck (sk66 S2'), q_lt, q_lt, r_I, r_I, sr66_28 S2', q_rf, kd_I, kd_I, q_ck (sk84 S2'), n_I, n_I, sn84 S2', hq10, hc10, i_I_ne (by omega), i_I_ne (by omega), hw]
      refine ⟨hx2, hy2, x.tr p4, y.tr p5, F.up p4 p5, Or.inr ⟨c, by omega, fun K => ?_, gY⟩⟩
      rw [gX, if_neg (by decide)]
theorem J_decide_L {now : Int32} (S0 : mS B hx) (S0' : mS B hy) (R0 : RLw B ow hx hy n V Z G E) : ∀ (e : Nat) (hx1 hy1 : mm_H) (f f' : Nat), e ≤ 3 → e < f → e < f' → mS B hx1 → mS B hy1 → mX B (wSx B) hx hx1 → mX B (wSy B) hy hy1 → evF B hx1 hy1 → mm_i hy1 (B + 66) 1 = now → ∃ hx2 hy2, mX B (wSx B) hx hx2 ∧ mX B (wSy B) hy hy2 ∧ (((∀ K, fX2_decide_L2 (B + 13) now K f (nI e - 1) hx1 = K hx2) ∧ ∀ K, fX12_weighs_L255 (B + 66) K f' (nI e - 1) hy1 = K hy2) ∨ ∃ k c w, (∀ K, fX2_decide_L2 (B + 13) now K f (nI e - 1) hx1 = some (w, mm_setI (mm_setI hx2 (B + 13) 3 (nI k)) (B + 13) 4 (nI c))) ∧ ∀ K, fX12_weighs_L255 (B + 66) K f' (nI e - 1) hy1 = some (w, mm_setI (mm_setI hy2 (B + 66) 59 (nI k)) (B + 66) 60 (nI c))) := by
  intro e
  induction e with
  | zero =>
    intro hx1 hy1 f f' he hf hf' S S' x y F hn
    obtain ⟨g, rfl⟩ : ∃ g, f = g + 1 := ⟨f - 1, by omega⟩
    obtain ⟨g', rfl⟩ : ∃ g, f' = g + 1 := ⟨f' - 1, by omega⟩
    have h0 : nI 0 - 1 < 0 := by decide +kernel
    refine ⟨hx1, hy1, x, y, Or.inl ⟨fun K => ?_, fun K => ?_⟩⟩
    · show fX2_decide_L2_b _ _ _ _ _ _ = _
      unfold fX2_decide_L2_b
      rw [if_pos h0]
    · show fX12_weighs_L255_b _ _ _ _ _ = _
      unfold fX12_weighs_L255_b
      rw [if_pos h0]
  | succ e ih =>
    intro hx1 hy1 f f' he hf hf' S S' x y F hn
    obtain ⟨g, rfl⟩ : ∃ g, f = g + 1 := ⟨f - 1, by omega⟩
    obtain ⟨g', rfl⟩ : ∃ g, f' = g + 1 := ⟨f' - 1, by omega⟩
    have R := R0.sx x y
    have n9 := R.1
    have h0 : ¬ nI e < 0 := nI_pos (by omega)
    rw [nI_pred]
    have fx := x_inForce S R (nI e) now
    have fy := y_inForce S' R (nI e) now
    obtain ⟨lx1, lx2⟩ := x_lawAt S R.2.1
    have eM : nI e + -1 = nI e - 1 := nI_m1 e
    have hspec := ifF_spec (hx := hx1) V (nI e) now n 0 (-1) (-1) (Or.inl rfl)
    rcases hspec with hs | ⟨k, hk, hs, -⟩
    · have hno : ¬ ∃ k, k < n ∧ (-1 : Int32) = nI k := fun ⟨k, k1, k2⟩ => nI_neg1 (show k < 2 ^ 31 by omega) k2.symm
      have la := lx2 (-1) hno
      rw [hs] at fx fy
      obtain ⟨hx3, hy3, u1, u2, u3⟩ := ih hx1 hy1 g g' (by omega) (by omega) (by omega) S S' x y F hn
      have hX : ∀ K, fX2_decide_L2 (B + 13) now K (g + 1) (nI e) hx1 = fX2_decide_L2 (B + 13) now K g (nI e - 1) hx1 := fun K => by
        show fX2_decide_L2_b _ _ _ _ _ _ = _
        unfold fX2_decide_L2_b
        rw [if_neg h0, q_ck (sk13 S), fx, q_cl, q_ck (sk13 S), la, q_cl]
        simp only [q_jn, q_lt, eM, not_true, if_true, if_false]
      have hY : ∀ K, fX12_weighs_L255 (B + 66) K (g' + 1) (nI e) hy1 = fX12_weighs_L255 (B + 66) K g' (nI e - 1) hy1 := fun K => by
        show fX12_weighs_L255_b _ _ _ _ _ = _
        unfold fX12_weighs_L255_b
        rw [if_neg h0, q_ck (sk66 S'), hn, fy, q_cl]
        rw [show mm_F = 5999 + 1 from rfl]
        show fX12_weighs_L275_b _ _ _ _ _ _ _ = _
        unfold fX12_weighs_L275_b
        rw [if_pos rfl]
        show (mm_lt (nI e + -1) fun v136 => fX12_weighs_L255 (B + 66) K g' v136 hy1) = _
        rw [q_lt, eM]
      refine ⟨hx3, hy3, u1, u2, ?_⟩
      simp only [hX, hY]
      exact u3
    · have hk' : k < n := by omega
      rw [hs] at fx fy
      have la := lx1 k hk'
      have kd := (R.2.1.2.2.2 k hk').2
      obtain ⟨m1, m2, m3, ⟨m4, m4', m4''⟩, m5, m6, m7⟩ := (R.2.2.2 k hk').1
      obtain ⟨⟨r1, r2, r3⟩, ⟨l1, l2, l3⟩, ⟨k1, k2, k3⟩, n1, n2, n3⟩ := (R.2.2.2 k hk').2
      obtain ⟨hx2, hy2, v1, v2, v3, v4⟩ := J_first_L (b9 := nI e) R0 hk' (Z 0 k) 0 hx1 hy1 mm_F mm_F (by omega) (by unfold mm_F; omega) (by unfold mm_F; omega) S S' x y F
      rw [nI_0] at v4
      have hne1 : ¬ (some (V 0 k) = none) := fun z => by cases z
      have Sx2 := v1.S S0
      have Sy2 := v2.S S0'
      have hnb : mm_i hy (B + 66) 1 = now := by rw [← (wSy_0 (ms := [100]) y (by simp) ow).iF (m := 101) (by omega) rfl (by decide)]; exact hn
      have hn2 : mm_i hy2 (B + 66) 1 = now := by rw [(wSy_0 (ms := [100]) v2 (by simp) ow).iF (m := 101) (by omega) rfl (by decide)]; exact hnb
      have hX : ∀ K r, fX4_firstTrue (V 0 k) (B + 15) (B + 16) hx1 = some (r, hx2) → fX2_decide_L2 (B + 13) now K (g + 1) (nI e) hx1 = if r = -1 then fX2_decide_L2 (B + 13) now K g (nI e - 1) hx2 else mm_ck (mm_kd hx2 (B + 13) = 3) (mm_ck (mm_kd hx2 (V 0 k) = 5) (mm_rf (mm_r hx2 (V 0 k) 3) fun u22 => mm_ck (mm_kd hx2 u22 = 14) (mm_ck (mm_ix r (mm_n hx2 u22)) (some (mm_i (mm_setI (mm_setI hx2 (B + 13) 3 (nI k)) (B + 13) 4 r) u22 r.toNatClampNeg, mm_setI (mm_setI hx2 (B + 13) 3 (nI k)) (B + 13) 4 r))))) := fun K r hr => by
        show fX2_decide_L2_b _ _ _ _ _ _ = _
        unfold fX2_decide_L2_b
        rw [if_neg h0, q_ck (sk13 S), fx, q_cl, q_ck (sk13 S), la, q_cl]
        simp only [p_jn, p_lt, p_rf, q_ck, sk13 S, sr13_1 S, sr13_2 S, kd, hr, p_cl, hne1, eM, not_false_iff, if_true, if_false, kd_I, r_I, n_I]
        rfl
      have hY : ∀ K, fX12_weighs_L255 (B + 66) K (g' + 1) (nI e) hy1 = fX12_weighs_L275 (B + 66) (nI e) (nI k) (fun g135 => fX12_weighs_L255 (B + 66) K g' (nI e - 1) g135) mm_F 0 hy1 := fun K => by
        show fX12_weighs_L255_b _ _ _ _ _ = _
        unfold fX12_weighs_L255_b
        rw [if_neg h0, q_ck (sk66 S'), hn, fy, q_cl]
        simp only [p_lt, eM]
      rcases v4 with ⟨w1, w2⟩ | ⟨c', c1, w1, w2⟩
      · have hft : fX4_firstTrue (V 0 k) (B + 15) (B + 16) hx1 = some (-1, hx2) := by unfold fX4_firstTrue; rw [w1]
        obtain ⟨hx3, hy3, u1, u2, u3⟩ := ih hx2 hy2 g g' (by omega) (by omega) (by omega) Sx2 Sy2 v1 v2 v3 hn2
        refine ⟨hx3, hy3, u1, u2, ?_⟩
        have eX : ∀ K, fX2_decide_L2 (B + 13) now K (g + 1) (nI e) hx1 = fX2_decide_L2 (B + 13) now K g (nI e - 1) hx2 := fun K => by rw [hX K (-1) hft, if_pos rfl]
        have eY : ∀ K, fX12_weighs_L255 (B + 66) K (g' + 1) (nI e) hy1 = fX12_weighs_L255 (B + 66) K g' (nI e - 1) hy2 := fun K => by rw [hY, w2]
        simp only [eX, eY]
        exact u3
      · have hft : fX4_firstTrue (V 0 k) (B + 15) (B + 16) hx1 = some (nI c', hx2) := by unfold fX4_firstTrue; rw [w1]
        have R2 := R0.sx v1 v2
        obtain ⟨⟨r1', r2', r3'⟩, ⟨l1', l2', l3'⟩, ⟨k1', k2', k3'⟩, n1', n2', n3'⟩ := (R2.2.2.2 k hk').2
        have kd' := (R2.2.1.2.2.2 k hk').2
        have hqc := fun (β : Type) (z : Option β) => q_ckx c1 (by omega) z
        have hcc := nI_clamp (n := c') (by omega)
        have hv : mm_i hx2 (V 1 k) c' = mm_i hx (V 1 k) c' := v1.i (R0.2.2.2 k hk').2.2.1.1.2.1 (fun z => by have := (R0.2.2.2 k hk').2.2.1.1.1; have : V 1 k = B + 16 := z; omega)
        refine ⟨hx2, hy2, v1, v2, Or.inr ⟨k, c', mm_i hx (V 1 k) c', fun K => ?_, fun K => ?_⟩⟩
        · rw [hX K (nI c') hft, if_neg (nI_neg1 (by omega)), q_ck (sk13 Sx2), q_ck kd', r1', q_rf, q_ck k1', n1', hqc, hcc, i_I_ne (by have := l1'.1; omega), i_I_ne (by have := l1'.1; omega), hv]
        · rw [hY, w2]
theorem J_decide {now : Int32} (S : mS B hx) (S' : mS B hy) (R : RLw B ow hx hy n V Z G E) (F : evF B hx hy) (hn : mm_i hy (B + 66) 1 = now) (t1 : mm_i hy (B + 66) 59 = -1) (t2 : mm_i hy (B + 66) 60 = -1) : ∃ r hx' hy', fX2_decide (B + 13) now hx = some (r, hx') ∧ fX12_weighs_L255 (B + 66) (fun g137 => some ((0 : Int32), g137)) mm_F 2 hy = some (r, hy') ∧ (∀ o : Nat → Nat × Nat, mY B o [0, 10] hx hx') ∧ (∀ o : Nat → Nat × Nat, mY B o [100, 110] hy hy') ∧ RTo B hx' hy' := by
  obtain ⟨hx2, hy2, u1, u2, u3⟩ := J_decide_L (now := now) S S' R 3 hx hy mm_F mm_F (by omega) (by unfold mm_F; omega) (by unfold mm_F; omega) S S' (mX.rf S.1) (mX.rf S'.1) F hn
  have e3 : nI 3 - 1 = 2 := by decide +kernel
  rw [e3] at u3
  have Sx2 := u1.S S
  have Sy2 := u2.S S'
  have fx : ∀ (o : Nat → Nat × Nat) (v w : Int32), mY B o [0, 10] hx (mm_setI (mm_setI hx2 (B + 13) 3 v) (B + 13) 4 w) := fun o v w => ((wSx_0 (ms := [0, 10]) u1 (by simp) o).IF (m := 10) (by omega) rfl (by decide)).IF (m := 10) (by omega) rfl (by decide)
  have fy : ∀ (o : Nat → Nat × Nat) (v w : Int32), mY B o [100, 110] hy (mm_setI (mm_setI hy2 (B + 66) 59 v) (B + 66) 60 w) := fun o v w => ((wSy_0 (ms := [100, 110]) u2 (by simp) o).IF (m := 110) (by omega) rfl (by decide)).IF (m := 110) (by omega) rfl (by decide)
  rcases u3 with ⟨w1, w2⟩ | ⟨k, c, w, w1, w2⟩
  · refine ⟨0, mm_setI (mm_setI hx2 (B + 13) 3 (-1)) (B + 13) 4 (-1), hy2, ?_, w2 _, fun o => fx o _ _, fun o => wSy_0 (ms := [100, 110]) u2 (by simp) o, ?_, ?_⟩
    · unfold fX2_decide
      rw [w1, q_ck (sk13 Sx2), q_lt, q_lt]
    · rw [(wSy_0 (ms := [100]) u2 (by simp) ow).iF (m := 110) (by omega) rfl (by decide), t1]
      simp only [i_I, q_10, q_01, eq_self, i_I, Nat.reduceEqDiff, Nat.add_left_cancel_iff, Nat.add_eq_left, Nat.left_eq_add, and_false, false_and, and_true, true_and, if_true, if_false, and_self, not_true, not_false_iff, reduceCtorEq]
    · rw [(wSy_0 (ms := [100]) u2 (by simp) ow).iF (m := 110) (by omega) rfl (by decide), t2]
      simp only [i_I, q_10, q_01, eq_self, i_I, Nat.reduceEqDiff, Nat.add_left_cancel_iff, Nat.add_eq_left, Nat.left_eq_add, and_false, false_and, and_true, true_and, if_true, if_false, and_self, not_true, not_false_iff, reduceCtorEq]
  · refine ⟨w, _, _, ?_, w2 _, fun o => fx o (nI k) (nI c), fun o => fy o (nI k) (nI c), ?_, ?_⟩
    · unfold fX2_decide
      rw [w1]
    · simp only [i_I, q_10, q_01, eq_self, i_I, Nat.reduceEqDiff, Nat.add_left_cancel_iff, Nat.add_eq_left, Nat.left_eq_add, and_false, false_and, and_true, true_and, if_true, if_false, and_self, not_true, not_false_iff, reduceCtorEq]
    · simp only [i_I, q_10, q_01, eq_self, i_I, Nat.reduceEqDiff, Nat.add_left_cancel_iff, Nat.add_eq_left, Nat.left_eq_add, and_false, false_and, and_true, true_and, if_true, if_false, and_self, not_true, not_false_iff, reduceCtorEq]
end DC
