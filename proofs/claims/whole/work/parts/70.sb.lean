/-! sail, on -/
section SB2
variable {B : Nat} {h hx hy hx' hy' : mm_H} {ow ow' : Nat → Nat × Nat} {n nm nl nb : Nat} {am al : Nat → Nat} {P C : Nat → Nat} {A U U' : Nat → Nat → Nat} {T : Nat → Int32} {x : Nat}
theorem anyF_sh {t d r r' : Int32} {g : mm_H} (h1 : ∀ k, k < 20 → mm_i g (B + 36) k ≤ r) (h2 : ∀ k, k < 20 → mm_i g (B + 36) k ≤ r') {m : Nat} (hm : m ≤ 20) : anyF (xShut g B t d r) m 0 = anyF (xShut g B t d r') m 0 := by
  refine anyF_congr fun j _ hj => ?_
  unfold xShut
  simp only [h1 j (by omega), h2 j (by omega)]
theorem RSl.bit (R : RSl B hx hy nm am) (L : mL B ow hx (B + 1) 0 8 nm am) {m s : Nat} (hm : m < nm) (hs : s < 20) (hn : nm ≤ 40) : RSl B (mm_setI hx (am m) 6 (mm_i hx (am m) 6 ||| ((1 : Int32) <<< (nI s &&& 31)))) (mm_setI hy (B + 126) (40 * s + m) 1) nm am := by
  obtain ⟨R1, R2⟩ := R
  refine ⟨fun k hk => ?_, fun k hk hk2 => ⟨?_, fun t ht => ?_⟩⟩
  · obtain ⟨q1, q2⟩ := R1 k hk
    refine ⟨by rw [i_I_ne (by omega), i_I, if_neg (fun z => by omega)]; exact q1, fun t ht => ?_⟩
    by_cases e : k = m
    · subst e
      rw [i_I_at, i_I_eq, bitI_or _ hs ht]
      by_cases e2 : t = s
      · subst e2; rw [if_pos rfl, if_pos rfl]
      · rw [if_neg (by omega), if_neg e2]; exact q2 t ht
    · rw [i_I_at, i_I_ne (am_ne L hk hm e), if_neg (by omega)]; exact q2 t ht
  · rw [i_I_ne (by omega)]; exact (R2 k hk hk2).1
  · rw [i_I_at, if_neg (by omega)]; exact (R2 k hk hk2).2 t ht
theorem RSl.brk {ho : mm_H} {ms : List Nat} (R : RSl B hx hy nm am) (L : mL B ow ho (B + 1) 0 8 nm am) (x : mY B ow ms ho hx) {m : Nat} {v : Int32} (hm : m < nm) : RSl B (mm_setI hx (am m) 5 v) (mm_setI hy (B + 71) m v) nm am := by
  obtain ⟨R1, R2⟩ := R
  refine ⟨fun k hk => ?_, fun k hk hk2 => ⟨?_, fun t ht => ?_⟩⟩
  · obtain ⟨q1, q2⟩ := R1 k hk
    refine ⟨?_, fun t ht => by rw [i_I_ne (by omega), i_I, if_neg (fun z => by omega)]; exact q2 t ht⟩
    by_cases e : k = m
    · subst e
      rw [i_I_eq, i_I_eq]
    · rw [i_I_at, i_I_ne (am_ne L hk hm e), if_neg e]; exact q1
  · rw [i_I_at, if_neg (by omega)]; exact (R2 k hk hk2).1
  · rw [i_I_ne (by omega)]; exact (R2 k hk hk2).2 t ht
theorem T_sail (S : mS B h) (N : RNow B h) (M : RMn B ow h h nm am) (Q : RSl B h h nm am) (Z : RSh B h) (R : RPo B h) (D : RRd B h) (a b : Int32) : ∃ r h1 h2, fX11_sail B a b h = some (r, h1) ∧ fX12_sail (B + 66) a b h1 = some (r, h2) ∧ mY B ow [5, 105] h h2 ∧ RSl B h2 h2 nm am := by
  obtain ⟨M1, M2, M3, M4⟩ := id M
  obtain ⟨N1, N2, N3⟩ := N
  have hB := S.1
  have same : mY B ow [5, 105] h h := mX.rf hB
  obtain ⟨z, z1, z2, z3, z4⟩ := Z
  obtain ⟨p, p1, p2, p3, p4⟩ := id R
  obtain ⟨f1, f2⟩ := x_manThere S M2 (a := a)
  have G := y_isThere S M N3 (a := a)
  unfold fX11_sail fX12_sail
  by_cases c1 : isTh h nm am a
  case neg => exact ⟨-1, h, h, by simp only [q_rf, q_lt, q_cl, q_jn, q_b, q_b1, q_ck, kd_I, kd_J, kd_R, n_I, n_J, n_R, r_I, r_J, c_I, c_J, c_R, i_J, i_R, j_I, j_R, y_in, y_isDay, x_within, x_isDay, x_isTown, sk0 S, f2 c1, q_10, q_01, eq_self, i_I, Nat.reduceEqDiff, Nat.add_left_cancel_iff, Nat.add_eq_left, Nat.left_eq_add, and_false, false_and, and_true, true_and, if_true, if_false, and_self, not_true, not_false_iff, reduceCtorEq], by simp only [q_rf, q_lt, q_cl, q_jn, q_b, q_b1, q_ck, kd_I, kd_J, kd_R, n_I, n_J, n_R, r_I, r_J, c_I, c_J, c_R, i_J, i_R, j_I, j_R, y_in, y_isDay, x_within, x_isDay, x_isTown, sk66 S, G.2 c1, q_10, q_01, eq_self, i_I, Nat.reduceEqDiff, Nat.add_left_cancel_iff, Nat.add_eq_left, Nat.left_eq_add, and_false, false_and, and_true, true_and, if_true, if_false, and_self, not_true, not_false_iff, reduceCtorEq], same, Q⟩
  have pre := q_pre (a := b) (n := z) (by omega)
  by_cases c2 : b < 0
  case pos => exact ⟨-1, h, h, by simp only [q_rf, q_lt, q_cl, q_jn, q_b, q_b1, q_ck, kd_I, kd_J, kd_R, n_I, n_J, n_R, r_I, r_J, c_I, c_J, c_R, i_J, i_R, j_I, j_R, y_in, y_isDay, x_within, x_isDay, x_isTown, sk0 S, f1 c1, c2, reduceCtorEq, q_10, q_01, eq_self, i_I, Nat.reduceEqDiff, Nat.add_left_cancel_iff, Nat.add_eq_left, Nat.left_eq_add, and_false, false_and, and_true, true_and, if_true, if_false, and_self, not_true, not_false_iff, reduceCtorEq], by simp only [q_rf, q_lt, q_cl, q_jn, q_b, q_b1, q_ck, kd_I, kd_J, kd_R, n_I, n_J, n_R, r_I, r_J, c_I, c_J, c_R, i_J, i_R, j_I, j_R, y_in, y_isDay, x_within, x_isDay, x_isTown, sk66 S, G.1 c1, z3, pre, c2, q_10, q_01, eq_self, i_I, Nat.reduceEqDiff, Nat.add_left_cancel_iff, Nat.add_eq_left, Nat.left_eq_add, and_false, false_and, and_true, true_and, if_true, if_false, and_self, not_true, not_false_iff, reduceCtorEq], same, Q⟩
  by_cases c3 : nI z ≤ b
  case pos => exact ⟨-1, h, h, by simp only [q_rf, q_lt, q_cl, q_jn, q_b, q_b1, q_ck, kd_I, kd_J, kd_R, n_I, n_J, n_R, r_I, r_J, c_I, c_J, c_R, i_J, i_R, j_I, j_R, y_in, y_isDay, x_within, x_isDay, x_isTown, sb_xsea S, f1 c1, c2, z2, Int32.not_lt.mpr c3, reduceCtorEq, q_10, q_01, eq_self, i_I, Nat.reduceEqDiff, Nat.add_left_cancel_iff, Nat.add_eq_left, Nat.left_eq_add, and_false, false_and, and_true, true_and, if_true, if_false, and_self, not_true, not_false_iff, reduceCtorEq], by simp only [q_rf, q_lt, q_cl, q_jn, q_b, q_b1, q_ck, kd_I, kd_J, kd_R, n_I, n_J, n_R, r_I, r_J, c_I, c_J, c_R, i_J, i_R, j_I, j_R, y_in, y_isDay, x_within, x_isDay, x_isTown, sk66 S, G.1 c1, z3, pre, c2, c3, q_10, q_01, eq_self, i_I, Nat.reduceEqDiff, Nat.add_left_cancel_iff, Nat.add_eq_left, Nat.left_eq_add, and_false, false_and, and_true, true_and, if_true, if_false, and_self, not_true, not_false_iff, reduceCtorEq], same, Q⟩
  have c3' : b < nI z := Int32.not_le.mp c3
  obtain ⟨s, hs, rfl⟩ := q_rng (by omega) c2 c3
  obtain ⟨m, hm, rfl, hm4⟩ := id c1
  obtain ⟨⟨y1, y2, y3, y4⟩, ⟨y5, y6⟩, ⟨y7, y8⟩, -⟩ := z4 s hs
  have hs20 : s < 20 := by omega
  have hclm := nI_clamp (n := m) (by omega)
  have f1' := f1 c1
  rw [hclm] at f1'
  obtain ⟨Lm, kd8⟩ := M2.2.2.2 m hm
  have hq := fun (β : Type) (z : Option β) => q_ckx hs20 (by decide) z
  have hcl := nI_clamp (n := s) (by omega)
  have hqm := fun (β : Type) (z : Option β) => q_ckx (show m < 40 by omega) (by decide) z
  have q40 : (40 : Int32) * nI s + nI m = nI (40 * s + m) := by
    rw [show (40 : Int32) = nI 40 by decide +kernel, ← nI_add]
    congr 1
    exact (Int32.ofNat_mul 40 s).symm
  have hq4 := fun (β : Type) (z : Option β) => q_ckx (show 40 * s + m < 800 by omega) (by decide) z
  have hcl4 := nI_clamp (n := 40 * s + m) (by omega)
  obtain ⟨Q1, Q2⟩ := id Q
  have hbit := (Q1 m hm).2 s hs20
  have hb9 : (mm_i h (am m) 6 >>> (nI s &&& 31)) &&& 1 = bitI (mm_i h (am m) 6) s := rfl
  by_cases c4 : mm_i h (B + 25) s < mm_i h B 11
  case pos =>
    have c5 : ¬ mm_i h B 11 ≤ mm_i h (B + 25) s := Int32.not_le.mpr c4
    have c6 : mm_i h (B + 25) s < mm_i h (B + 66) 1 := by rw [N1]; exact c4
    refine ⟨-1, h, h, by simp only [q_rf, q_lt, q_cl, q_jn, q_b, q_b1, q_ck, kd_I, kd_J, kd_R, n_I, n_J, n_R, r_I, r_J, c_I, c_J, c_R, i_J, i_R, j_I, j_R, y_in, y_isDay, x_within, x_isDay, x_isTown, sb_xsea S, f1', kd8, c2, z2, c3', hq, hcl, c5, ite_self, reduceCtorEq, q_10, q_01, eq_self, i_I, Nat.reduceEqDiff, Nat.add_left_cancel_iff, Nat.add_eq_left, Nat.left_eq_add, and_false, false_and, and_true, true_and, if_true, if_false, and_self, not_true, not_false_iff, reduceCtorEq], by simp only [q_rf, q_lt, q_cl, q_jn, q_b, q_b1, q_ck, kd_I, kd_J, kd_R, n_I, n_J, n_R, r_I, r_J, c_I, c_J, c_R, i_J, i_R, j_I, j_R, y_in, y_isDay, x_within, x_isDay, x_isTown, sb_yships S, G.1 c1, z3, pre, c2, c3, hq, hcl, y2, c6, q_10, q_01, eq_self, i_I, Nat.reduceEqDiff, Nat.add_left_cancel_iff, Nat.add_eq_left, Nat.left_eq_add, and_false, false_and, and_true, true_and, if_true, if_false, and_self, not_true, not_false_iff, reduceCtorEq], same, Q⟩
  have c5 : mm_i h B 11 ≤ mm_i h (B + 25) s := Int32.not_lt.mp c4
  have c6 : ¬ mm_i h (B + 25) s < mm_i h (B + 66) 1 := by rw [N1]; exact c4
  by_cases c7 : bitI (mm_i h (am m) 6) s = 0
  case neg =>
    have c8 : ¬ mm_i h (B + 126) (40 * s + m) = 0 := by rw [hbit]; exact c7
    refine ⟨-1, h, h, by simp only [q_rf, q_lt, q_cl, q_jn, q_b, q_b1, q_ck, kd_I, kd_J, kd_R, n_I, n_J, n_R, r_I, r_J, c_I, c_J, c_R, i_J, i_R, j_I, j_R, y_in, y_isDay, x_within, x_isDay, x_isTown, sb_xsea S, f1', kd8, c2, z2, c3', hb9, c7, reduceCtorEq, q_10, q_01, eq_self, i_I, Nat.reduceEqDiff, Nat.add_left_cancel_iff, Nat.add_eq_left, Nat.left_eq_add, and_false, false_and, and_true, true_and, if_true, if_false, and_self, not_true, not_false_iff, reduceCtorEq], ?_, same, Q⟩
    rw [q40]
    simp only [q_rf, q_lt, q_cl, q_jn, q_b, q_b1, q_ck, kd_I, kd_J, kd_R, n_I, n_J, n_R, r_I, r_J, c_I, c_J, c_R, i_J, i_R, j_I, j_R, y_in, y_isDay, x_within, x_isDay, x_isTown, sb_yships S, G.1 c1, z3, pre, c2, c3, hq, hcl, hq4, hcl4, y2, c6, c8, q_10, q_01, eq_self, i_I, Nat.reduceEqDiff, Nat.add_left_cancel_iff, Nat.add_eq_left, Nat.left_eq_add, and_false, false_and, and_true, true_and, if_true, if_false, and_self, not_true, not_false_iff, reduceCtorEq]
  have c8 : mm_i h (B + 126) (40 * s + m) = 0 := by rw [hbit]; exact c7
  -- the bit is set
  obtain ⟨g1, e1⟩ : ∃ g1, g1 = mm_setI h (am m) 6 (mm_i h (am m) 6 ||| ((1 : Int32) <<< (nI s &&& 31))) := ⟨_, rfl⟩
  have x1 : mY B ow [5] h g1 := by rw [e1]; exact (mX.rf hB).IL (m := 5) Lm rfl (by decide)
  have S1 := x1.S S
  have kd81 : mm_kd g1 (am m) = 8 := (x1.kd Lm.2.1).trans kd8
  have hF : ∀ j i, j < 147 → mm_i g1 (B + j) i = mm_i h (B + j) i := fun j i hj => by rw [e1, i_I_ne (by have := Lm.1; omega)]
  have hF0 : ∀ i, mm_i g1 B i = mm_i h B i := fun i => hF 0 i (by omega)
  obtain ⟨cm, hcm⟩ : ∃ cm, cm = mm_i h (B + 25) s + mm_i h (B + 26) s := ⟨_, rfl⟩
  have hco : fX10_comingOf (B + 23) (nI s) g1 = some (cm, g1) := by
    unfold fX10_comingOf
    simp only [q_rf, q_lt, q_cl, q_jn, q_b, q_b1, q_ck, kd_I, kd_J, kd_R, n_I, n_J, n_R, r_I, r_J, c_I, c_J, c_R, i_J, i_R, j_I, j_R, y_in, y_isDay, x_within, x_isDay, x_isTown, sb_xsea S1, c2, hF 23 4 (by omega), z2, c3', hq, hcl, hF 25 s (by omega), hF 26 s (by omega), ← hcm, if_true, if_false]
  have hcb := x_closedBy S1 (show mm_i g1 (B + 23) 15 = nI p by rw [hF 23 15 (by omega)]; exact p2) p1 (mm_i h (B + 24) s) cm (mm_i h B 11)
  have hct := x_closureTold S1 (show mm_i g1 (B + 23) 15 = nI p by rw [hF 23 15 (by omega)]; exact p2) p1 (mm_i h (B + 24) s) cm
  have R1 : RPo B g1 := R.up x1 (by decide) (by decide)
  have D1 : ∀ k, k < 20 → mm_i g1 (B + 36) k ≤ mm_i h B 11 := fun k hk => by rw [hF 36 k (by omega)]; exact D k hk
  have D2 : ∀ k, k < 20 → mm_i g1 (B + 36) k ≤ mm_i h (B + 25) s := fun k hk => Int32.le_trans (D1 k hk) c5
  -- the reference, from a heap with the same cells
  have hY : ∀ g : mm_H, mY B ow [5] g1 g → ∃ g2, g2 = mm_setI g (B + 126) (40 * s + m) 1 ∧ mS B g2 ∧ (∀ o : Nat → Nat × Nat, mY B o [105] g g2) ∧ fX12_shuts (B + 66) (mm_i h (B + 24) s) cm (mm_i h (B + 25) s) g2 = some (if anyF (xShut g1 B (mm_i h (B + 24) s) cm (mm_i h B 11)) p 0 then 1 else 0, g2) ∧ fX12_shuts (B + 66) (mm_i h (B + 24) s) cm 100000 g2 = some (if anyF (xCov g1 B (mm_i h (B + 24) s) cm) p 0 then 1 else 0, g2) := by
    intro g xg
    have Sg := xg.S S1
    have xg2 : ∀ o : Nat → Nat × Nat, mY B o [105] g (mm_setI g (B + 126) (40 * s + m) 1) := fun o => (mX.rf Sg.1).IF (m := 105) (by omega) rfl (by decide)
    have Sg2 := (xg2 ow).S Sg
    have R2 : RPo B (mm_setI g (B + 126) (40 * s + m) 1) := (R1.up xg (by decide) (by decide)).up (xg2 ow) (by decide) (by decide)
    have e38 : mm_i (mm_setI g (B + 126) (40 * s + m) 1) (B + 66) 38 = nI p := by
      rw [(xg2 ow).iF (m := 111) (by omega) rfl (by decide), xg.iF (m := 111) (by omega) rfl (by decide), hF 66 38 (by omega)]; exact p3
    have ex : ∀ j k, j < 147 → mdo j k = 11 → mm_i (mm_setI g (B + 126) (40 * s + m) 1) (B + j) k = mm_i g1 (B + j) k := fun j k hj e => by
      rw [(xg2 ow).iF (m := 11) hj e (by decide), xg.iF (m := 11) hj e (by decide)]
    have exc : ∀ t d k, xCov (mm_setI g (B + 126) (40 * s + m) 1) B t d k = xCov g1 B t d k := fun t d k => by
      unfold xCov
      rw [ex 33 k (by omega) rfl, ex 34 k (by omega) rfl, ex 35 k (by omega) rfl]
    have exs : ∀ t d r k, xShut (mm_setI g (B + 126) (40 * s + m) 1) B t d r k = xShut g1 B t d r k := fun t d r k => by
      unfold xShut
      rw [exc, ex 36 k (by omega) rfl]
    refine ⟨_, rfl, Sg2, xg2, ?_, ?_⟩
    · rw [y_shuts Sg2 e38 p1, xy_shut R2 _ _ y8 e38 p1, anyF_congr (Q := xShut g1 B (mm_i h (B + 24) s) cm (mm_i h (B + 25) s)) (fun j _ _ => exs _ _ _ j), anyF_sh D2 D1 p1]
    · rw [y_shuts Sg2 e38 p1, xy_told R2 _ _ e38 p1, anyF_congr (Q := xCov g1 B (mm_i h (B + 24) s) cm) (fun j _ _ => exc _ _ j)]
  have hFy : ∀ g : mm_H, mY B ow [5] g1 g → mS B g ∧ RMn B ow h g nm am ∧ (∀ j k, j < 147 → mdo j k ≠ 5 → mm_i g (B + j) k = mm_i h (B + j) k) := fun g xg => by
    have xx : mY B ow [5] h g := x1.tr xg
    refine ⟨xg.S S1, M.up (ms := []) (mX.rf hB) mO.rf xx (by decide) (by decide) (Int32.le_refl _), fun j k hj e => ?_⟩
    exact xx.iF (m := mdo j k) hj rfl (by simp [e])
  have z11 : (1 : Int32) &&& 1 = 1 := by decide
  have Qs := Q.bit M2 hm hs20 (by omega)
  rw [← e1] at Qs
  have hN11 := hF0 11
  by_cases w : anyF (xShut g1 B (mm_i h (B + 24) s) cm (mm_i h B 11)) p 0 = true
  · obtain ⟨h1, e2⟩ : ∃ h1, h1 = mm_setI g1 (am m) 5 (mm_i h (am m) 5 + 1) := ⟨_, rfl⟩
    have x2 : mY B ow [5] g1 h1 := by rw [e2]; exact (mX.rf S1.1).IL (m := 5) Lm rfl (by decide)
    obtain ⟨Sh, Mh, Fh⟩ := hFy h1 x2
    obtain ⟨g2, e3, Sg2, xg2, s1, s2⟩ := hY h1 x2
    obtain ⟨h2, e4⟩ : ∃ h2, h2 = mm_setI g2 (B + 71) m (mm_i h (am m) 5 + 1) := ⟨_, rfl⟩
    have x4 : ∀ o : Nat → Nat × Nat, mY B o [105] g2 h2 := fun o => by rw [e4]; exact (mX.rf Sg2.1).IF (m := 105) (by omega) rfl (by decide)
    have i5 : mm_i g1 (am m) 5 = mm_i h (am m) 5 := by rw [e1, i_I, if_neg (fun z => by omega)]
    have Gy := (y_isThere Sh Mh N3 (a := nI m)).1 c1
    have j126 : mm_i h1 (B + 126) (40 * s + m) = 0 := by
      rw [e2, i_I_ne (by have := Lm.1; omega), hF 126 _ (by omega)]; exact c8
    have j71 : mm_i g2 (B + 71) m = mm_i h (am m) 5 := by
      rw [e3, i_I_ne (by omega), e2, i_I_ne (by have := Lm.1; omega), hF 71 _ (by omega)]; exact (Q1 m hm).1
    have k76 : mm_i h1 (B + 66) 76 = nI z := (Fh 66 76 (by omega) (by decide)).trans z3
    have k1 : mm_i h1 (B + 66) 1 = mm_i h B 11 := (Fh 66 1 (by omega) (by decide)).trans N1
    have k118 : mm_i h1 (B + 118) s = mm_i h (B + 25) s := (Fh 118 s (by omega) (fun z => by simp [mdo, mdA] at z)).trans y2
    have k118' : mm_i g2 (B + 118) s = mm_i h (B + 25) s := ((xg2 ow).iF (m := 114) (by omega) rfl (by decide)).trans k118
    have k119 : mm_i h1 (B + 119) s = mm_i h (B + 26) s := (Fh 119 s (by omega) (fun z => by simp [mdo, mdA] at z)).trans y3
    have k117 : mm_i h1 (B + 117) s = mm_i h (B + 24) s := (Fh 117 s (by omega) (fun z => by simp [mdo, mdA] at z)).trans y1
    have k119' : mm_i g2 (B + 119) s = mm_i h (B + 26) s := ((xg2 ow).iF (m := 114) (by omega) rfl (by decide)).trans k119
    have k117' : mm_i g2 (B + 117) s = mm_i h (B + 24) s := ((xg2 ow).iF (m := 114) (by omega) rfl (by decide)).trans k117
    refine ⟨1, h1, h2, ?_, ?_, ((wM_le x1 (by simp)).tr (wM_le x2 (by simp))).tr ((wM_le (xg2 ow) (by simp)).tr (wM_le (x4 ow) (by simp))), ?_⟩
    · simp only [q_rf, q_lt, q_cl, q_jn, q_b, q_b1, q_ck, kd_I, kd_J, kd_R, n_I, n_J, n_R, r_I, r_J, c_I, c_J, c_R, i_J, i_R, j_I, j_R, y_in, y_isDay, x_within, x_isDay, x_isTown, sb_xsea S, f1', kd8, c2, z2, c3', hb9, c7, hq, hcl, c5, reduceCtorEq, not_true, if_false, if_true, ← e1]
      simp only [q_rf, q_lt, q_cl, q_jn, q_b, q_b1, q_ck, kd_I, kd_J, kd_R, n_I, n_J, n_R, r_I, r_J, c_I, c_J, c_R, i_J, i_R, j_I, j_R, y_in, y_isDay, x_within, x_isDay, x_isTown, sb_xsea S1, hq, hcl, hF 24 s (by omega), hco, hN11, hcb, w, kd81, i5, not_false_iff, q_10, if_true, if_false, ← e2]
    · rw [q40]
      simp only [q_rf, q_lt, q_cl, q_jn, q_b, q_b1, q_ck, kd_I, kd_J, kd_R, n_I, n_J, n_R, r_I, r_J, c_I, c_J, c_R, i_J, i_R, j_I, j_R, y_in, y_isDay, x_within, x_isDay, x_isTown, sb_yships Sh, Gy, k76, pre, c2, c3, hq, hcl, hq4, hcl4, k118, k1, c4, j126, z11, ← e3, q_10, q_01, eq_self, i_I, Nat.reduceEqDiff, Nat.add_left_cancel_iff, Nat.add_eq_left, Nat.left_eq_add, and_false, false_and, and_true, true_and, if_true, if_false, and_self, not_true, not_false_iff, reduceCtorEq]
      simp only [q_rf, q_lt, q_cl, q_jn, q_b, q_b1, q_ck, kd_I, kd_J, kd_R, n_I, n_J, n_R, r_I, r_J, c_I, c_J, c_R, i_J, i_R, j_I, j_R, y_in, y_isDay, x_within, x_isDay, x_isTown, sb_yships Sh, sb_yships Sg2, sb_ymen Sg2, hq, hcl, hqm, hclm, k117, k119, k118', k119', k117', ← hcm, s1, w, j71, ← e4, q_10, q_01, eq_self, i_I, Nat.reduceEqDiff, Nat.add_left_cancel_iff, Nat.add_eq_left, Nat.left_eq_add, and_false, false_and, and_true, true_and, if_true, if_false, and_self, not_true, not_false_iff, reduceCtorEq]
    · have Q5 := Qs.brk M2 x1 (v := mm_i h (am m) 5 + 1) hm
      rw [← e2] at Q5
      have xh1 : mY B ow [5] h h1 := x1.tr x2
      have y5 : mY B ow [5] (mm_setI (mm_setI h (B + 126) (40 * s + m) 1) (B + 71) m (mm_i h (am m) 5 + 1)) h2 := by
        rw [e4, e3]; exact (xh1.both).both
      exact Q5.up (M.up xh1 mO.rf (mX.rf (W := wM B ow []) hB) (by decide) (by decide) (le_11 xh1 (by decide))).2.1 ((xg2 ow).tr (x4 ow)) y5 (by decide) (by decide)
  · obtain ⟨Sh, Mh, Fh⟩ := hFy g1 (mX.rf S1.1)
    obtain ⟨g2, e3, Sg2, xg2, s1, s2⟩ := hY g1 (mX.rf S1.1)
    have Gy := (y_isThere Sh Mh N3 (a := nI m)).1 c1
    have j126 : mm_i g1 (B + 126) (40 * s + m) = 0 := by rw [hF 126 _ (by omega)]; exact c8
    have k76 : mm_i g1 (B + 66) 76 = nI z := (Fh 66 76 (by omega) (by decide)).trans z3
    have k1 : mm_i g1 (B + 66) 1 = mm_i h B 11 := (Fh 66 1 (by omega) (by decide)).trans N1
    have k118 : mm_i g1 (B + 118) s = mm_i h (B + 25) s := (hF 118 s (by omega)).trans y2
    have k118' : mm_i g2 (B + 118) s = mm_i h (B + 25) s := ((xg2 ow).iF (m := 114) (by omega) rfl (by decide)).trans k118
    have k119 : mm_i g1 (B + 119) s = mm_i h (B + 26) s := (hF 119 s (by omega)).trans y3
    have k117 : mm_i g1 (B + 117) s = mm_i h (B + 24) s := (hF 117 s (by omega)).trans y1
    have k119' : mm_i g2 (B + 119) s = mm_i h (B + 26) s := ((xg2 ow).iF (m := 114) (by omega) rfl (by decide)).trans k119
    have k117' : mm_i g2 (B + 117) s = mm_i h (B + 24) s := ((xg2 ow).iF (m := 114) (by omega) rfl (by decide)).trans k117
    have fr : mY B ow [5, 105] h g2 := (wM_le x1 (by simp)).tr (wM_le (xg2 ow) (by simp))
    have Qf : RSl B g2 g2 nm am := by
      have y5 : mY B ow [5] (mm_setI h (B + 126) (40 * s + m) 1) g2 := by rw [e3]; exact x1.both
      exact Qs.up (M.up x1 mO.rf (mX.rf (W := wM B ow []) hB) (by decide) (by decide) (le_11 x1 (by decide))).2.1 (xg2 ow) y5 (by decide) (by decide)
    by_cases w2 : anyF (xCov g1 B (mm_i h (B + 24) s) cm) p 0 = true
    · refine ⟨2, g1, g2, ?_, ?_, fr, Qf⟩
      · simp only [q_rf, q_lt, q_cl, q_jn, q_b, q_b1, q_ck, kd_I, kd_J, kd_R, n_I, n_J, n_R, r_I, r_J, c_I, c_J, c_R, i_J, i_R, j_I, j_R, y_in, y_isDay, x_within, x_isDay, x_isTown, sb_xsea S, f1', kd8, c2, z2, c3', hb9, c7, hq, hcl, c5, reduceCtorEq, not_true, if_false, if_true, ← e1]
        simp only [q_rf, q_lt, q_cl, q_jn, q_b, q_b1, q_ck, kd_I, kd_J, kd_R, n_I, n_J, n_R, r_I, r_J, c_I, c_J, c_R, i_J, i_R, j_I, j_R, y_in, y_isDay, x_within, x_isDay, x_isTown, sb_xsea S1, hq, hcl, hF 24 s (by omega), hco, hN11, hcb, hct, w, w2, Bool.false_eq_true, not_false_iff, not_true, q_10, if_true, if_false]
      · rw [q40]
        simp only [q_rf, q_lt, q_cl, q_jn, q_b, q_b1, q_ck, kd_I, kd_J, kd_R, n_I, n_J, n_R, r_I, r_J, c_I, c_J, c_R, i_J, i_R, j_I, j_R, y_in, y_isDay, x_within, x_isDay, x_isTown, sb_yships Sh, Gy, k76, pre, c2, c3, hq, hcl, hq4, hcl4, k118, k1, c4, j126, z11, ← e3, q_10, q_01, eq_self, i_I, Nat.reduceEqDiff, Nat.add_left_cancel_iff, Nat.add_eq_left, Nat.left_eq_add, and_false, false_and, and_true, true_and, if_true, if_false, and_self, not_true, not_false_iff, reduceCtorEq]
        simp only [q_rf, q_lt, q_cl, q_jn, q_b, q_b1, q_ck, kd_I, kd_J, kd_R, n_I, n_J, n_R, r_I, r_J, c_I, c_J, c_R, i_J, i_R, j_I, j_R, y_in, y_isDay, x_within, x_isDay, x_isTown, sb_yships Sh, sb_yships Sg2, hq, hcl, k117, k119, k118', k119', k117', ← hcm, s1, s2, w, w2, Bool.false_eq_true, q_10, q_01, eq_self, i_I, Nat.reduceEqDiff, Nat.add_left_cancel_iff, Nat.add_eq_left, Nat.left_eq_add, and_false, false_and, and_true, true_and, if_true, if_false, and_self, not_true, not_false_iff, reduceCtorEq]
    · refine ⟨0, g1, g2, ?_, ?_, fr, Qf⟩
      · simp only [q_rf, q_lt, q_cl, q_jn, q_b, q_b1, q_ck, kd_I, kd_J, kd_R, n_I, n_J, n_R, r_I, r_J, c_I, c_J, c_R, i_J, i_R, j_I, j_R, y_in, y_isDay, x_within, x_isDay, x_isTown, sb_xsea S, f1', kd8, c2, z2, c3', hb9, c7, hq, hcl, c5, reduceCtorEq, not_true, if_false, if_true, ← e1]
        simp only [q_rf, q_lt, q_cl, q_jn, q_b, q_b1, q_ck, kd_I, kd_J, kd_R, n_I, n_J, n_R, r_I, r_J, c_I, c_J, c_R, i_J, i_R, j_I, j_R, y_in, y_isDay, x_within, x_isDay, x_isTown, sb_xsea S1, hq, hcl, hF 24 s (by omega), hco, hN11, hcb, hct, w, w2, Bool.false_eq_true, not_false_iff, not_true, q_10, if_true, if_false]
      · rw [q40]
        simp only [q_rf, q_lt, q_cl, q_jn, q_b, q_b1, q_ck, kd_I, kd_J, kd_R, n_I, n_J, n_R, r_I, r_J, c_I, c_J, c_R, i_J, i_R, j_I, j_R, y_in, y_isDay, x_within, x_isDay, x_isTown, sb_yships Sh, Gy, k76, pre, c2, c3, hq, hcl, hq4, hcl4, k118, k1, c4, j126, z11, ← e3, q_10, q_01, eq_self, i_I, Nat.reduceEqDiff, Nat.add_left_cancel_iff, Nat.add_eq_left, Nat.left_eq_add, and_false, false_and, and_true, true_and, if_true, if_false, and_self, not_true, not_false_iff, reduceCtorEq]
        simp only [q_rf, q_lt, q_cl, q_jn, q_b, q_b1, q_ck, kd_I, kd_J, kd_R, n_I, n_J, n_R, r_I, r_J, c_I, c_J, c_R, i_J, i_R, j_I, j_R, y_in, y_isDay, x_within, x_isDay, x_isTown, sb_yships Sh, sb_yships Sg2, hq, hcl, k117, k119, k118', k119', k117', ← hcm, s1, s2, w, w2, Bool.false_eq_true, q_10, q_01, eq_self, i_I, Nat.reduceEqDiff, Nat.add_left_cancel_iff, Nat.add_eq_left, Nat.left_eq_add, and_false, false_and, and_true, true_and, if_true, if_false, and_self, not_true, not_false_iff, reduceCtorEq]
end SB2
