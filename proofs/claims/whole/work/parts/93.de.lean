/-! deal -/
section DE
variable {B : Nat} {h hx hy hx' hy' : mm_H} {ow ow' : Nat → Nat × Nat} {n nm nl nb nw td tn ta np : Nat} {am al : Nat → Nat} {A U V Z G E : Nat → Nat → Nat} {T : Nat → Int32} {P C : Nat → Nat}
theorem J_deal {ms : List Nat} (S : mS B h) (y : mY B ow ms h hy) (m1 : 111 ∉ ms) (m2 : 112 ∉ ms) (m3 : 101 ∉ ms) (N : RNow B h) (M : RMn B ow h hy nm am) (L : RLt B ow h hy nm nl al) (R : RBg B ow h hy nm nb A U T) (Q : RCo B h hy nm am P C) (Z0 : RBz B hy nb) (El : REl B ow h hy tn td ta) (Lw : RLw B ow h hy nw V Z G E) (Po : RPo B h) (Pt : RPt B h) (Ne : RNe B h) (To : RTo B h hy) (a1 a2 a3 a4 a5 a6 a7 : Int32) : ∃ r hx' hy' ow' nl' al' nb' A' U' P' C', fX11_deal B a1 a2 a3 a4 a5 a6 a7 h = some (r, hx') ∧ fX12_deal (B + 66) a1 a2 a3 a4 a5 a6 a7 hy = some (r, hy') ∧ mY B ow [0, 2, 6, 7, 10, 26, 27, 30] h hx' ∧ mO ow ow' h ∧ (∀ o : Nat → Nat × Nat, mY B o [100, 102, 106, 107, 110, 126, 127, 128, 130] hy hy') ∧ RLt B ow' hx' hy' nm nl' al' ∧ RBg B ow' hx' hy' nm nb' A' U' T ∧ RCo B hx' hy' nm am P' C' ∧ RTo B hx' hy' ∧ RBz B hy' nb' := by
  have Sy := y.S S
  have hm9 := M.1
  have hl9 := L.1
  have hb9 := R.1
  obtain ⟨v0, r1, r2, r3, r4⟩ := J_refusal S Sy N.2.2 M L a1 a2 a3 a4 a5 a6 a7
  have xr : mY B ow [0, 2, 6, 7, 10, 26, 27, 30] h h := mX.rf S.1
  have yr : ∀ o : Nat → Nat × Nat, mY B o [100, 102, 106, 107, 110, 126, 127, 128, 130] hy hy := fun _ => mX.rf Sy.1
  by_cases c0 : v0 = 0
  case neg =>
    have c2 : ¬ v0 ≤ 0 := by rcases r3 with z | z | z | z <;> first | exact absurd z c0 | (rw [z]; decide)
    refine ⟨v0, h, hy, ow, nl, al, nb, A, U, P, C, ?_, ?_, xr, mO.rf, yr, L, R, Q, To, Z0⟩
    · unfold fX11_deal; rw [q_ck (sk0 S), r1, p_cl, if_neg c0]
    · unfold fX12_deal; rw [q_ck (sk66 Sy), r2, p_cl, if_neg c2]
  subst c0
  obtain ⟨s, b, l, ⟨hs, hb, hl⟩, ⟨rfl, rfl, rfl⟩, hsb, -, -, k4, k5, k6, -⟩ := r4 rfl
  have h10 := L.2.2.1
  have h43 := R.2.2.1
  have hszl := x_size (sk2 S) L.2.1
  have hszb := x_size (sk3 S) R.2.1
  have z00 : (0 : Int32) ≤ 0 := by decide
  by_cases c1 : nl = 200
  case pos =>
    have p20 : (200 : Int32) ≤ nI nl := nI_le (a := 200) (by omega) (by omega)
    refine ⟨4, h, hy, ow, nl, al, nb, A, U, P, C, ?_, ?_, xr, mO.rf, yr, L, R, Q, To, Z0⟩
    · unfold fX11_deal; rw [q_ck (sk0 S), r1, p_cl, if_pos rfl, q_ck (sk0 S), sr0_1 S, p_rf, q_ck (sk2 S), hszl, p_cl, if_pos p20]
    · unfold fX12_deal; rw [q_ck (sk66 Sy), r2, p_cl, if_pos z00, q_ck (sk66 Sy), h10, if_pos (by rw [c1]; decide)]
  have x20 : ¬ (200 : Int32) ≤ nI nl := nI_ge (b := 200) (by omega) (by omega)
  have y20 : ¬ nI nl = (200 : Int32) := fun z => c1 ((nI_eq (b := 200) (by omega) (by omega)).mp z)
  by_cases c2 : nb = 300
  case pos =>
    have p30 : ¬ nI nb < (300 : Int32) := nI_nlt (b := 300) (by omega) (by omega)
    refine ⟨4, h, hy, ow, nl, al, nb, A, U, P, C, ?_, ?_, xr, mO.rf, yr, L, R, Q, To, Z0⟩
    · unfold fX11_deal; rw [q_ck (sk0 S), r1, p_cl, if_pos rfl, q_ck (sk0 S), sr0_1 S, p_rf, q_ck (sk2 S), hszl, p_cl, if_neg x20, q_ck (sk0 S), sr0_2 S, p_rf, q_ck (sk3 S), hszb, p_cl, if_neg p30]
    · unfold fX12_deal; rw [q_ck (sk66 Sy), r2, p_cl, if_pos z00, q_ck (sk66 Sy), h10, if_neg y20, h43, if_neg (fun z => z (by rw [c2]; decide))]
  have x30 : nI nb < (300 : Int32) := nI_lt (b := 300) (by omega) (by omega)
  have y30 : ¬ nI nb = (300 : Int32) := fun z => c2 ((nI_eq (b := 300) (by omega) (by omega)).mp z)
  obtain ⟨v, h1, hy1, u1, u2, u3, u4, To1⟩ := J_judge S y m1 m2 m3 N M L R El Lw Po Pt Ne hs hb hl a4 a5 a6 a7
  have S1 := (u3 ow).S S
  have Sy1 := (u4 ow).S Sy
  have M1 : RMn B ow h1 hy1 nm am := M.up (u3 ow) mO.rf (u4 ow) (by decide) (by decide) (by rw [(u3 ow).i0 (m := 1) rfl (by decide)]; exact Int32.le_refl _)
  have L1 : RLt B ow h1 hy1 nm nl al := L.up (u3 ow) mO.rf (u4 ow) (by decide) (by decide) (Nat.le_refl _) (by omega)
  have R1 : RBg B ow h1 hy1 nm nb A U T := R.up (u3 ow) mO.rf (u4 ow) (by decide) (by decide) (by decide)
  have Q1 : RCo B h1 hy1 nm am P C := Q.up M.2.1 (u3 ow) (u4 ow) (by decide) (by decide)
  have Z1 : RBz B hy1 nb := Z0.up (u4 ow) (by decide)
  have x01 : mY B ow [0, 2, 6, 7, 10, 26, 27, 30] h h1 := wM_le (u3 ow) (by simp)
  have y01 : ∀ o : Nat → Nat × Nat, mY B o [100, 102, 106, 107, 110, 126, 127, 128, 130] hy hy1 := fun o => wM_le (u4 o) (by simp)
  by_cases c3 : v = 1
  case pos =>
    refine ⟨5, h1, hy1, ow, nl, al, nb, A, U, P, C, ?_, ?_, x01, mO.rf, y01, L1, R1, Q1, To1, Z1⟩
    · unfold fX11_deal; rw [q_ck (sk0 S), r1, p_cl, if_pos rfl, q_ck (sk0 S), sr0_1 S, p_rf, q_ck (sk2 S), hszl, p_cl, if_neg x20, q_ck (sk0 S), sr0_2 S, p_rf, q_ck (sk3 S), hszb, p_cl, if_pos x30, q_ck (sk0 S), u1, p_cl, if_neg (not_not_intro c3)]
    · unfold fX12_deal; rw [q_ck (sk66 Sy), r2, p_cl, if_pos z00, q_ck (sk66 Sy), h10, if_neg y20, h43, if_pos y30, u2, p_cl, if_neg (not_not_intro c3)]
  -- the price
  obtain ⟨o, ho31, rfl⟩ := nI_of (Int32.not_lt.mpr k5.1)
  have ho : o ≤ 1000000 := (nI_leI (b := 1000000) ho31 (by omega)).mp k5.2
  obtain ⟨pb, pb'⟩ := Q1.2.1 b hb
  have pur : ∀ j, j < nm → P j ≤ 40000000 := fun j hj => by have := purse_le (RCx_0.mpr Q1) M.1 hj; omega
  by_cases c4 : a6 = 0 ∧ ¬ o ≤ P b
  case pos =>
    obtain ⟨c5, c6⟩ := c4
    have kdb := (M1.2.1.2.2.2 b hb).2
    have hgb := x_get (sk1 S1) M1.2.1 hb
    have q1 : ¬ nI o ≤ nI (P b) := nI_ge (by omega) ho31
    refine ⟨6, h1, hy1, ow, nl, al, nb, A, U, P, C, ?_, ?_, x01, mO.rf, y01, L1, R1, Q1, To1, Z1⟩
    · unfold fX11_deal; rw [q_ck (sk0 S), r1, p_cl, if_pos rfl, q_ck (sk0 S), sr0_1 S, p_rf, q_ck (sk2 S), hszl, p_cl, if_neg x20, q_ck (sk0 S), sr0_2 S, p_rf, q_ck (sk3 S), hszb, p_cl, if_pos x30, q_ck (sk0 S), u1, p_cl, if_pos c3, p_jn, if_neg (not_not_intro c5), q_ck (sk0 S1), sr0_0 S1, p_rf, q_ck (sk1 S1), hgb, p_cl, p_rf, q_ck kdb, pb, if_neg q1]
    · have hq := fun (β : Type) (z : Option β) => q_ckx (show b < 40 by omega) (by decide) z
      unfold fX12_deal; rw [q_ck (sk66 Sy), r2, p_cl, if_pos z00, q_ck (sk66 Sy), h10, if_neg y20, h43, if_pos y30, u2, p_cl, if_pos c3, p_jn, if_neg (not_not_intro c5), q_ck (sk66 Sy1), sr66_4 Sy1, p_rf, q_ck (sk68 Sy1), sn68 Sy1, hq, if_neg (show ¬ nI o ≤ mm_i hy1 (B + 68) (nI b).toNatClampNeg by rw [nI_clamp (show b < 2 ^ 31 by omega), pb']; exact q1)]
  -- what is paid at once, till when, the fine
  obtain ⟨d, hd31, hd⟩ := nI_of (Int32.not_lt.mpr N.2.1)
  have hd9 : d ≤ 3999 := (nI_leI (b := 3999) hd31 (by omega)).mp (hd ▸ N.2.2)
  obtain ⟨e, he31, rfl⟩ := nI_of (Int32.not_lt.mpr k6.1)
  have he9 : e ≤ 720 := (nI_leI (b := 720) he31 (by omega)).mp k6.2
  have now1 : mm_i h1 B 11 = nI d := ((u3 ow).i0 (m := 1) rfl (by decide)).trans hd
  obtain ⟨c, due, hco, hcb, hco9, hdue⟩ : ∃ c due, ((nI e = 0 ∧ c = o ∧ due = -1) ∨ (¬ nI e = 0 ∧ c = 0 ∧ due = nI d + nI e)) ∧ c ≤ P b ∧ c ≤ o ∧ ((due = -1 ∧ o - c = 0) ∨ 0 ≤ due) := by
    by_cases c5 : nI e = 0
    · refine ⟨o, -1, Or.inl ⟨c5, rfl, rfl⟩, ?_, Nat.le_refl _, Or.inl ⟨rfl, by omega⟩⟩
      exact Decidable.not_not.mp fun z => c4 ⟨c5, z⟩
    · exact ⟨0, nI d + nI e, Or.inr ⟨c5, rfl, rfl⟩, Nat.zero_le _, Nat.zero_le _, Or.inr (by rw [nI_add]; exact nI_pos' (by omega))⟩
  obtain ⟨f, p, hf⟩ : ∃ f p, okN v f p (P s + c) := by
    by_cases c5 : v < 10
    · exact ⟨0, 0, Or.inl ⟨c5, rfl⟩⟩
    · obtain ⟨w, hw, rfl⟩ := nI_of (fun z : v < 0 => c5 (Int32.lt_of_lt_of_le z (by decide)))
      have w10 : 10 ≤ w := Nat.not_lt.mp fun z => c5 (nI_lt (b := 10) z (by omega))
      exact ⟨w - 10, min (w - 10) (P s + c), Or.inr ⟨c5, nI_sub (b := 10) w10, by omega, rfl⟩⟩
  have hp9 : p ≤ P s + c := by
    rcases hf with ⟨-, rfl⟩ | ⟨-, -, -, rfl⟩ <;> omega
  -- the seller's town
  obtain ⟨ts, -, -, -⟩ := M1.2.2.2 s hs
  obtain ⟨t, ht31, ht⟩ := nI_of (Int32.not_lt.mpr ts.2.1)
  have ht8 : t ≤ 8 := (nI_leI (b := 8) ht31 (by omega)).mp (ht ▸ ts.2.2)
  have tT : T s = nI t := by rw [← (R1.2.2.2.2 s hs).1, ts.1, ht]
  -- the lot's amount
  obtain ⟨Ll, kl⟩ := L1.2.1.2.2.2 l hl
  obtain ⟨lk, lf, lc, la, lo⟩ := L1.2.2.2 l hl
  obtain ⟨m, hm31, hm⟩ := nI_of (Int32.not_lt.mpr la.2.1)
  have hm5 : m ≤ 100000 := (nI_leI (b := 100000) hm31 (by omega)).mp (hm ▸ la.2.2)
  have Llh := (L.2.1.2.2.2 l hl).1
  have la0 : mm_i h (al l) 3 = nI m := by rw [← hm]; exact ((u3 ow).iL (m := 26) Llh rfl (by decide)).symm
  rw [la0] at k4
  obtain ⟨q, hq31, rfl⟩ := nI_of (Int32.not_lt.mpr (Int32.le_trans (by decide) k4.1))
  have hqm : q ≤ m := (nI_leI hq31 hm31).mp k4.2
  obtain ⟨h2a, eh2⟩ : ∃ g, g = mm_setI h1 (al l) 3 (mm_i h1 (al l) 3 - nI q) := ⟨_, rfl⟩
  obtain ⟨y2, ey2⟩ : ∃ g, g = mm_setI hy1 (B + 75) l (mm_i hy1 (B + 75) l - nI q) := ⟨_, rfl⟩
  have vm : nI m - nI q = nI (m - q) := nI_sub hqm
  have L2 : RLt B ow h2a y2 nm nl al := by
    rw [eh2, ey2, la.1, hm, vm]
    exact L1.amt S1.1 hl ⟨nI_pos' (by omega), nI_le (b := 100000) (by omega) (by omega)⟩
  have S2a : mS B h2a := by rw [eh2]; exact S1
  have Sy2 : mS B y2 := by rw [ey2]; exact Sy1
  have x12 : mY B ow [26] h1 h2a := by rw [eh2]; exact (mX.rf S1.1).IL (m := 26) Ll rfl (by decide)
  have y12 : ∀ w : Nat → Nat × Nat, mY B w [126] hy1 y2 := fun w => by rw [ey2]; exact (mX.rf Sy1.1).IF (m := 126) (by omega) rfl (by decide)
  obtain ⟨y3, ey3⟩ : ∃ g, g = mm_setI y2 (B + 66) 43 (nI nb + 1) := ⟨_, rfl⟩
  obtain ⟨y4, ey4⟩ : ∃ g, g = mm_setI (mm_setI y3 (B + 96) nb (nI s)) (B + 97) nb (nI b) := ⟨_, rfl⟩
  have y24 : ∀ w : Nat → Nat × Nat, mY B w [107] y2 y4 := fun w => by
    rw [ey4, ey3]; exact (((mX.rf Sy2.1).IF (m := 107) (by omega) rfl (by decide)).IF (m := 107) (by omega) rfl (by decide)).IF (m := 107) (by omega) rfl (by decide)
  have Sy4 := (y24 ow).S Sy2
  have L4 : RLt B ow h2a y4 nm nl al := L2.up (ms := []) (mX.rf S2a.1) mO.rf (y24 ow) (by decide) (by decide) (Nat.le_refl _) (by omega)
  -- the new lot
  have l4 := (L4.2.2.2 l hl).1
  have kind : mm_i h2a (al l) 0 = mm_i h1 (al l) 0 := by rw [eh2, i_I, if_neg (fun z => absurd z.2 (by decide))]
  rw [kind] at l4
  obtain ⟨g1, h2b, ow2, y5, al', ⟨p1, p2, p3⟩, p4, p5, p6, p7, p8, p9⟩ := J_comes S2a Sy4 L4 (by omega) (k := mm_i h1 (al l) 0) (a := nI q) (m := nI b) (f := nI l) l4.2 ⟨nI_pos' (by omega), nI_le (b := 100000) (by omega) (by omega)⟩ ⟨nI_pos' (by omega), nI_lt hb (by omega)⟩
  have hsplit := x_split S1 L1 hl eh2 p1 p2 p3
  have S2b := p5.S S2a
  have Sy5 := (p7 ow).S Sy4
  rw [← l4.1] at p4
  -- the frames up to here
  have x13 : mY B ow [6, 26] h1 h2b := (wM_le x12 (by simp)).tr (wM_le p5 (by simp))
  have o13 : mO ow ow2 h1 := fun a ha => p6 a (Nat.lt_of_lt_of_le ha x12.1.1)
  have y15 : ∀ w : Nat → Nat × Nat, mY B w [106, 107, 126] hy1 y5 := fun w => ((wM_le (y12 w) (by simp)).tr (wM_le (y24 w) (by simp))).tr (wM_le (p7 w) (by simp))
  -- the new bargain
  have Lb2 : mL B ow2 h2b (B + 3) 2 1 nb (A 0) := R1.2.1.up2 rfl (by omega) x13 o13 (m := 7) rfl rfl (fun _ => rfl) (by decide)
  obtain ⟨g2, h3, ow3, A', n1, n2, n3, n4, n5, n6, n7, n8, n9, ⟨f0, f1, f2, f3, f4, f5, f6, f7, f8, f9⟩, fz, keep⟩ := x_newBar S2b Lb2 (by omega) (nI s) (nI b) (nI nl) (nI o) due (nI d)
  have S3 := n4.S S2b
  have Lm2 : mL B ow2 h2b (B + 1) 0 8 nm am := M1.2.1.up2 rfl (by omega) x13 o13 (m := 4) rfl rfl (fun _ => rfl) (by decide)
  have Lm3 : mL B ow3 h3 (B + 1) 0 8 nm am := Lm2.up2 rfl (by omega) n4 n5 (m := 4) rfl rfl (fun _ => rfl) (by decide)
  have x14 : mY B ow [6, 7, 26] h1 h3 := (wM_le x13 (by simp)).tr2 o13 (wM_le n4 (by simp))
  have o14 : mO ow ow3 h1 := o13.tr x13 n5
  have pX3 : ∀ j, j < nm → mm_i h3 (am j) 3 = nI (P j) := fun j hj => by rw [x14.iL (m := 2) (M1.2.1.2.2.2 j hj).1 rfl (by decide)]; exact (Q1.2.1 j hj).1
  have cX3 : ∀ i, i < 10 → mm_i h3 (B + 4) i = nI (C i) := fun i hi => by rw [x14.iF (m := 2) (by omega) rfl (by decide)]; exact (Q1.2.2.1 i hi).1
  have pY5 : ∀ j, j < nm → mm_i y5 (B + 68) j = nI (P j) := fun j hj => by rw [(y15 ow).iF (m := 102) (by omega) rfl (by decide)]; exact (Q1.2.1 j hj).2
  have cY5 : ∀ i, i < 10 → mm_i y5 (B + 72) i = nI (C i) := fun i hi => by rw [(y15 ow).iF (m := 102) (by omega) rfl (by decide)]; exact (Q1.2.2.1 i hi).2
  have j2b : mm_i h2b B 11 = mm_i h1 B 11 := x13.i0 (m := 1) rfl (by decide)
  have t3 : mm_i h3 (am s) 0 = nI t := by rw [x14.iL (m := 4) (M1.2.1.2.2.2 s hs).1 rfl (by decide)]; exact ht
  have h12 : mm_j h3 B 12 = 0 := (x14.j0 (m := 2) rfl (by decide)).trans Q1.1
  obtain ⟨h6, w1, F6⟩ := x_dealX S S1 M1.2.1 M.1 L.2.1 R.2.1 r1 (by omega) (by omega) u1 c3 hs hb hsb (by rw [now1]; exact hco) ho hsplit S2b p8.2.1 j2b (by rw [now1]; exact n1) n2 n3 S3 Lm3 n6 n8 f0 f1 f6 f7 f8 hcb pb (fun j hj => ⟨pX3 j hj, pur j hj⟩) h12 cX3 t3 ht8 hf
  have i43 : mm_i hy1 (B + 66) 43 = nI nb := R1.2.2.1
  have now5 : mm_i y5 (B + 66) 1 = nI d := by rw [(y15 ow).iF (m := 101) (by omega) rfl (by decide), (u4 ow).iF (m := 101) (by omega) rfl (by decide), y.iF (m := 101) (by omega) rfl m3, N.1, hd]
  have t5 : mm_i y5 (B + 67) s = nI t := by rw [(y15 ow).iF (m := 104) (by omega) rfl (by decide), ts.1, ht]
  obtain ⟨z, w2, gz1, gz2, gz3, gz4, ⟨g96, g97, g98, g99, g100, g101, g102, g103, g104, g105⟩, gz6⟩ := y_dealY Sy Sy1 h10 h43 r2 (by omega) (by omega) u2 c3 hs hb M.1 hl hsb hco ho hcb pb' i43 ey2 ey3 ey4 p4 Sy5 (fun j hj => ⟨pY5 j hj, pur j hj⟩) cY5 now5 t5 rfl ht8 hf
  -- the relations
  obtain ⟨LA3, kA3⟩ := n6.2.2.2 nb (by omega)
  rw [n8] at LA3 kA3
  have Y6 := F6.mY Lm3 hs hb LA3
  have S6 := Y6.S S3
  have x16 : mY B ow [2, 6, 7, 26, 27, 30] h1 h6 := (wM_le x14 (by simp)).tr2 o14 (wM_le Y6 (by simp))
  have x26 : mY B ow2 [2, 7, 27, 30] h2b h6 := (wM_le n4 (by simp)).tr2 n5 (wM_le Y6 (by simp))
  have LmZ : mL B ow3 h6 (B + 3) 2 1 (nb + 1) (A' 0) := n6.up2 rfl (by omega) Y6 mO.rf (m := 7) rfl rfl (fun _ => rfl) (by decide)
  have keepA : ∀ t' k' a', Lv B ow h1 t' k' a' → (t' = 3 ∨ t' = 5 ∨ t' = 6 ∨ t' = 7) → k' < nb → ∀ i, mm_i h6 a' i = mm_i h1 a' i ∧ mm_r h6 a' i = mm_r h1 a' i := fun t' k' a' La' ht' hk' i => by
    have L2' := La'.up x12 mO.rf
    have L3' := L2'.up p5 p6
    have L4' := L3'.up n4 n5
    have e1 := keep t' k' a' L3' (by omega) i
    have nw : ¬ wM B ow [6] a' i := by
      unfold wM
      rw [md_l L2']
      exact fun z => mdt_6 ht' (List.mem_singleton.mp z)
    have nd : ¬ wD B am (mm_sz h2b) s b a' i := by
      rintro (⟨z, -⟩ | ⟨z, -⟩ | ⟨z, -⟩ | z | ⟨z, -⟩)
      · exact L4'.ne (Lm3.2.2.2 b hb).1 (Or.inl (by omega)) z
      · exact L4'.ne (Lm3.2.2.2 s hs).1 (Or.inl (by omega)) z
      · exact L4'.ne LA3 (Or.inr (by omega)) z
      · have := La'.1; omega
      · have := La'.1; omega
    have a2 : a' ≠ al l := La'.ne Ll (Or.inl (by omega))
    refine ⟨?_, ?_⟩
    · rw [F6.1.i L4'.2.1 nd, e1.1, p5.i L2'.2.1 nw, eh2, i_I_ne a2]
    · rw [F6.1.r L4'.2.1 nd, e1.2, p5.r L2'.2.1 nw, eh2, r_I]
  have y16 : ∀ w : Nat → Nat × Nat, mY B w [102, 106, 107, 126, 127, 128, 130] hy1 z := fun w => (wM_le (y15 w) (by simp)).tr (wM_le (gz1 w) (by simp))
  have o16 : mO ow ow3 h := fun a ha => o14 a (Nat.lt_of_lt_of_le ha (u3 ow).1.1)
  have nn : ∀ q k, 96 ≤ q → q ≤ 106 → k < nb → mm_i z (B + q) k = mm_i hy1 (B + q) k := fun q k h1' h2' h3' => by
    rw [gz4 q k (by omega) (by omega) (by omega) (by omega)]
    by_cases cq : q = 96 ∨ q = 97
    · have k1 : mm_i y5 (B + q) k = mm_i y4 (B + q) k := by
        rcases cq with rfl | rfl <;> exact (p7 ow).iF (m := 107) (by omega) rfl (by decide)
      rw [k1, ey4, i_I, if_neg (fun z => by omega), i_I, if_neg (fun z => by omega), ey3, i_I_ne (by omega), ey2, i_I_ne (by omega)]
    · have k1 : mm_i y5 (B + q) k = mm_i y4 (B + q) k := by
        have hq : q = 98 ∨ q = 99 ∨ q = 100 ∨ q = 101 ∨ q = 102 ∨ q = 103 ∨ q = 104 ∨ q = 105 ∨ q = 106 := by omega
        rcases hq with rfl | rfl | rfl | rfl | rfl | rfl | rfl | rfl | rfl <;> first | exact (p7 ow).iF (m := 107) (by omega) rfl (by decide) | exact (p7 ow).iF (m := 127) (by omega) rfl (by decide) | exact (p7 ow).iF (m := 128) (by omega) rfl (by decide) | exact (p7 ow).iF (m := 129) (by omega) rfl (by decide) | exact (p7 ow).iF (m := 130) (by omega) rfl (by decide)
      rw [k1, ey4, i_I_ne (by omega), i_I_ne (by omega), ey3, i_I_ne (by omega), ey2, i_I_ne (by omega)]
  refine ⟨100 + nI nb, h6, z, ow3, nl + 1, al', nb + 1, A', nU U nb s b (o - c), dP P b s c p, dC C t p, w1, w2, ?_, o16, ?_, ?_, ?_, ?_, ?_, ?_⟩
  · exact x01.tr2 (mO.rf) (wM_le x16 (by simp))
  · exact fun w => (y01 w).tr (wM_le (y16 w) (by simp))
  · exact p8.up x26 (fun a ha => n5 a ha) (gz1 ow2) (by decide) (by decide) (Nat.le_refl _) (by omega)
  · have F' : mBrf B ow3 h6 A' nb := n9.up (by rw [n8]; exact LA3) Y6 mO.rf (by decide)
    have cc : ∀ i m, mdt (3, nb) i = m → m ∉ [2, 27, 30] → mm_i h6 (A' 0 nb) i = mm_i h3 (mm_sz h2b) i := fun i m e1 e2 => by
      rw [n8]; exact Y6.iL (m := m) LA3 e1 e2
    refine R1.more (by omega) hs hb (show o - c ≤ 1000000 by omega) LmZ n7 (fun k hk => ?_) (fun k hk => ?_) F' ?_ ?_ ?_ ?_ ?_ ?_ ?_ ?_ nn ?_ ?_ ?_ ?_ ?_ ?_ ?_ ?_ ?_ ?_ ?_ ?_ ?_
    · obtain ⟨b1, b2, b3, b4⟩ := R1.lv hk
      exact ⟨fun i => (keepA 3 k _ b1 (by omega) hk i).1, fun i => (keepA 5 k _ b2 (by omega) hk i).1, fun i => (keepA 6 k _ b3 (by omega) hk i).1, fun i => (keepA 7 k _ b4 (by omega) hk i).1⟩
    · obtain ⟨b1, b2, b3, b4⟩ := R1.lv hk
      obtain ⟨⟨i1, i2, i3⟩, -, ⟨i4, i5, i6⟩, i7, i8, i9⟩ := (R1.2.2.2.1 k hk).2
      refine ⟨⟨(keepA 3 k _ b1 (by omega) hk 10).2.trans i1, (keepA 3 k _ b1 (by omega) hk 11).2.trans i2, (keepA 3 k _ b1 (by omega) hk 12).2.trans i3⟩, ⟨b2.up x16 o14, b3.up x16 o14, b4.up x16 o14⟩, ⟨(x16.kd b2.2.1).trans i4, (x16.kd b3.2.1).trans i5, (x16.kd b4.2.1).trans i6⟩, (x16.n b2.2.1).trans i7, (x16.n b3.2.1).trans i8, (x16.n b4.2.1).trans i9⟩
    · rw [cc 0 7 rfl (by decide)]; exact f0
    · rw [cc 1 7 rfl (by decide)]; exact f1
    · rw [n8]; exact F6.2.1
    · rw [cc 9 29 rfl (by decide)]; exact f9
    · rw [cc 8 28 rfl (by decide)]; exact f8
    · intro i
      have LA2 := n9.2.1.2.1
      have nd : ¬ wD B am (mm_sz h2b) s b (A' 2 nb) i := by
        rintro (⟨z, -⟩ | ⟨z, -⟩ | ⟨z, -⟩ | z | ⟨z, -⟩)
        · exact LA2.ne (Lm3.2.2.2 b hb).1 (Or.inl (by omega)) z
        · exact LA2.ne (Lm3.2.2.2 s hs).1 (Or.inl (by omega)) z
        · exact LA2.ne LA3 (Or.inl (by omega)) z
        · have := LA2.1; omega
        · have := LA2.1; omega
      rw [F6.1.i LA2.2.1 nd]
      exact fz 2 i (by omega) (by omega)
    · rw [cc 4 7 rfl (by decide), f4]; exact hdue
    · rw [gz6 66 43 (by omega) (by omega) (by omega) (by omega), (p7 ow).iF (m := 107) (by omega) rfl (by decide), ey4, i_I_ne (by omega), i_I_ne (by omega), ey3, i_I_eq, nI_1]
    · intro q i h1' h2'
      rw [gz6 q i (by omega) (by omega) (by omega) (by omega)]
      have k1 : mm_i y5 (B + q) i = mm_i y4 (B + q) i := by
        have hq : q = 107 ∨ q = 108 ∨ q = 109 ∨ q = 110 := by omega
        rcases hq with rfl | rfl | rfl | rfl <;> first | exact (p7 ow).iF (m := 107) (by omega) rfl (by decide) | exact (p7 ow).iF (m := 127) (by omega) rfl (by decide) | exact (p7 ow).iF (m := 128) (by omega) rfl (by decide) | exact (p7 ow).iF (m := 129) (by omega) rfl (by decide) | exact (p7 ow).iF (m := 130) (by omega) rfl (by decide)
      rw [k1, ey4, i_I_ne (by omega), i_I_ne (by omega), ey3, i_I_ne (by omega), ey2, i_I_ne (by omega)]
    · intro c' _
      exact (y16 ow).iF (m := 104) (by omega) rfl (by decide)
    · rw [g96, (p7 ow).iF (m := 107) (by omega) rfl (by decide), ey4, i_I_ne (by omega), i_I_eq]
    · rw [g97, (p7 ow).iF (m := 107) (by omega) rfl (by decide), ey4, i_I_eq]
    · rw [g98, cc 2 7 rfl (by decide)]; exact f2.symm
    · rw [g99, cc 3 7 rfl (by decide)]; exact f3.symm
    · exact g100
    · rw [g101, cc 4 7 rfl (by decide)]; exact f4.symm
    · rw [g102, n8]; exact F6.2.2.1.symm
    · rw [g103, cc 5 7 rfl (by decide)]; exact f5.symm
    · exact g104
    · rw [g105]; exact tT.symm
    · exact (Z1.up (y16 ow) (by decide)) nb (Nat.le_refl _) (by omega)
  · refine ⟨F6.2.2.2.1, fun j hj => ⟨F6.2.2.2.2.1 j hj, gz2 j hj⟩, fun i hi => ⟨F6.2.2.2.2.2 i hi, gz3 i hi⟩, ?_⟩
    rw [dP_sum hs hb hsb ht8 hcb hp9]; exact Q1.2.2.2
  · exact To1.up x16 (y16 ow) (by decide) (by decide)
  · exact fun k k1 k2 => (Z1.up (y16 ow) (by decide)) k (by omega) k2
theorem T_deal (S : mS B h) (N : RNow B h) (M : RMn B ow h h nm am) (L : RLt B ow h h nm nl al) (R : RBg B ow h h nm nb A U T) (Q : RCo B h h nm am P C) (Z0 : RBz B h nb) (El : REl B ow h h tn td ta) (Lw : RLw B ow h h nw V Z G E) (Po : RPo B h) (Pt : RPt B h) (Ne : RNe B h) (To : RTo B h h) (a1 a2 a3 a4 a5 a6 a7 : Int32) : ∃ r h1 h2 ow' nl' al' nb' A' U' P' C', fX11_deal B a1 a2 a3 a4 a5 a6 a7 h = some (r, h1) ∧ fX12_deal (B + 66) a1 a2 a3 a4 a5 a6 a7 h1 = some (r, h2) ∧ mY B ow [0, 2, 6, 7, 10, 26, 27, 30, 100, 102, 106, 107, 110, 126, 127, 128, 130] h h2 ∧ mO ow ow' h ∧ RLt B ow' h2 h2 nm nl' al' ∧ RBg B ow' h2 h2 nm nb' A' U' T ∧ RCo B h2 h2 nm am P' C' ∧ RTo B h2 h2 ∧ RBz B h2 nb' := by
  obtain ⟨r, h1, -, -, -, -, -, -, -, -, -, p1, -, y, o1, -⟩ := J_deal (ms := []) S (mX.rf S.1) (by decide) (by decide) (by decide) N M L R Q Z0 El Lw Po Pt Ne To a1 a2 a3 a4 a5 a6 a7
  have S1 := y.S S
  have hm9 := M.1
  have id0 : mY B ow [] h h := mX.rf S.1
  have M1 : RMn B ow h h1 nm am := M.up id0 mO.rf y (by decide) (by decide) (Int32.le_refl _)
  have L1 : RLt B ow h h1 nm nl al := L.up id0 mO.rf y (by decide) (by decide) (Nat.le_refl _) (by omega)
  have R1 : RBg B ow h h1 nm nb A U T := R.up id0 mO.rf y (by decide) (by decide) (by decide)
  have Q1 : RCo B h h1 nm am P C := Q.up M.2.1 id0 y (by decide) (by decide)
  have Z1 : RBz B h1 nb := Z0.up y (by decide)
  have El1 : REl B ow h h1 tn td ta := El.up id0 mO.rf y (by decide) (by decide)
  have Lw1 : RLw B ow h h1 nw V Z G E := Lw.up id0 mO.rf y (by decide) (by decide)
  have To1 : RTo B h h1 := To.up id0 y (by decide) (by decide)
  obtain ⟨r', h1', h2, ow', nl', al', nb', A', U', P', C', q1, q2, y1, o2, y2, L2, R2, Q2, To2, Z2⟩ := J_deal S y (by decide) (by decide) (by decide) N M1 L1 R1 Q1 Z1 El1 Lw1 Po Pt Ne To1 a1 a2 a3 a4 a5 a6 a7
  rw [p1] at q1
  obtain ⟨e1, e2⟩ := Prod.mk.inj (Option.some.inj q1)
  subst e1
  subst e2
  have S2 := (y2 ow).S S1
  have id2 : mY B ow' [] h2 h2 := mX.rf S2.1
  have Mm : mL B ow' h1 (B + 1) 0 8 nm am := M.2.1.up2 rfl (by omega) y1 o2 (m := 4) rfl rfl (fun _ => rfl) (by decide)
  exact ⟨r, h1, h2, ow', nl', al', nb', A', U', P', C', p1, q2, (wM_le y (by simp)).tr (wM_le (y2 ow) (by simp)), o2, L2.up (y2 ow') mO.rf id2 (by decide) (by decide) (Nat.le_refl _) (by omega), R2.up (y2 ow') mO.rf id2 (by decide) (by decide) (by decide), Q2.up Mm (y2 ow') id2 (by decide) (by decide), To2.up (y2 ow') id2 (by decide) (by decide), Z2⟩
end DE
