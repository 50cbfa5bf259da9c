/-! the relation of a turn, and what each call does to it -/
def Rl (B : Nat) (h : mm_H) : Prop := ∃ (ow : Nat → Nat × Nat) (nm : Nat) (am : Nat → Nat) (P : Nat → Nat) (C : Nat → Nat) (nl : Nat) (al : Nat → Nat) (nb : Nat) (A : Nat → Nat → Nat) (U : Nat → Nat → Nat) (T : Nat → Int32) (tn : Nat) (td : Nat) (ta : Nat) (nw : Nat) (V : Nat → Nat → Nat) (Z : Nat → Nat → Nat) (G : Nat → Nat → Nat) (E : Nat → Nat → Nat), mS B h ∧ mT h ∧ RNow B h ∧ RPo B h ∧ RPt B h ∧ RRd B h ∧ RSh B h ∧ RNe B h ∧ RWe B h ∧ RHa B h ∧ RPl B h ∧ RBk B h ∧ RWo B ow h ∧ RTo B h h ∧ RTp B h h ∧ mm_i h (B + 12) 0 = 0 ∧ RMn B ow h h nm am ∧ RSl B h h nm am ∧ RCo B h h nm am P C ∧ RLt B ow h h nm nl al ∧ RBg B ow h h nm nb A U T ∧ RBz B h nb ∧ REl B ow h h tn td ta ∧ RLw B ow h h nw V Z G E
section RB
variable {B : Nat} {h hx hy hx' hy' h' : mm_H} {ow ow' : Nat → Nat × Nat} {nm nb : Nat} {am : Nat → Nat} {P C : Nat → Nat} {A U : Nat → Nat → Nat} {T : Nat → Int32}
theorem RWo.ofW {W : Nat → Nat → Prop} (R : RWo B ow h) (w : mW W h h') : RWo B ow h' := by
  unfold RWo Lv at *
  rw [w.1.1, w.1.2.1, w.1.2.2.1, w.1.2.2.2.1]
  exact R
theorem RBg.wid (R : RBg B ow hx hy nm nb A U T) {ms : List Nat} (x : mY B ow ms hx hx') (o : mO ow ow' hx) {ms' : List Nat} (y : mY B ow ms' hy hy') (h1 : nBg ms) (h2 : nBh ms') {nm' : Nat} {am' : Nat → Nat} (M : RMn B ow' hx' hy' nm' am') (hn : nm ≤ nm') (ht : ∀ k, k < nm → mm_i hy' (B + 67) k = mm_i hy (B + 67) k) : RBg B ow' hx' hy' nm' nb A U (fun c => mm_i hy' (B + 67) c) := by
  obtain ⟨a1, a2, a3, a4, a5⟩ := R
  refine ⟨a1, a2.up2 rfl (by omega) x o (m := 7) rfl rfl (fun _ => rfl) h1.1, (y.iF (m := 107) (by omega) rfl h2.1).trans a3, fun k hk => ⟨((a4 k hk).1.up (a4 k hk).2 (a2.2.2.2 k hk).1 x y h1 h2).tw hn (fun c hc => (ht c hc).trans (a5 c hc).1), (a4 k hk).2.up (a2.2.2.2 k hk).1 x o h1.1⟩, fun c hc => ?_⟩
  obtain ⟨b1, b2, b3⟩ := (M.2.2.2 c hc).1
  exact ⟨rfl, by show 0 ≤ mm_i hy' (B + 67) c; rw [b1]; exact b2, by show mm_i hy' (B + 67) c ≤ 8; rw [b1]; exact b3⟩
theorem y_oL {b0 : Nat} {b1 : Int32} {b2 : Int64} {b4 : Int32} {K : mm_H → Option (Int32 × mm_H)} {g1 g2 : mm_H} {r : Int32} : ∀ (f : Nat) (x y : Int32) (_ : fX12_order_L30 b0 b1 b2 b4 K f x y g1 = some (r, g2)), K g1 = some (r, g2) ∨ g1 = g2 := by
  intro f
  induction f with
  | zero => intro x y e; cases e
  | succ f ih =>
    intro x y e
    have e2 : fX12_order_L30_b b0 b1 b2 b4 K (fX12_order_L30 b0 b1 b2 b4 K f) x y g1 = some (r, g2) := e
    unfold fX12_order_L30_b at e2
    by_cases c1 : b1 ≤ y
    · rw [if_pos c1] at e2; exact Or.inl e2
    · rw [if_neg c1] at e2
      unfold mm_lt at e2
      dsimp only at e2
      split at e2
      · exact Or.inr (so_2 e2)
      · split at e2
        · exact ih _ _ e2
        · exact Or.inr (so_2 e2)
theorem gz_clock (R : Rl B h) (a : Int32) : ∃ r h1 h2, fX11_clock B a h = some (r, h1) ∧ mm_kd h1 (B + 66) = 13 ∧ fX12_clock (B + 66) a h1 = some (r, h2) ∧ Rl B h2 := by
  obtain ⟨ow, nm, am, P, C, nl, al, nb, A, U, T, tn, td, ta, nw, V, Z, G, E, S, Mt, N, Po, Pt, Rd, Sh, Ne, We, Ha, Pl, Bk, Wo, To, Tp, E12, M, Sl, Co, Lt, Bg, Bz, El, Lw⟩ := R
  obtain ⟨r, h1, h2, f1, f2, w, N2, le⟩ := T_clock S N a
  have x : mY B ow [1, 101] h h2 := wm_wCk w S.1
  have S2 : mS B h2 := x.S S
  refine ⟨r, h1, h2, f1, ?_, f2, ow, nm, am, P, C, nl, al, nb, A, U, T, tn, td, ta, nw, V, Z, G, E,
    S2,
    (Mt.up x),
    (N2),
    (Po.up x (by decide) (by decide)),
    (Pt.up x (by decide)),
    (Rd.up x (by decide) le),
    (Sh.up x (by decide) (by decide)),
    (Ne.up x (by decide) (by decide)),
    (We.up x (by decide) (by decide)),
    (Ha.up x (by decide) (by decide)),
    (Pl.up x (by decide) (by decide)),
    (Bk.up x (by decide) (by decide)),
    (Wo.up x mO.rf (by decide)),
    (To.up x x (by decide) (by decide)),
    (Tp.up x x (by decide) (by decide)),
    ((x.iF (j := 12) (k := 0) (m := 8) (by omega) rfl (by decide)).trans E12),
    (M.up x mO.rf x (by decide) (by decide) le),
    (Sl.up M.2.1 x x (by decide) (by decide)),
    (Co.up M.2.1 x x (by decide) (by decide)),
    (Lt.up x mO.rf x (by decide) (by decide) (Nat.le_refl _) (by have := M.1; omega)),
    (Bg.up x mO.rf x (by decide) (by decide) (by decide)),
    (Bz.up x (by decide)),
    (El.up x mO.rf x (by decide) (by decide)),
    (Lw.up x mO.rf x (by decide) (by decide))⟩
  unfold fX12_clock at f2
  exact ck_h f2
theorem gz_man (R : Rl B h) (a : Int32) (b : Int32) (c : Int32) (hb : b = 0 ∨ b = 1) : ∃ r h1 h2, fX11_man B a b c h = some (r, h1) ∧ mm_kd h1 (B + 66) = 13 ∧ fX12_man (B + 66) a b c h1 = some (r, h2) ∧ Rl B h2 := by
  obtain ⟨ow, nm, am, P, C, nl, al, nb, A, U, T, tn, td, ta, nw, V, Z, G, E, S, Mt, N, Po, Pt, Rd, Sh, Ne, We, Ha, Pl, Bk, Wo, To, Tp, E12, M, Sl, Co, Lt, Bg, Bz, El, Lw⟩ := R
  obtain ⟨r, h1, h2, ow2, nm2, am2, P2, f1, f2, x, o, M2, Sl2, Co2, hn, ham, ht⟩ := T_man2 S N M Sl Co (a := a) (c := c) hb
  have S2 : mS B h2 := x.S S
  refine ⟨r, h1, h2, f1, ?_, f2, ow2, nm2, am2, P2, C, nl, al, nb, A, U, (fun c => mm_i h2 (B + 67) c), tn, td, ta, nw, V, Z, G, E,
    S2,
    (Mt.up x),
    (N.up x (by decide) (by decide)),
    (Po.up x (by decide) (by decide)),
    (Pt.up x (by decide)),
    (Rd.up x (by decide) (le_11 x (by decide))),
    (Sh.up x (by decide) (by decide)),
    (Ne.up x (by decide) (by decide)),
    (We.up x (by decide) (by decide)),
    (Ha.up x (by decide) (by decide)),
    (Pl.up x (by decide) (by decide)),
    (Bk.up x (by decide) (by decide)),
    (Wo.up x o (by decide)),
    (To.up x x (by decide) (by decide)),
    (Tp.up x x (by decide) (by decide)),
    ((x.iF (j := 12) (k := 0) (m := 8) (by omega) rfl (by decide)).trans E12),
    (M2),
    (Sl2),
    (Co2),
    (Lt.up x o x (by decide) (by decide) hn (by have := M2.1; omega)),
    (Bg.wid x o x (by decide) (by decide) M2 hn ht),
    (Bz.up x (by decide)),
    (El.up x o x (by decide) (by decide)),
    (Lw.up x o x (by decide) (by decide))⟩
  unfold fX12_man at f2
  exact ck_h f2
theorem gz_leave (R : Rl B h) (a : Int32) : ∃ r h1 h2, fX11_leave B a h = some (r, h1) ∧ mm_kd h1 (B + 66) = 13 ∧ fX12_leave (B + 66) a h1 = some (r, h2) ∧ Rl B h2 := by
  obtain ⟨ow, nm, am, P, C, nl, al, nb, A, U, T, tn, td, ta, nw, V, Z, G, E, S, Mt, N, Po, Pt, Rd, Sh, Ne, We, Ha, Pl, Bk, Wo, To, Tp, E12, M, Sl, Co, Lt, Bg, Bz, El, Lw⟩ := R
  obtain ⟨r, h1, h2, f1, f2, x, M2⟩ := T_leave S N M a
  have S2 : mS B h2 := x.S S
  refine ⟨r, h1, h2, f1, ?_, f2, ow, nm, am, P, C, nl, al, nb, A, U, T, tn, td, ta, nw, V, Z, G, E,
    S2,
    (Mt.up x),
    (N.up x (by decide) (by decide)),
    (Po.up x (by decide) (by decide)),
    (Pt.up x (by decide)),
    (Rd.up x (by decide) (le_11 x (by decide))),
    (Sh.up x (by decide) (by decide)),
    (Ne.up x (by decide) (by decide)),
    (We.up x (by decide) (by decide)),
    (Ha.up x (by decide) (by decide)),
    (Pl.up x (by decide) (by decide)),
    (Bk.up x (by decide) (by decide)),
    (Wo.up x mO.rf (by decide)),
    (To.up x x (by decide) (by decide)),
    (Tp.up x x (by decide) (by decide)),
    ((x.iF (j := 12) (k := 0) (m := 8) (by omega) rfl (by decide)).trans E12),
    (M2),
    (Sl.up M.2.1 x x (by decide) (by decide)),
    (Co.up M.2.1 x x (by decide) (by decide)),
    (Lt.up x mO.rf x (by decide) (by decide) (Nat.le_refl _) (by have := M.1; omega)),
    (Bg.up x mO.rf x (by decide) (by decide) (by decide)),
    (Bz.up x (by decide)),
    (El.up x mO.rf x (by decide) (by decide)),
    (Lw.up x mO.rf x (by decide) (by decide))⟩
  unfold fX12_leave at f2
  exact ck_h f2
theorem gz_die (R : Rl B h) (a : Int32) : ∃ r h1 h2, fX11_die B a h = some (r, h1) ∧ mm_kd h1 (B + 66) = 13 ∧ fX12_die (B + 66) a h1 = some (r, h2) ∧ Rl B h2 := by
  obtain ⟨ow, nm, am, P, C, nl, al, nb, A, U, T, tn, td, ta, nw, V, Z, G, E, S, Mt, N, Po, Pt, Rd, Sh, Ne, We, Ha, Pl, Bk, Wo, To, Tp, E12, M, Sl, Co, Lt, Bg, Bz, El, Lw⟩ := R
  obtain ⟨r, h1, h2, P2, C2, U2, f1, f2, x, M2, Bg2, Lt2, Co2⟩ := T_die S N M Bg Lt Co a
  have S2 : mS B h2 := x.S S
  refine ⟨r, h1, h2, f1, ?_, f2, ow, nm, am, P2, C2, nl, al, nb, A, U2, T, tn, td, ta, nw, V, Z, G, E,
    S2,
    (Mt.up x),
    (N.up x (by decide) (by decide)),
    (Po.up x (by decide) (by decide)),
    (Pt.up x (by decide)),
    (Rd.up x (by decide) (le_11 x (by decide))),
    (Sh.up x (by decide) (by decide)),
    (Ne.up x (by decide) (by decide)),
    (We.up x (by decide) (by decide)),
    (Ha.up x (by decide) (by decide)),
    (Pl.up x (by decide) (by decide)),
    (Bk.up x (by decide) (by decide)),
    (Wo.up x mO.rf (by decide)),
    (To.up x x (by decide) (by decide)),
    (Tp.up x x (by decide) (by decide)),
    ((x.iF (j := 12) (k := 0) (m := 8) (by omega) rfl (by decide)).trans E12),
    (M2),
    (Sl.up M.2.1 x x (by decide) (by decide)),
    (Co2),
    (Lt2),
    (Bg2),
    (Bz.up x (by decide)),
    (El.up x mO.rf x (by decide) (by decide)),
    (Lw.up x mO.rf x (by decide) (by decide))⟩
  unfold fX12_die at f2
  exact ck_h f2
theorem gz_bring (R : Rl B h) (a : Int32) (b : Int32) (c : Int32) : ∃ r h1 h2, fX11_bring B a b c h = some (r, h1) ∧ mm_kd h1 (B + 66) = 13 ∧ fX12_bring (B + 66) a b c h1 = some (r, h2) ∧ Rl B h2 := by
  obtain ⟨ow, nm, am, P, C, nl, al, nb, A, U, T, tn, td, ta, nw, V, Z, G, E, S, Mt, N, Po, Pt, Rd, Sh, Ne, We, Ha, Pl, Bk, Wo, To, Tp, E12, M, Sl, Co, Lt, Bg, Bz, El, Lw⟩ := R
  obtain ⟨r, h1, h2, ow2, nl2, al2, f1, f2, x, o, Lt2⟩ := T_bring S N M Lt a b c
  have S2 : mS B h2 := x.S S
  refine ⟨r, h1, h2, f1, ?_, f2, ow2, nm, am, P, C, nl2, al2, nb, A, U, T, tn, td, ta, nw, V, Z, G, E,
    S2,
    (Mt.up x),
    (N.up x (by decide) (by decide)),
    (Po.up x (by decide) (by decide)),
    (Pt.up x (by decide)),
    (Rd.up x (by decide) (le_11 x (by decide))),
    (Sh.up x (by decide) (by decide)),
    (Ne.up x (by decide) (by decide)),
    (We.up x (by decide) (by decide)),
    (Ha.up x (by decide) (by decide)),
    (Pl.up x (by decide) (by decide)),
    (Bk.up x (by decide) (by decide)),
    (Wo.up x o (by decide)),
    (To.up x x (by decide) (by decide)),
    (Tp.up x x (by decide) (by decide)),
    ((x.iF (j := 12) (k := 0) (m := 8) (by omega) rfl (by decide)).trans E12),
    (M.up x o x (by decide) (by decide) (le_11 x (by decide))),
    (Sl.up M.2.1 x x (by decide) (by decide)),
    (Co.up M.2.1 x x (by decide) (by decide)),
    (Lt2),
    (Bg.up x o x (by decide) (by decide) (by decide)),
    (Bz.up x (by decide)),
    (El.up x o x (by decide) (by decide)),
    (Lw.up x o x (by decide) (by decide))⟩
  unfold fX12_bring at f2
  exact ck_h f2
theorem gz_lot (R : Rl B h) (a : Int32) (b : Int32) : ∃ r, fX11_lot B a b h = some (r, h) ∧ mm_kd h (B + 66) = 13 ∧ fX12_lot (B + 66) a b h = some (r, h) := by
  obtain ⟨ow, nm, am, P, C, nl, al, nb, A, U, T, tn, td, ta, nw, V, Z, G, E, S, Mt, N, Po, Pt, Rd, Sh, Ne, We, Ha, Pl, Bk, Wo, To, Tp, E12, M, Sl, Co, Lt, Bg, Bz, El, Lw⟩ := R
  obtain ⟨r, f1, f2⟩ := T_lot S Lt a b
  exact ⟨r, f1, sk66 S, f2⟩
theorem gz_men (R : Rl B h) (a : Int32) (b : Int32) : ∃ r, fX11_men B a b h = some (r, h) ∧ mm_kd h (B + 66) = 13 ∧ fX12_men (B + 66) a b h = some (r, h) := by
  obtain ⟨ow, nm, am, P, C, nl, al, nb, A, U, T, tn, td, ta, nw, V, Z, G, E, S, Mt, N, Po, Pt, Rd, Sh, Ne, We, Ha, Pl, Bk, Wo, To, Tp, E12, M, Sl, Co, Lt, Bg, Bz, El, Lw⟩ := R
  obtain ⟨r, f1, f2⟩ := T_men S N M Bg Co a b
  exact ⟨r, f1, sk66 S, f2⟩
theorem gz_feed (R : Rl B h) (a : Int32) (b : Int32) (c : Int32) (d : Int32) (e : Int32) : ∃ r h1 h2, fX11_feed B a b c d e h = some (r, h1) ∧ mm_kd h1 (B + 66) = 13 ∧ fX12_feed (B + 66) a b c d e h1 = some (r, h2) ∧ Rl B h2 := by
  obtain ⟨ow, nm, am, P, C, nl, al, nb, A, U, T, tn, td, ta, nw, V, Z, G, E, S, Mt, N, Po, Pt, Rd, Sh, Ne, We, Ha, Pl, Bk, Wo, To, Tp, E12, M, Sl, Co, Lt, Bg, Bz, El, Lw⟩ := R
  obtain ⟨r, h1, h2, f1, f2, x, Tp2⟩ := T_feed S Tp ow a b c d e
  have S2 : mS B h2 := x.S S
  refine ⟨r, h1, h2, f1, ?_, f2, ow, nm, am, P, C, nl, al, nb, A, U, T, tn, td, ta, nw, V, Z, G, E,
    S2,
    (Mt.up x),
    (N.up x (by decide) (by decide)),
    (Po.up x (by decide) (by decide)),
    (Pt.up x (by decide)),
    (Rd.up x (by decide) (le_11 x (by decide))),
    (Sh.up x (by decide) (by decide)),
    (Ne.up x (by decide) (by decide)),
    (We.up x (by decide) (by decide)),
    (Ha.up x (by decide) (by decide)),
    (Pl.up x (by decide) (by decide)),
    (Bk.up x (by decide) (by decide)),
    (Wo.up x mO.rf (by decide)),
    (To.up x x (by decide) (by decide)),
    (Tp2),
    ((x.iF (j := 12) (k := 0) (m := 8) (by omega) rfl (by decide)).trans E12),
    (M.up x mO.rf x (by decide) (by decide) (le_11 x (by decide))),
    (Sl.up M.2.1 x x (by decide) (by decide)),
    (Co.up M.2.1 x x (by decide) (by decide)),
    (Lt.up x mO.rf x (by decide) (by decide) (Nat.le_refl _) (by have := M.1; omega)),
    (Bg.up x mO.rf x (by decide) (by decide) (by decide)),
    (Bz.up x (by decide)),
    (El.up x mO.rf x (by decide) (by decide)),
    (Lw.up x mO.rf x (by decide) (by decide))⟩
  unfold fX12_feed at f2
  exact ck_h f2
theorem gz_end (R : Rl B h) (a : Int32) : ∃ r h1 h2, fX11_end B a h = some (r, h1) ∧ mm_kd h1 (B + 66) = 13 ∧ fX12_end (B + 66) a h1 = some (r, h2) ∧ Rl B h2 := by
  obtain ⟨ow, nm, am, P, C, nl, al, nb, A, U, T, tn, td, ta, nw, V, Z, G, E, S, Mt, N, Po, Pt, Rd, Sh, Ne, We, Ha, Pl, Bk, Wo, To, Tp, E12, M, Sl, Co, Lt, Bg, Bz, El, Lw⟩ := R
  obtain ⟨r, h1, h2, f1, f2, x, Tp2⟩ := T_end S Tp ow a
  have S2 : mS B h2 := x.S S
  refine ⟨r, h1, h2, f1, ?_, f2, ow, nm, am, P, C, nl, al, nb, A, U, T, tn, td, ta, nw, V, Z, G, E,
    S2,
    (Mt.up x),
    (N.up x (by decide) (by decide)),
    (Po.up x (by decide) (by decide)),
    (Pt.up x (by decide)),
    (Rd.up x (by decide) (le_11 x (by decide))),
    (Sh.up x (by decide) (by decide)),
    (Ne.up x (by decide) (by decide)),
    (We.up x (by decide) (by decide)),
    (Ha.up x (by decide) (by decide)),
    (Pl.up x (by decide) (by decide)),
    (Bk.up x (by decide) (by decide)),
    (Wo.up x mO.rf (by decide)),
    (To.up x x (by decide) (by decide)),
    (Tp2),
    ((x.iF (j := 12) (k := 0) (m := 8) (by omega) rfl (by decide)).trans E12),
    (M.up x mO.rf x (by decide) (by decide) (le_11 x (by decide))),
    (Sl.up M.2.1 x x (by decide) (by decide)),
    (Co.up M.2.1 x x (by decide) (by decide)),
    (Lt.up x mO.rf x (by decide) (by decide) (Nat.le_refl _) (by have := M.1; omega)),
    (Bg.up x mO.rf x (by decide) (by decide) (by decide)),
    (Bz.up x (by decide)),
    (El.up x mO.rf x (by decide) (by decide)),
    (Lw.up x mO.rf x (by decide) (by decide))⟩
  unfold fX12_end at f2
  by_cases q : a < 0
  · rw [if_pos q] at f2; exact so_2 f2 ▸ sk66 S2
  · rw [if_neg q] at f2; exact ck_h f2
theorem gz_law (R : Rl B h) (a : Int32) (b : Int32) : ∃ r h1 h2, fX11_law B a b h = some (r, h1) ∧ mm_kd h1 (B + 66) = 13 ∧ fX12_law (B + 66) a b h1 = some (r, h2) ∧ Rl B h2 := by
  obtain ⟨ow, nm, am, P, C, nl, al, nb, A, U, T, tn, td, ta, nw, V, Z, G, E, S, Mt, N, Po, Pt, Rd, Sh, Ne, We, Ha, Pl, Bk, Wo, To, Tp, E12, M, Sl, Co, Lt, Bg, Bz, El, Lw⟩ := R
  obtain ⟨r, h1, h2, ow2, nw2, V2, Z2, G2, E3, f1, f2, x, o, Lw2, Tp2, E2⟩ := T_law S Mt N Tp Lw E12 a b
  have S2 : mS B h2 := x.S S
  refine ⟨r, h1, h2, f1, ?_, f2, ow2, nm, am, P, C, nl, al, nb, A, U, T, tn, td, ta, nw2, V2, Z2, G2, E3,
    S2,
    (Mt.up x),
    (N.up x (by decide) (by decide)),
    (Po.up x (by decide) (by decide)),
    (Pt.up x (by decide)),
    (Rd.up x (by decide) (le_11 x (by decide))),
    (Sh.up x (by decide) (by decide)),
    (Ne.up x (by decide) (by decide)),
    (We.up x (by decide) (by decide)),
    (Ha.up x (by decide) (by decide)),
    (Pl.up x (by decide) (by decide)),
    (Bk.up x (by decide) (by decide)),
    (Wo.up x o (by decide)),
    (To.up x x (by decide) (by decide)),
    (Tp2),
    (E2),
    (M.up x o x (by decide) (by decide) (le_11 x (by decide))),
    (Sl.up M.2.1 x x (by decide) (by decide)),
    (Co.up M.2.1 x x (by decide) (by decide)),
    (Lt.up x o x (by decide) (by decide) (Nat.le_refl _) (by have := M.1; omega)),
    (Bg.up x o x (by decide) (by decide) (by decide)),
    (Bz.up x (by decide)),
    (El.up x o x (by decide) (by decide)),
    (Lw2)⟩
  unfold fX12_law at f2
  exact ck_h f2
theorem gz_read (R : Rl B h) (a : Int32) : ∃ r h1 h2, fX11_read B a h = some (r, h1) ∧ mm_kd h1 (B + 66) = 13 ∧ fX12_read (B + 66) a h1 = some (r, h2) ∧ Rl B h2 := by
  obtain ⟨ow, nm, am, P, C, nl, al, nb, A, U, T, tn, td, ta, nw, V, Z, G, E, S, Mt, N, Po, Pt, Rd, Sh, Ne, We, Ha, Pl, Bk, Wo, To, Tp, E12, M, Sl, Co, Lt, Bg, Bz, El, Lw⟩ := R
  obtain ⟨r, h1, h2, f1, f2, x, Lw2⟩ := T_read S N Lw a
  have S2 : mS B h2 := x.S S
  refine ⟨r, h1, h2, f1, ?_, f2, ow, nm, am, P, C, nl, al, nb, A, U, T, tn, td, ta, nw, V, Z, G, E,
    S2,
    (Mt.up x),
    (N.up x (by decide) (by decide)),
    (Po.up x (by decide) (by decide)),
    (Pt.up x (by decide)),
    (Rd.up x (by decide) (le_11 x (by decide))),
    (Sh.up x (by decide) (by decide)),
    (Ne.up x (by decide) (by decide)),
    (We.up x (by decide) (by decide)),
    (Ha.up x (by decide) (by decide)),
    (Pl.up x (by decide) (by decide)),
    (Bk.up x (by decide) (by decide)),
    (Wo.up x mO.rf (by decide)),
    (To.up x x (by decide) (by decide)),
    (Tp.up x x (by decide) (by decide)),
    ((x.iF (j := 12) (k := 0) (m := 8) (by omega) rfl (by decide)).trans E12),
    (M.up x mO.rf x (by decide) (by decide) (le_11 x (by decide))),
    (Sl.up M.2.1 x x (by decide) (by decide)),
    (Co.up M.2.1 x x (by decide) (by decide)),
    (Lt.up x mO.rf x (by decide) (by decide) (Nat.le_refl _) (by have := M.1; omega)),
    (Bg.up x mO.rf x (by decide) (by decide) (by decide)),
    (Bz.up x (by decide)),
    (El.up x mO.rf x (by decide) (by decide)),
    (Lw2)⟩
  unfold fX12_read at f2
  exact ck_h f2
theorem gz_laws (R : Rl B h) (a : Int32) (b : Int32) : ∃ r, fX11_laws B a b h = some (r, h) ∧ mm_kd h (B + 66) = 13 ∧ fX12_laws (B + 66) a b h = some (r, h) := by
  obtain ⟨ow, nm, am, P, C, nl, al, nb, A, U, T, tn, td, ta, nw, V, Z, G, E, S, Mt, N, Po, Pt, Rd, Sh, Ne, We, Ha, Pl, Bk, Wo, To, Tp, E12, M, Sl, Co, Lt, Bg, Bz, El, Lw⟩ := R
  obtain ⟨r, f1, f2⟩ := T_laws S Lw a b
  exact ⟨r, f1, sk66 S, f2⟩
theorem gz_force (R : Rl B h) (a : Int32) (b : Int32) : ∃ r, fX11_force B a b h = some (r, h) ∧ mm_kd h (B + 66) = 13 ∧ fX12_force (B + 66) a b h = some (r, h) := by
  obtain ⟨ow, nm, am, P, C, nl, al, nb, A, U, T, tn, td, ta, nw, V, Z, G, E, S, Mt, N, Po, Pt, Rd, Sh, Ne, We, Ha, Pl, Bk, Wo, To, Tp, E12, M, Sl, Co, Lt, Bg, Bz, El, Lw⟩ := R
  obtain ⟨r, f1, f2⟩ := T_force S Lw a b
  exact ⟨r, f1, sk66 S, f2⟩
theorem gz_verdict (R : Rl B h) (a : Int32) (b : Int32) (c : Int32) (d : Int32) (e : Int32) (f : Int32) (g : Int32) : ∃ r h1 h2, fX11_verdict B a b c d e f g h = some (r, h1) ∧ mm_kd h1 (B + 66) = 13 ∧ fX12_verdict (B + 66) a b c d e f g h1 = some (r, h2) ∧ Rl B h2 := by
  obtain ⟨ow, nm, am, P, C, nl, al, nb, A, U, T, tn, td, ta, nw, V, Z, G, E, S, Mt, N, Po, Pt, Rd, Sh, Ne, We, Ha, Pl, Bk, Wo, To, Tp, E12, M, Sl, Co, Lt, Bg, Bz, El, Lw⟩ := R
  obtain ⟨r, h1, h2, f1, f2, x, To2⟩ := T_verdict S N M Lt Bg El Lw Po Pt Ne To a b c d e f g
  have S2 : mS B h2 := x.S S
  refine ⟨r, h1, h2, f1, ?_, f2, ow, nm, am, P, C, nl, al, nb, A, U, T, tn, td, ta, nw, V, Z, G, E,
    S2,
    (Mt.up x),
    (N.up x (by decide) (by decide)),
    (Po.up x (by decide) (by decide)),
    (Pt.up x (by decide)),
    (Rd.up x (by decide) (le_11 x (by decide))),
    (Sh.up x (by decide) (by decide)),
    (Ne.up x (by decide) (by decide)),
    (We.up x (by decide) (by decide)),
    (Ha.up x (by decide) (by decide)),
    (Pl.up x (by decide) (by decide)),
    (Bk.up x (by decide) (by decide)),
    (Wo.up x mO.rf (by decide)),
    (To2),
    (Tp.up x x (by decide) (by decide)),
    ((x.iF (j := 12) (k := 0) (m := 8) (by omega) rfl (by decide)).trans E12),
    (M.up x mO.rf x (by decide) (by decide) (le_11 x (by decide))),
    (Sl.up M.2.1 x x (by decide) (by decide)),
    (Co.up M.2.1 x x (by decide) (by decide)),
    (Lt.up x mO.rf x (by decide) (by decide) (Nat.le_refl _) (by have := M.1; omega)),
    (Bg.up x mO.rf x (by decide) (by decide) (by decide)),
    (Bz.up x (by decide)),
    (El.up x mO.rf x (by decide) (by decide)),
    (Lw.up x mO.rf x (by decide) (by decide))⟩
  unfold fX12_verdict at f2
  exact ck_h f2
theorem gz_told (R : Rl B h) (a : Int32) : ∃ r, fX11_told B a h = some (r, h) ∧ mm_kd h (B + 66) = 13 ∧ fX12_told (B + 66) a h = some (r, h) := by
  obtain ⟨ow, nm, am, P, C, nl, al, nb, A, U, T, tn, td, ta, nw, V, Z, G, E, S, Mt, N, Po, Pt, Rd, Sh, Ne, We, Ha, Pl, Bk, Wo, To, Tp, E12, M, Sl, Co, Lt, Bg, Bz, El, Lw⟩ := R
  obtain ⟨r, f1, f2⟩ := T_told S To a
  exact ⟨r, f1, sk66 S, f2⟩
theorem gz_shut (R : Rl B h) (a : Int32) (b : Int32) (c : Int32) : ∃ r h1 h2, fX11_shut B a b c h = some (r, h1) ∧ mm_kd h1 (B + 66) = 13 ∧ fX12_shut (B + 66) a b c h1 = some (r, h2) ∧ Rl B h2 := by
  obtain ⟨ow, nm, am, P, C, nl, al, nb, A, U, T, tn, td, ta, nw, V, Z, G, E, S, Mt, N, Po, Pt, Rd, Sh, Ne, We, Ha, Pl, Bk, Wo, To, Tp, E12, M, Sl, Co, Lt, Bg, Bz, El, Lw⟩ := R
  obtain ⟨r, h1, h2, f1, f2, w, Po2, w33⟩ := T_shut3 S Po a b c
  have x : mY B ow [11, 111] h h2 := wm_wPo w S.1
  have S2 : mS B h2 := x.S S
  refine ⟨r, h1, h2, f1, ?_, f2, ow, nm, am, P, C, nl, al, nb, A, U, T, tn, td, ta, nw, V, Z, G, E,
    S2,
    (Mt.up x),
    (N.up x (by decide) (by decide)),
    (Po2),
    (fun k => by
      rcases (w33 k).1 with e | e
      · rw [e]; exact Pt k
      · exact e),
    (fun k hk => by
      rw [x.i0 (k := 11) (m := 1) rfl (by decide)]
      rcases (w33 k).2 with e | e
      · rw [e]; exact Rd k hk
      · rw [e]; exact Int32.le_trans (by decide) N.2.1),
    (Sh.up x (by decide) (by decide)),
    (Ne.up x (by decide) (by decide)),
    (We.up x (by decide) (by decide)),
    (Ha.up x (by decide) (by decide)),
    (Pl.up x (by decide) (by decide)),
    (Bk.up x (by decide) (by decide)),
    (Wo.up x mO.rf (by decide)),
    (To.up x x (by decide) (by decide)),
    (Tp.up x x (by decide) (by decide)),
    ((x.iF (j := 12) (k := 0) (m := 8) (by omega) rfl (by decide)).trans E12),
    (M.up x mO.rf x (by decide) (by decide) (le_11 x (by decide))),
    (Sl.up M.2.1 x x (by decide) (by decide)),
    (Co.up M.2.1 x x (by decide) (by decide)),
    (Lt.up x mO.rf x (by decide) (by decide) (Nat.le_refl _) (by have := M.1; omega)),
    (Bg.up x mO.rf x (by decide) (by decide) (by decide)),
    (Bz.up x (by decide)),
    (El.up x mO.rf x (by decide) (by decide)),
    (Lw.up x mO.rf x (by decide) (by decide))⟩
  unfold fX12_shut at f2
  exact ck_h f2
theorem gz_readShut (R : Rl B h) (a : Int32) : ∃ r h1 h2, fX11_readShut B a h = some (r, h1) ∧ mm_kd h1 (B + 66) = 13 ∧ fX12_readShut (B + 66) a h1 = some (r, h2) ∧ Rl B h2 := by
  obtain ⟨ow, nm, am, P, C, nl, al, nb, A, U, T, tn, td, ta, nw, V, Z, G, E, S, Mt, N, Po, Pt, Rd, Sh, Ne, We, Ha, Pl, Bk, Wo, To, Tp, E12, M, Sl, Co, Lt, Bg, Bz, El, Lw⟩ := R
  obtain ⟨r, h1, h2, f1, f2, w, Po2, w36⟩ := T_readShut S N Po a
  have x : mY B ow [11, 111] h h2 := wm_wRd w S.1
  have S2 : mS B h2 := x.S S
  refine ⟨r, h1, h2, f1, ?_, f2, ow, nm, am, P, C, nl, al, nb, A, U, T, tn, td, ta, nw, V, Z, G, E,
    S2,
    (Mt.up x),
    (N.up x (by decide) (by decide)),
    (Po2),
    (fun k => by
      rw [w.i (a := B + 33) (k := k) (by unfold wRd; omega)]; exact Pt k),
    (fun k hk => by
      rw [x.i0 (k := 11) (m := 1) rfl (by decide)]
      rcases w36 k with e | e
      · rw [e]; exact Rd k hk
      · rw [e]; exact Int32.le_refl _),
    (Sh.up x (by decide) (by decide)),
    (Ne.up x (by decide) (by decide)),
    (We.up x (by decide) (by decide)),
    (Ha.up x (by decide) (by decide)),
    (Pl.up x (by decide) (by decide)),
    (Bk.up x (by decide) (by decide)),
    (Wo.up x mO.rf (by decide)),
    (To.up x x (by decide) (by decide)),
    (Tp.up x x (by decide) (by decide)),
    ((x.iF (j := 12) (k := 0) (m := 8) (by omega) rfl (by decide)).trans E12),
    (M.up x mO.rf x (by decide) (by decide) (le_11 x (by decide))),
    (Sl.up M.2.1 x x (by decide) (by decide)),
    (Co.up M.2.1 x x (by decide) (by decide)),
    (Lt.up x mO.rf x (by decide) (by decide) (Nat.le_refl _) (by have := M.1; omega)),
    (Bg.up x mO.rf x (by decide) (by decide) (by decide)),
    (Bz.up x (by decide)),
    (El.up x mO.rf x (by decide) (by decide)),
    (Lw.up x mO.rf x (by decide) (by decide))⟩
  unfold fX12_readShut at f2
  exact ck_h f2
theorem gz_isShut (R : Rl B h) (a : Int32) (b : Int32) (c : Int32) : ∃ r, fX11_isShut B a b c h = some (r, h) ∧ mm_kd h (B + 66) = 13 ∧ fX12_isShut (B + 66) a b c h = some (r, h) := by
  obtain ⟨ow, nm, am, P, C, nl, al, nb, A, U, T, tn, td, ta, nw, V, Z, G, E, S, Mt, N, Po, Pt, Rd, Sh, Ne, We, Ha, Pl, Bk, Wo, To, Tp, E12, M, Sl, Co, Lt, Bg, Bz, El, Lw⟩ := R
  obtain ⟨r, f1, f2⟩ := T_isShut S Po a b c
  exact ⟨r, f1, sk66 S, f2⟩
theorem gz_deal (R : Rl B h) (a : Int32) (b : Int32) (c : Int32) (d : Int32) (e : Int32) (f : Int32) (g : Int32) : ∃ r h1 h2, fX11_deal B a b c d e f g h = some (r, h1) ∧ mm_kd h1 (B + 66) = 13 ∧ fX12_deal (B + 66) a b c d e f g h1 = some (r, h2) ∧ Rl B h2 := by
  obtain ⟨ow, nm, am, P, C, nl, al, nb, A, U, T, tn, td, ta, nw, V, Z, G, E, S, Mt, N, Po, Pt, Rd, Sh, Ne, We, Ha, Pl, Bk, Wo, To, Tp, E12, M, Sl, Co, Lt, Bg, Bz, El, Lw⟩ := R
  obtain ⟨r, h1, h2, ow2, nl2, al2, nb2, A2, U2, P2, C2, f1, f2, x, o, Lt2, Bg2, Co2, To2, Bz2⟩ := T_deal S N M Lt Bg Co Bz El Lw Po Pt Ne To a b c d e f g
  have S2 : mS B h2 := x.S S
  refine ⟨r, h1, h2, f1, ?_, f2, ow2, nm, am, P2, C2, nl2, al2, nb2, A2, U2, T, tn, td, ta, nw, V, Z, G, E,
    S2,
    (Mt.up x),
    (N.up x (by decide) (by decide)),
    (Po.up x (by decide) (by decide)),
    (Pt.up x (by decide)),
    (Rd.up x (by decide) (le_11 x (by decide))),
    (Sh.up x (by decide) (by decide)),
    (Ne.up x (by decide) (by decide)),
    (We.up x (by decide) (by decide)),
    (Ha.up x (by decide) (by decide)),
    (Pl.up x (by decide) (by decide)),
    (Bk.up x (by decide) (by decide)),
    (Wo.up x o (by decide)),
    (To2),
    (Tp.up x x (by decide) (by decide)),
    ((x.iF (j := 12) (k := 0) (m := 8) (by omega) rfl (by decide)).trans E12),
    (M.up x o x (by decide) (by decide) (le_11 x (by decide))),
    (Sl.up M.2.1 x x (by decide) (by decide)),
    (Co2),
    (Lt2),
    (Bg2),
    (Bz2),
    (El.up x o x (by decide) (by decide)),
    (Lw.up x o x (by decide) (by decide))⟩
  unfold fX12_deal at f2
  exact ck_h f2
theorem gz_bargain (R : Rl B h) (a : Int32) (b : Int32) : ∃ r, fX11_bargain B a b h = some (r, h) ∧ mm_kd h (B + 66) = 13 ∧ fX12_bargain (B + 66) a b h = some (r, h) := by
  obtain ⟨ow, nm, am, P, C, nl, al, nb, A, U, T, tn, td, ta, nw, V, Z, G, E, S, Mt, N, Po, Pt, Rd, Sh, Ne, We, Ha, Pl, Bk, Wo, To, Tp, E12, M, Sl, Co, Lt, Bg, Bz, El, Lw⟩ := R
  obtain ⟨r, f1, f2⟩ := T_bargain S Bg a b
  exact ⟨r, f1, sk66 S, f2⟩
theorem gz_surety (R : Rl B h) (a : Int32) (b : Int32) : ∃ r h1 h2, fX11_surety B a b h = some (r, h1) ∧ mm_kd h1 (B + 66) = 13 ∧ fX12_surety (B + 66) a b h1 = some (r, h2) ∧ Rl B h2 := by
  obtain ⟨ow, nm, am, P, C, nl, al, nb, A, U, T, tn, td, ta, nw, V, Z, G, E, S, Mt, N, Po, Pt, Rd, Sh, Ne, We, Ha, Pl, Bk, Wo, To, Tp, E12, M, Sl, Co, Lt, Bg, Bz, El, Lw⟩ := R
  obtain ⟨r, h1, h2, U2, f1, f2, x, Bg2, w⟩ := T_surety S N M Bg a b
  have S2 : mS B h2 := x.S S
  refine ⟨r, h1, h2, f1, ?_, f2, ow, nm, am, P, C, nl, al, nb, A, U2, T, tn, td, ta, nw, V, Z, G, E,
    S2,
    (Mt.up x),
    (N.up x (by decide) (by decide)),
    (Po.up x (by decide) (by decide)),
    (Pt.up x (by decide)),
    (Rd.up x (by decide) (le_11 x (by decide))),
    (Sh.up x (by decide) (by decide)),
    (Ne.up x (by decide) (by decide)),
    (We.up x (by decide) (by decide)),
    (Ha.up x (by decide) (by decide)),
    (Pl.up x (by decide) (by decide)),
    (Bk.up x (by decide) (by decide)),
    (Wo.up x mO.rf (by decide)),
    (To.up x x (by decide) (by decide)),
    (Tp.up x x (by decide) (by decide)),
    ((x.iF (j := 12) (k := 0) (m := 8) (by omega) rfl (by decide)).trans E12),
    (M.up x mO.rf x (by decide) (by decide) (le_11 x (by decide))),
    (Sl.up M.2.1 x x (by decide) (by decide)),
    (Co.up M.2.1 x x (by decide) (by decide)),
    (Lt.up x mO.rf x (by decide) (by decide) (Nat.le_refl _) (by have := M.1; omega)),
    (Bg2),
    (fun j h8 h9 => (w j h8).trans (Bz j h8 h9)),
    (El.up x mO.rf x (by decide) (by decide)),
    (Lw.up x mO.rf x (by decide) (by decide))⟩
  unfold fX12_surety at f2
  exact ck_h f2
theorem gz_sureties (R : Rl B h) (a : Int32) (b : Int32) (c : Int32) : ∃ r, fX11_sureties B a b c h = some (r, h) ∧ mm_kd h (B + 66) = 13 ∧ fX12_sureties (B + 66) a b c h = some (r, h) := by
  obtain ⟨ow, nm, am, P, C, nl, al, nb, A, U, T, tn, td, ta, nw, V, Z, G, E, S, Mt, N, Po, Pt, Rd, Sh, Ne, We, Ha, Pl, Bk, Wo, To, Tp, E12, M, Sl, Co, Lt, Bg, Bz, El, Lw⟩ := R
  obtain ⟨r, f1, f2⟩ := T_sureties S Bg a b c
  exact ⟨r, f1, sk66 S, f2⟩
theorem gz_pay (R : Rl B h) (a : Int32) (b : Int32) : ∃ r h1 h2, fX11_pay B a b h = some (r, h1) ∧ mm_kd h1 (B + 66) = 13 ∧ fX12_pay (B + 66) a b h1 = some (r, h2) ∧ Rl B h2 := by
  obtain ⟨ow, nm, am, P, C, nl, al, nb, A, U, T, tn, td, ta, nw, V, Z, G, E, S, Mt, N, Po, Pt, Rd, Sh, Ne, We, Ha, Pl, Bk, Wo, To, Tp, E12, M, Sl, Co, Lt, Bg, Bz, El, Lw⟩ := R
  obtain ⟨r, h1, h2, P2, C2, U2, f1, f2, x, Co2, Bg2⟩ := T_pay S M Bg Co a b
  have S2 : mS B h2 := x.S S
  refine ⟨r, h1, h2, f1, ?_, f2, ow, nm, am, P2, C2, nl, al, nb, A, U2, T, tn, td, ta, nw, V, Z, G, E,
    S2,
    (Mt.up x),
    (N.up x (by decide) (by decide)),
    (Po.up x (by decide) (by decide)),
    (Pt.up x (by decide)),
    (Rd.up x (by decide) (le_11 x (by decide))),
    (Sh.up x (by decide) (by decide)),
    (Ne.up x (by decide) (by decide)),
    (We.up x (by decide) (by decide)),
    (Ha.up x (by decide) (by decide)),
    (Pl.up x (by decide) (by decide)),
    (Bk.up x (by decide) (by decide)),
    (Wo.up x mO.rf (by decide)),
    (To.up x x (by decide) (by decide)),
    (Tp.up x x (by decide) (by decide)),
    ((x.iF (j := 12) (k := 0) (m := 8) (by omega) rfl (by decide)).trans E12),
    (M.up x mO.rf x (by decide) (by decide) (le_11 x (by decide))),
    (Sl.up M.2.1 x x (by decide) (by decide)),
    (Co2),
    (Lt.up x mO.rf x (by decide) (by decide) (Nat.le_refl _) (by have := M.1; omega)),
    (Bg2),
    (Bz.up x (by decide)),
    (El.up x mO.rf x (by decide) (by decide)),
    (Lw.up x mO.rf x (by decide) (by decide))⟩
  unfold fX12_pay at f2
  exact ck_h f2
theorem gz_call (R : Rl B h) (a : Int32) : ∃ r h1 h2, fX11_call B a h = some (r, h1) ∧ mm_kd h1 (B + 66) = 13 ∧ fX12_call (B + 66) a h1 = some (r, h2) ∧ Rl B h2 := by
  obtain ⟨ow, nm, am, P, C, nl, al, nb, A, U, T, tn, td, ta, nw, V, Z, G, E, S, Mt, N, Po, Pt, Rd, Sh, Ne, We, Ha, Pl, Bk, Wo, To, Tp, E12, M, Sl, Co, Lt, Bg, Bz, El, Lw⟩ := R
  obtain ⟨r, h1, h2, P2, C2, U2, f1, f2, x, Co2, Bg2⟩ := T_call S N M Bg Co a
  have S2 : mS B h2 := x.S S
  refine ⟨r, h1, h2, f1, ?_, f2, ow, nm, am, P2, C2, nl, al, nb, A, U2, T, tn, td, ta, nw, V, Z, G, E,
    S2,
    (Mt.up x),
    (N.up x (by decide) (by decide)),
    (Po.up x (by decide) (by decide)),
    (Pt.up x (by decide)),
    (Rd.up x (by decide) (le_11 x (by decide))),
    (Sh.up x (by decide) (by decide)),
    (Ne.up x (by decide) (by decide)),
    (We.up x (by decide) (by decide)),
    (Ha.up x (by decide) (by decide)),
    (Pl.up x (by decide) (by decide)),
    (Bk.up x (by decide) (by decide)),
    (Wo.up x mO.rf (by decide)),
    (To.up x x (by decide) (by decide)),
    (Tp.up x x (by decide) (by decide)),
    ((x.iF (j := 12) (k := 0) (m := 8) (by omega) rfl (by decide)).trans E12),
    (M.up x mO.rf x (by decide) (by decide) (le_11 x (by decide))),
    (Sl.up M.2.1 x x (by decide) (by decide)),
    (Co2),
    (Lt.up x mO.rf x (by decide) (by decide) (Nat.le_refl _) (by have := M.1; omega)),
    (Bg2),
    (Bz.up x (by decide)),
    (El.up x mO.rf x (by decide) (by decide)),
    (Lw.up x mO.rf x (by decide) (by decide))⟩
  unfold fX12_call at f2
  exact ck_h f2
theorem gz_claim (R : Rl B h) (a : Int32) (b : Int32) (c : Int32) : ∃ r h1 h2, fX11_claim B a b c h = some (r, h1) ∧ mm_kd h1 (B + 66) = 13 ∧ fX12_claim (B + 66) a b c h1 = some (r, h2) ∧ Rl B h2 := by
  obtain ⟨ow, nm, am, P, C, nl, al, nb, A, U, T, tn, td, ta, nw, V, Z, G, E, S, Mt, N, Po, Pt, Rd, Sh, Ne, We, Ha, Pl, Bk, Wo, To, Tp, E12, M, Sl, Co, Lt, Bg, Bz, El, Lw⟩ := R
  obtain ⟨r, h1, h2, P2, C2, U2, f1, f2, x, Co2, Bg2⟩ := T_claim S M Bg Co a b c
  have S2 : mS B h2 := x.S S
  refine ⟨r, h1, h2, f1, ?_, f2, ow, nm, am, P2, C2, nl, al, nb, A, U2, T, tn, td, ta, nw, V, Z, G, E,
    S2,
    (Mt.up x),
    (N.up x (by decide) (by decide)),
    (Po.up x (by decide) (by decide)),
    (Pt.up x (by decide)),
    (Rd.up x (by decide) (le_11 x (by decide))),
    (Sh.up x (by decide) (by decide)),
    (Ne.up x (by decide) (by decide)),
    (We.up x (by decide) (by decide)),
    (Ha.up x (by decide) (by decide)),
    (Pl.up x (by decide) (by decide)),
    (Bk.up x (by decide) (by decide)),
    (Wo.up x mO.rf (by decide)),
    (To.up x x (by decide) (by decide)),
    (Tp.up x x (by decide) (by decide)),
    ((x.iF (j := 12) (k := 0) (m := 8) (by omega) rfl (by decide)).trans E12),
    (M.up x mO.rf x (by decide) (by decide) (le_11 x (by decide))),
    (Sl.up M.2.1 x x (by decide) (by decide)),
    (Co2),
    (Lt.up x mO.rf x (by decide) (by decide) (Nat.le_refl _) (by have := M.1; omega)),
    (Bg2),
    (Bz.up x (by decide)),
    (El.up x mO.rf x (by decide) (by decide)),
    (Lw.up x mO.rf x (by decide) (by decide))⟩
  unfold fX12_claim at f2
  exact ck_h f2
theorem gz_chest (R : Rl B h) (a : Int32) : ∃ r, fX11_chest B a h = some (r, h) ∧ mm_kd h (B + 66) = 13 ∧ fX12_chest (B + 66) a h = some (r, h) := by
  obtain ⟨ow, nm, am, P, C, nl, al, nb, A, U, T, tn, td, ta, nw, V, Z, G, E, S, Mt, N, Po, Pt, Rd, Sh, Ne, We, Ha, Pl, Bk, Wo, To, Tp, E12, M, Sl, Co, Lt, Bg, Bz, El, Lw⟩ := R
  obtain ⟨r, f1, f2⟩ := T_chest S Co a
  exact ⟨r, f1, sk66 S, f2⟩
theorem gz_weigh (R : Rl B h) (a : Int32) (b : Int32) (c : Int32) : ∃ r h1 h2, fX11_weigh B a b c h = some (r, h1) ∧ mm_kd h1 (B + 66) = 13 ∧ fX12_weigh (B + 66) a b c h1 = some (r, h2) ∧ Rl B h2 := by
  obtain ⟨ow, nm, am, P, C, nl, al, nb, A, U, T, tn, td, ta, nw, V, Z, G, E, S, Mt, N, Po, Pt, Rd, Sh, Ne, We, Ha, Pl, Bk, Wo, To, Tp, E12, M, Sl, Co, Lt, Bg, Bz, El, Lw⟩ := R
  obtain ⟨r, h1, h2, f1, f2, w, We2⟩ := T_weigh S N We a b c
  have x : mY B ow [13, 113] h h2 := wm_wWe w S.1
  have S2 : mS B h2 := x.S S
  refine ⟨r, h1, h2, f1, ?_, f2, ow, nm, am, P, C, nl, al, nb, A, U, T, tn, td, ta, nw, V, Z, G, E,
    S2,
    (Mt.up x),
    (N.up x (by decide) (by decide)),
    (Po.up x (by decide) (by decide)),
    (Pt.up x (by decide)),
    (Rd.up x (by decide) (le_11 x (by decide))),
    (Sh.up x (by decide) (by decide)),
    (Ne.up x (by decide) (by decide)),
    (We2),
    (Ha.up x (by decide) (by decide)),
    (Pl.up x (by decide) (by decide)),
    (Bk.up x (by decide) (by decide)),
    (Wo.up x mO.rf (by decide)),
    (To.up x x (by decide) (by decide)),
    (Tp.up x x (by decide) (by decide)),
    ((x.iF (j := 12) (k := 0) (m := 8) (by omega) rfl (by decide)).trans E12),
    (M.up x mO.rf x (by decide) (by decide) (le_11 x (by decide))),
    (Sl.up M.2.1 x x (by decide) (by decide)),
    (Co.up M.2.1 x x (by decide) (by decide)),
    (Lt.up x mO.rf x (by decide) (by decide) (Nat.le_refl _) (by have := M.1; omega)),
    (Bg.up x mO.rf x (by decide) (by decide) (by decide)),
    (Bz.up x (by decide)),
    (El.up x mO.rf x (by decide) (by decide)),
    (Lw.up x mO.rf x (by decide) (by decide))⟩
  unfold fX12_weigh at f2
  exact ck_h f2
theorem gz_takeBack (R : Rl B h) (a : Int32) : ∃ r h1 h2, fX11_takeBack B a h = some (r, h1) ∧ mm_kd h1 (B + 66) = 13 ∧ fX12_takeBack (B + 66) a h1 = some (r, h2) ∧ Rl B h2 := by
  obtain ⟨ow, nm, am, P, C, nl, al, nb, A, U, T, tn, td, ta, nw, V, Z, G, E, S, Mt, N, Po, Pt, Rd, Sh, Ne, We, Ha, Pl, Bk, Wo, To, Tp, E12, M, Sl, Co, Lt, Bg, Bz, El, Lw⟩ := R
  obtain ⟨r, h1, h2, f1, f2, w, We2⟩ := T_takeBack S N We a
  have x : mY B ow [13, 113] h h2 := wm_wWe w S.1
  have S2 : mS B h2 := x.S S
  refine ⟨r, h1, h2, f1, ?_, f2, ow, nm, am, P, C, nl, al, nb, A, U, T, tn, td, ta, nw, V, Z, G, E,
    S2,
    (Mt.up x),
    (N.up x (by decide) (by decide)),
    (Po.up x (by decide) (by decide)),
    (Pt.up x (by decide)),
    (Rd.up x (by decide) (le_11 x (by decide))),
    (Sh.up x (by decide) (by decide)),
    (Ne.up x (by decide) (by decide)),
    (We2),
    (Ha.up x (by decide) (by decide)),
    (Pl.up x (by decide) (by decide)),
    (Bk.up x (by decide) (by decide)),
    (Wo.up x mO.rf (by decide)),
    (To.up x x (by decide) (by decide)),
    (Tp.up x x (by decide) (by decide)),
    ((x.iF (j := 12) (k := 0) (m := 8) (by omega) rfl (by decide)).trans E12),
    (M.up x mO.rf x (by decide) (by decide) (le_11 x (by decide))),
    (Sl.up M.2.1 x x (by decide) (by decide)),
    (Co.up M.2.1 x x (by decide) (by decide)),
    (Lt.up x mO.rf x (by decide) (by decide) (Nat.le_refl _) (by have := M.1; omega)),
    (Bg.up x mO.rf x (by decide) (by decide) (by decide)),
    (Bz.up x (by decide)),
    (El.up x mO.rf x (by decide) (by decide)),
    (Lw.up x mO.rf x (by decide) (by decide))⟩
  unfold fX12_takeBack at f2
  exact ck_h f2
theorem gz_span (R : Rl B h) (a : Int32) (b : Int32) (c : Int32) : ∃ r h1 h2, fX11_span B a b c h = some (r, h1) ∧ mm_kd h1 (B + 66) = 13 ∧ fX12_span (B + 66) a b c h1 = some (r, h2) ∧ Rl B h2 := by
  obtain ⟨ow, nm, am, P, C, nl, al, nb, A, U, T, tn, td, ta, nw, V, Z, G, E, S, Mt, N, Po, Pt, Rd, Sh, Ne, We, Ha, Pl, Bk, Wo, To, Tp, E12, M, Sl, Co, Lt, Bg, Bz, El, Lw⟩ := R
  obtain ⟨r, h1, h2, f1, f2, w⟩ := T_span S We a b c
  have x : mY B ow [100] h h2 := wm_wSp w S.1
  have S2 : mS B h2 := x.S S
  refine ⟨r, h1, h2, f1, ?_, f2, ow, nm, am, P, C, nl, al, nb, A, U, T, tn, td, ta, nw, V, Z, G, E,
    S2,
    (Mt.up x),
    (N.up x (by decide) (by decide)),
    (Po.up x (by decide) (by decide)),
    (Pt.up x (by decide)),
    (Rd.up x (by decide) (le_11 x (by decide))),
    (Sh.up x (by decide) (by decide)),
    (Ne.up x (by decide) (by decide)),
    (We.up x (by decide) (by decide)),
    (Ha.up x (by decide) (by decide)),
    (Pl.up x (by decide) (by decide)),
    (Bk.up x (by decide) (by decide)),
    (Wo.up x mO.rf (by decide)),
    (To.up x x (by decide) (by decide)),
    (Tp.up x x (by decide) (by decide)),
    ((x.iF (j := 12) (k := 0) (m := 8) (by omega) rfl (by decide)).trans E12),
    (M.up x mO.rf x (by decide) (by decide) (le_11 x (by decide))),
    (Sl.up M.2.1 x x (by decide) (by decide)),
    (Co.up M.2.1 x x (by decide) (by decide)),
    (Lt.up x mO.rf x (by decide) (by decide) (Nat.le_refl _) (by have := M.1; omega)),
    (Bg.up x mO.rf x (by decide) (by decide) (by decide)),
    (Bz.up x (by decide)),
    (El.up x mO.rf x (by decide) (by decide)),
    (Lw.up x mO.rf x (by decide) (by decide))⟩
  unfold fX12_span at f2
  rcases y_in3 a 0 7 h1 with q | q
  · rw [q, p_cl] at f2
    rw [if_pos rfl] at f2
    exact so_2 f2 ▸ sk66 S2
  rw [q, p_cl, if_neg (by decide)] at f2
  rcases y_day3 b h1 with q | q
  · rw [q, p_cl] at f2
    rw [if_pos rfl] at f2
    exact so_2 f2 ▸ sk66 S2
  rw [q, p_cl, if_neg (by decide)] at f2
  rcases y_in3 c 0 5 h1 with q | q
  · rw [q, p_cl] at f2
    rw [if_neg (by decide)] at f2
    exact so_2 f2 ▸ sk66 S2
  rw [q, p_cl, if_pos (by decide)] at f2
  exact ck_h f2
theorem gz_theirs (R : Rl B h) (a : Int32) (b : Int32) (c : Int32) (d : Int32) : ∃ r h1 h2, fX11_theirs B a b c d h = some (r, h1) ∧ mm_kd h1 (B + 66) = 13 ∧ fX12_theirs (B + 66) a b c d h1 = some (r, h2) ∧ Rl B h2 := by
  obtain ⟨ow, nm, am, P, C, nl, al, nb, A, U, T, tn, td, ta, nw, V, Z, G, E, S, Mt, N, Po, Pt, Rd, Sh, Ne, We, Ha, Pl, Bk, Wo, To, Tp, E12, M, Sl, Co, Lt, Bg, Bz, El, Lw⟩ := R
  obtain ⟨r, h1, h2, f1, f2, w⟩ := T_theirs S We a b c d
  have x : mY B ow [100] h h2 := wm_wSp w S.1
  have S2 : mS B h2 := x.S S
  refine ⟨r, h1, h2, f1, ?_, f2, ow, nm, am, P, C, nl, al, nb, A, U, T, tn, td, ta, nw, V, Z, G, E,
    S2,
    (Mt.up x),
    (N.up x (by decide) (by decide)),
    (Po.up x (by decide) (by decide)),
    (Pt.up x (by decide)),
    (Rd.up x (by decide) (le_11 x (by decide))),
    (Sh.up x (by decide) (by decide)),
    (Ne.up x (by decide) (by decide)),
    (We.up x (by decide) (by decide)),
    (Ha.up x (by decide) (by decide)),
    (Pl.up x (by decide) (by decide)),
    (Bk.up x (by decide) (by decide)),
    (Wo.up x mO.rf (by decide)),
    (To.up x x (by decide) (by decide)),
    (Tp.up x x (by decide) (by decide)),
    ((x.iF (j := 12) (k := 0) (m := 8) (by omega) rfl (by decide)).trans E12),
    (M.up x mO.rf x (by decide) (by decide) (le_11 x (by decide))),
    (Sl.up M.2.1 x x (by decide) (by decide)),
    (Co.up M.2.1 x x (by decide) (by decide)),
    (Lt.up x mO.rf x (by decide) (by decide) (Nat.le_refl _) (by have := M.1; omega)),
    (Bg.up x mO.rf x (by decide) (by decide) (by decide)),
    (Bz.up x (by decide)),
    (El.up x mO.rf x (by decide) (by decide)),
    (Lw.up x mO.rf x (by decide) (by decide))⟩
  unfold fX12_theirs at f2
  rcases y_in3 a 0 7 h1 with q | q
  · rw [q, p_cl] at f2
    rw [if_pos rfl] at f2
    exact so_2 f2 ▸ sk66 S2
  rw [q, p_cl, if_neg (by decide)] at f2
  rcases y_in3 b 0 1000000 h1 with q | q
  · rw [q, p_cl] at f2
    rw [if_pos rfl] at f2
    exact so_2 f2 ▸ sk66 S2
  rw [q, p_cl, if_neg (by decide)] at f2
  rcases y_day3 c h1 with q | q
  · rw [q, p_cl] at f2
    rw [if_pos rfl] at f2
    exact so_2 f2 ▸ sk66 S2
  rw [q, p_cl, if_neg (by decide)] at f2
  rcases y_in3 d 0 1 h1 with q | q
  · rw [q, p_cl] at f2
    rw [if_neg (by decide)] at f2
    exact so_2 f2 ▸ sk66 S2
  rw [q, p_cl, if_pos (by decide)] at f2
  exact ck_h f2
theorem gz_order (R : Rl B h) (a : Int32) (b : Int64) (c : Int32) : ∃ r h1 h2, fX11_order B a b c h = some (r, h1) ∧ mm_kd h1 (B + 66) = 13 ∧ fX12_order (B + 66) a b c h1 = some (r, h2) ∧ Rl B h2 := by
  obtain ⟨ow, nm, am, P, C, nl, al, nb, A, U, T, tn, td, ta, nw, V, Z, G, E, S, Mt, N, Po, Pt, Rd, Sh, Ne, We, Ha, Pl, Bk, Wo, To, Tp, E12, M, Sl, Co, Lt, Bg, Bz, El, Lw⟩ := R
  obtain ⟨r, h1, h2, ow2, tn2, td2, ta2, f1, f2, x, o, El2⟩ := T_order S El a b c
  have S2 : mS B h2 := x.S S
  refine ⟨r, h1, h2, f1, ?_, f2, ow2, nm, am, P, C, nl, al, nb, A, U, T, tn2, td2, ta2, nw, V, Z, G, E,
    S2,
    (Mt.up x),
    (N.up x (by decide) (by decide)),
    (Po.up x (by decide) (by decide)),
    (Pt.up x (by decide)),
    (Rd.up x (by decide) (le_11 x (by decide))),
    (Sh.up x (by decide) (by decide)),
    (Ne.up x (by decide) (by decide)),
    (We.up x (by decide) (by decide)),
    (Ha.up x (by decide) (by decide)),
    (Pl.up x (by decide) (by decide)),
    (Bk.up x (by decide) (by decide)),
    (Wo.up x o (by decide)),
    (To.up x x (by decide) (by decide)),
    (Tp.up x x (by decide) (by decide)),
    ((x.iF (j := 12) (k := 0) (m := 8) (by omega) rfl (by decide)).trans E12),
    (M.up x o x (by decide) (by decide) (le_11 x (by decide))),
    (Sl.up M.2.1 x x (by decide) (by decide)),
    (Co.up M.2.1 x x (by decide) (by decide)),
    (Lt.up x o x (by decide) (by decide) (Nat.le_refl _) (by have := M.1; omega)),
    (Bg.up x o x (by decide) (by decide) (by decide)),
    (Bz.up x (by decide)),
    (El2),
    (Lw.up x o x (by decide) (by decide))⟩
  unfold fX12_order at f2
  rcases y_in3 a 1 8 h1 with q | q
  · rw [q, p_cl] at f2
    rw [if_pos rfl] at f2
    exact so_2 f2 ▸ sk66 S2
  rw [q, p_cl, if_neg (by decide)] at f2
  rcases y_in3 c 1 400 h1 with q | q
  · rw [q, p_cl] at f2
    rw [if_neg (by decide)] at f2
    exact so_2 f2 ▸ sk66 S2
  rw [q, p_cl, if_pos (by decide)] at f2
  rcases y_oL _ _ _ f2 with q | q
  · exact ck_h q
  · exact q ▸ sk66 S2
theorem gz_elder (R : Rl B h) (a : Int32) : ∃ r, fX11_elder B a h = some (r, h) ∧ mm_kd h (B + 66) = 13 ∧ fX12_elder (B + 66) a h = some (r, h) := by
  obtain ⟨ow, nm, am, P, C, nl, al, nb, A, U, T, tn, td, ta, nw, V, Z, G, E, S, Mt, N, Po, Pt, Rd, Sh, Ne, We, Ha, Pl, Bk, Wo, To, Tp, E12, M, Sl, Co, Lt, Bg, Bz, El, Lw⟩ := R
  obtain ⟨r, f1, f2⟩ := T_elder S N M El a
  exact ⟨r, f1, sk66 S, f2⟩
theorem gz_ship (R : Rl B h) (a : Int32) (b : Int32) (c : Int32) (d : Int32) : ∃ r h1 h2, fX11_ship B a b c d h = some (r, h1) ∧ mm_kd h1 (B + 66) = 13 ∧ fX12_ship (B + 66) a b c d h1 = some (r, h2) ∧ Rl B h2 := by
  obtain ⟨ow, nm, am, P, C, nl, al, nb, A, U, T, tn, td, ta, nw, V, Z, G, E, S, Mt, N, Po, Pt, Rd, Sh, Ne, We, Ha, Pl, Bk, Wo, To, Tp, E12, M, Sl, Co, Lt, Bg, Bz, El, Lw⟩ := R
  obtain ⟨r, h1, h2, f1, f2, w, Sh2⟩ := T_ship S N Sh a b c d
  have x : mY B ow [14, 114] h h2 := wm_wSh w S.1
  have S2 : mS B h2 := x.S S
  refine ⟨r, h1, h2, f1, ?_, f2, ow, nm, am, P, C, nl, al, nb, A, U, T, tn, td, ta, nw, V, Z, G, E,
    S2,
    (Mt.up x),
    (N.up x (by decide) (by decide)),
    (Po.up x (by decide) (by decide)),
    (Pt.up x (by decide)),
    (Rd.up x (by decide) (le_11 x (by decide))),
    (Sh2),
    (Ne.up x (by decide) (by decide)),
    (We.up x (by decide) (by decide)),
    (Ha.up x (by decide) (by decide)),
    (Pl.up x (by decide) (by decide)),
    (Bk.up x (by decide) (by decide)),
    (Wo.up x mO.rf (by decide)),
    (To.up x x (by decide) (by decide)),
    (Tp.up x x (by decide) (by decide)),
    ((x.iF (j := 12) (k := 0) (m := 8) (by omega) rfl (by decide)).trans E12),
    (M.up x mO.rf x (by decide) (by decide) (le_11 x (by decide))),
    (Sl.up M.2.1 x x (by decide) (by decide)),
    (Co.up M.2.1 x x (by decide) (by decide)),
    (Lt.up x mO.rf x (by decide) (by decide) (Nat.le_refl _) (by have := M.1; omega)),
    (Bg.up x mO.rf x (by decide) (by decide) (by decide)),
    (Bz.up x (by decide)),
    (El.up x mO.rf x (by decide) (by decide)),
    (Lw.up x mO.rf x (by decide) (by decide))⟩
  unfold fX12_ship at f2
  exact ck_h f2
theorem gz_news (R : Rl B h) (a : Int32) (b : Int32) (c : Int32) (d : Int32) : ∃ r h1 h2, fX11_news B a b c d h = some (r, h1) ∧ mm_kd h1 (B + 66) = 13 ∧ fX12_news (B + 66) a b c d h1 = some (r, h2) ∧ Rl B h2 := by
  obtain ⟨ow, nm, am, P, C, nl, al, nb, A, U, T, tn, td, ta, nw, V, Z, G, E, S, Mt, N, Po, Pt, Rd, Sh, Ne, We, Ha, Pl, Bk, Wo, To, Tp, E12, M, Sl, Co, Lt, Bg, Bz, El, Lw⟩ := R
  obtain ⟨r, h1, h2, f1, f2, w, Ne2⟩ := T_news S N Ne a b c d
  have x : mY B ow [12, 112] h h2 := wm_wNe w S.1
  have S2 : mS B h2 := x.S S
  refine ⟨r, h1, h2, f1, ?_, f2, ow, nm, am, P, C, nl, al, nb, A, U, T, tn, td, ta, nw, V, Z, G, E,
    S2,
    (Mt.up x),
    (N.up x (by decide) (by decide)),
    (Po.up x (by decide) (by decide)),
    (Pt.up x (by decide)),
    (Rd.up x (by decide) (le_11 x (by decide))),
    (Sh.up x (by decide) (by decide)),
    (Ne2),
    (We.up x (by decide) (by decide)),
    (Ha.up x (by decide) (by decide)),
    (Pl.up x (by decide) (by decide)),
    (Bk.up x (by decide) (by decide)),
    (Wo.up x mO.rf (by decide)),
    (To.up x x (by decide) (by decide)),
    (Tp.up x x (by decide) (by decide)),
    ((x.iF (j := 12) (k := 0) (m := 8) (by omega) rfl (by decide)).trans E12),
    (M.up x mO.rf x (by decide) (by decide) (le_11 x (by decide))),
    (Sl.up M.2.1 x x (by decide) (by decide)),
    (Co.up M.2.1 x x (by decide) (by decide)),
    (Lt.up x mO.rf x (by decide) (by decide) (Nat.le_refl _) (by have := M.1; omega)),
    (Bg.up x mO.rf x (by decide) (by decide) (by decide)),
    (Bz.up x (by decide)),
    (El.up x mO.rf x (by decide) (by decide)),
    (Lw.up x mO.rf x (by decide) (by decide))⟩
  unfold fX12_news at f2
  exact ck_h f2
theorem gz_price (R : Rl B h) (a : Int32) (b : Int32) (c : Int32) (d : Int32) : ∃ r, fX11_price B a b c d h = some (r, h) ∧ mm_kd h (B + 66) = 13 ∧ fX12_price (B + 66) a b c d h = some (r, h) := by
  obtain ⟨ow, nm, am, P, C, nl, al, nb, A, U, T, tn, td, ta, nw, V, Z, G, E, S, Mt, N, Po, Pt, Rd, Sh, Ne, We, Ha, Pl, Bk, Wo, To, Tp, E12, M, Sl, Co, Lt, Bg, Bz, El, Lw⟩ := R
  obtain ⟨r, f1, f2⟩ := T_price S Ne a b c d
  exact ⟨r, f1, sk66 S, f2⟩
theorem gz_plan (R : Rl B h) (a : Int32) : ∃ r h1 h2, fX11_plan B a h = some (r, h1) ∧ mm_kd h1 (B + 66) = 13 ∧ fX12_plan (B + 66) a h1 = some (r, h2) ∧ Rl B h2 := by
  obtain ⟨ow, nm, am, P, C, nl, al, nb, A, U, T, tn, td, ta, nw, V, Z, G, E, S, Mt, N, Po, Pt, Rd, Sh, Ne, We, Ha, Pl, Bk, Wo, To, Tp, E12, M, Sl, Co, Lt, Bg, Bz, El, Lw⟩ := R
  obtain ⟨r, h1, h2, f1, f2, x, Pl2⟩ := T_plan S N M Lt Sh Po Ne Pl a
  have S2 : mS B h2 := x.S S
  refine ⟨r, h1, h2, f1, ?_, f2, ow, nm, am, P, C, nl, al, nb, A, U, T, tn, td, ta, nw, V, Z, G, E,
    S2,
    (Mt.up x),
    (N.up x (by decide) (by decide)),
    (Po.up x (by decide) (by decide)),
    (Pt.up x (by decide)),
    (Rd.up x (by decide) (le_11 x (by decide))),
    (Sh.up x (by decide) (by decide)),
    (Ne.up x (by decide) (by decide)),
    (We.up x (by decide) (by decide)),
    (Ha.up x (by decide) (by decide)),
    (Pl2),
    (Bk.up x (by decide) (by decide)),
    (Wo.up x mO.rf (by decide)),
    (To.up x x (by decide) (by decide)),
    (Tp.up x x (by decide) (by decide)),
    ((x.iF (j := 12) (k := 0) (m := 8) (by omega) rfl (by decide)).trans E12),
    (M.up x mO.rf x (by decide) (by decide) (le_11 x (by decide))),
    (Sl.up M.2.1 x x (by decide) (by decide)),
    (Co.up M.2.1 x x (by decide) (by decide)),
    (Lt.up x mO.rf x (by decide) (by decide) (Nat.le_refl _) (by have := M.1; omega)),
    (Bg.up x mO.rf x (by decide) (by decide) (by decide)),
    (Bz.up x (by decide)),
    (El.up x mO.rf x (by decide) (by decide)),
    (Lw.up x mO.rf x (by decide) (by decide))⟩
  unfold fX12_plan at f2
  exact ck_h f2
theorem gz_planned (R : Rl B h) (a : Int32) (b : Int32) : ∃ r, fX11_planned B a b h = some (r, h) ∧ mm_kd h (B + 66) = 13 ∧ fX12_planned (B + 66) a b h = some (r, h) := by
  obtain ⟨ow, nm, am, P, C, nl, al, nb, A, U, T, tn, td, ta, nw, V, Z, G, E, S, Mt, N, Po, Pt, Rd, Sh, Ne, We, Ha, Pl, Bk, Wo, To, Tp, E12, M, Sl, Co, Lt, Bg, Bz, El, Lw⟩ := R
  obtain ⟨r, f1, f2⟩ := T_planned S Pl a b
  exact ⟨r, f1, sk66 S, f2⟩
theorem gz_high (R : Rl B h) : ∃ r, fX11_high B h = some (r, h) ∧ mm_kd h (B + 66) = 13 ∧ fX12_high (B + 66) h = some (r, h) := by
  obtain ⟨ow, nm, am, P, C, nl, al, nb, A, U, T, tn, td, ta, nw, V, Z, G, E, S, Mt, N, Po, Pt, Rd, Sh, Ne, We, Ha, Pl, Bk, Wo, To, Tp, E12, M, Sl, Co, Lt, Bg, Bz, El, Lw⟩ := R
  obtain ⟨r, f1, f2⟩ := T_high S Pl.1
  exact ⟨r, f1, sk66 S, f2⟩
theorem gz_sail (R : Rl B h) (a : Int32) (b : Int32) : ∃ r h1 h2, fX11_sail B a b h = some (r, h1) ∧ mm_kd h1 (B + 66) = 13 ∧ fX12_sail (B + 66) a b h1 = some (r, h2) ∧ Rl B h2 := by
  obtain ⟨ow, nm, am, P, C, nl, al, nb, A, U, T, tn, td, ta, nw, V, Z, G, E, S, Mt, N, Po, Pt, Rd, Sh, Ne, We, Ha, Pl, Bk, Wo, To, Tp, E12, M, Sl, Co, Lt, Bg, Bz, El, Lw⟩ := R
  obtain ⟨r, h1, h2, f1, f2, x, Sl2⟩ := T_sail S N M Sl Sh Po Rd a b
  have S2 : mS B h2 := x.S S
  refine ⟨r, h1, h2, f1, ?_, f2, ow, nm, am, P, C, nl, al, nb, A, U, T, tn, td, ta, nw, V, Z, G, E,
    S2,
    (Mt.up x),
    (N.up x (by decide) (by decide)),
    (Po.up x (by decide) (by decide)),
    (Pt.up x (by decide)),
    (Rd.up x (by decide) (le_11 x (by decide))),
    (Sh.up x (by decide) (by decide)),
    (Ne.up x (by decide) (by decide)),
    (We.up x (by decide) (by decide)),
    (Ha.up x (by decide) (by decide)),
    (Pl.up x (by decide) (by decide)),
    (Bk.up x (by decide) (by decide)),
    (Wo.up x mO.rf (by decide)),
    (To.up x x (by decide) (by decide)),
    (Tp.up x x (by decide) (by decide)),
    ((x.iF (j := 12) (k := 0) (m := 8) (by omega) rfl (by decide)).trans E12),
    (M.up x mO.rf x (by decide) (by decide) (le_11 x (by decide))),
    (Sl2),
    (Co.up M.2.1 x x (by decide) (by decide)),
    (Lt.up x mO.rf x (by decide) (by decide) (Nat.le_refl _) (by have := M.1; omega)),
    (Bg.up x mO.rf x (by decide) (by decide) (by decide)),
    (Bz.up x (by decide)),
    (El.up x mO.rf x (by decide) (by decide)),
    (Lw.up x mO.rf x (by decide) (by decide))⟩
  unfold fX12_sail at f2
  exact ck_h f2
theorem gz_broke (R : Rl B h) (a : Int32) : ∃ r, fX11_broke B a h = some (r, h) ∧ mm_kd h (B + 66) = 13 ∧ fX12_broke (B + 66) a h = some (r, h) := by
  obtain ⟨ow, nm, am, P, C, nl, al, nb, A, U, T, tn, td, ta, nw, V, Z, G, E, S, Mt, N, Po, Pt, Rd, Sh, Ne, We, Ha, Pl, Bk, Wo, To, Tp, E12, M, Sl, Co, Lt, Bg, Bz, El, Lw⟩ := R
  obtain ⟨r, f1, f2⟩ := T_broke S M Sl a
  exact ⟨r, f1, sk66 S, f2⟩
theorem gz_hand (R : Rl B h) (a : Int32) (b : Int32) (c : Int32) (d : Int32) : ∃ r h1 h2, fX11_hand B a b c d h = some (r, h1) ∧ mm_kd h1 (B + 66) = 13 ∧ fX12_hand (B + 66) a b c d h1 = some (r, h2) ∧ Rl B h2 := by
  obtain ⟨ow, nm, am, P, C, nl, al, nb, A, U, T, tn, td, ta, nw, V, Z, G, E, S, Mt, N, Po, Pt, Rd, Sh, Ne, We, Ha, Pl, Bk, Wo, To, Tp, E12, M, Sl, Co, Lt, Bg, Bz, El, Lw⟩ := R
  obtain ⟨r, h1, h2, f1, f2, w, Ha2⟩ := T_hand S Ha a b c d
  have x : mY B ow [15, 115] h h2 := wm_wHa w S.1
  have S2 : mS B h2 := x.S S
  refine ⟨r, h1, h2, f1, ?_, f2, ow, nm, am, P, C, nl, al, nb, A, U, T, tn, td, ta, nw, V, Z, G, E,
    S2,
    (Mt.up x),
    (N.up x (by decide) (by decide)),
    (Po.up x (by decide) (by decide)),
    (Pt.up x (by decide)),
    (Rd.up x (by decide) (le_11 x (by decide))),
    (Sh.up x (by decide) (by decide)),
    (Ne.up x (by decide) (by decide)),
    (We.up x (by decide) (by decide)),
    (Ha2),
    (Pl.up x (by decide) (by decide)),
    (Bk.up x (by decide) (by decide)),
    (Wo.up x mO.rf (by decide)),
    (To.up x x (by decide) (by decide)),
    (Tp.up x x (by decide) (by decide)),
    ((x.iF (j := 12) (k := 0) (m := 8) (by omega) rfl (by decide)).trans E12),
    (M.up x mO.rf x (by decide) (by decide) (le_11 x (by decide))),
    (Sl.up M.2.1 x x (by decide) (by decide)),
    (Co.up M.2.1 x x (by decide) (by decide)),
    (Lt.up x mO.rf x (by decide) (by decide) (Nat.le_refl _) (by have := M.1; omega)),
    (Bg.up x mO.rf x (by decide) (by decide) (by decide)),
    (Bz.up x (by decide)),
    (El.up x mO.rf x (by decide) (by decide)),
    (Lw.up x mO.rf x (by decide) (by decide))⟩
  unfold fX12_hand at f2
  exact ck_h f2
theorem gz_breakers (R : Rl B h) (a : Int32) : ∃ r h1 h2, fX11_breakers B a h = some (r, h1) ∧ mm_kd h1 (B + 66) = 13 ∧ fX12_breakers (B + 66) a h1 = some (r, h2) ∧ Rl B h2 := by
  obtain ⟨ow, nm, am, P, C, nl, al, nb, A, U, T, tn, td, ta, nw, V, Z, G, E, S, Mt, N, Po, Pt, Rd, Sh, Ne, We, Ha, Pl, Bk, Wo, To, Tp, E12, M, Sl, Co, Lt, Bg, Bz, El, Lw⟩ := R
  obtain ⟨r, h1, h2, f1, f2, w, Ha2⟩ := T_breakers S Ha a
  have x : mY B ow [15, 115] h h2 := wm_wHx w S.1
  have S2 : mS B h2 := x.S S
  refine ⟨r, h1, h2, f1, ?_, f2, ow, nm, am, P, C, nl, al, nb, A, U, T, tn, td, ta, nw, V, Z, G, E,
    S2,
    (Mt.up x),
    (N.up x (by decide) (by decide)),
    (Po.up x (by decide) (by decide)),
    (Pt.up x (by decide)),
    (Rd.up x (by decide) (le_11 x (by decide))),
    (Sh.up x (by decide) (by decide)),
    (Ne.up x (by decide) (by decide)),
    (We.up x (by decide) (by decide)),
    (Ha2),
    (Pl.up x (by decide) (by decide)),
    (Bk.up x (by decide) (by decide)),
    (Wo.up x mO.rf (by decide)),
    (To.up x x (by decide) (by decide)),
    (Tp.up x x (by decide) (by decide)),
    ((x.iF (j := 12) (k := 0) (m := 8) (by omega) rfl (by decide)).trans E12),
    (M.up x mO.rf x (by decide) (by decide) (le_11 x (by decide))),
    (Sl.up M.2.1 x x (by decide) (by decide)),
    (Co.up M.2.1 x x (by decide) (by decide)),
    (Lt.up x mO.rf x (by decide) (by decide) (Nat.le_refl _) (by have := M.1; omega)),
    (Bg.up x mO.rf x (by decide) (by decide) (by decide)),
    (Bz.up x (by decide)),
    (El.up x mO.rf x (by decide) (by decide)),
    (Lw.up x mO.rf x (by decide) (by decide))⟩
  unfold fX12_breakers at f2
  rcases y_in3 a 1 8 h1 with q | q
  · rw [q, p_cl] at f2
    rw [if_pos rfl] at f2
    exact so_2 f2 ▸ sk66 S2
  rw [q, p_cl, if_neg (by decide)] at f2
  exact ck_h f2
theorem gz_holds (R : Rl B h) (a : Int32) : ∃ r, fX11_holds B a h = some (r, h) ∧ mm_kd h (B + 66) = 13 ∧ fX12_holds_ (B + 66) a h = some (r, h) := by
  obtain ⟨ow, nm, am, P, C, nl, al, nb, A, U, T, tn, td, ta, nw, V, Z, G, E, S, Mt, N, Po, Pt, Rd, Sh, Ne, We, Ha, Pl, Bk, Wo, To, Tp, E12, M, Sl, Co, Lt, Bg, Bz, El, Lw⟩ := R
  obtain ⟨r, f1, f2⟩ := T_holds S Ha a
  exact ⟨r, f1, sk66 S, f2⟩
theorem gz_entry (R : Rl B h) (a : Int32) (b : Int32) (c : Int32) (d : Int32) : ∃ r h1 h2, fX11_entry B a b c d h = some (r, h1) ∧ mm_kd h1 (B + 66) = 13 ∧ fX12_entry (B + 66) a b c d h1 = some (r, h2) ∧ Rl B h2 := by
  obtain ⟨ow, nm, am, P, C, nl, al, nb, A, U, T, tn, td, ta, nw, V, Z, G, E, S, Mt, N, Po, Pt, Rd, Sh, Ne, We, Ha, Pl, Bk, Wo, To, Tp, E12, M, Sl, Co, Lt, Bg, Bz, El, Lw⟩ := R
  have Mc : RMc B h := ⟨nm, by have := M.1; omega, M.2.1.2.1, M.2.2.1⟩
  obtain ⟨r, h1, h2, f1, f2, w, Bk2⟩ := T_entry S Bk Mc a b c d
  have x : mY B ow [16, 116] h h2 := wm_wEn w S.1
  have S2 : mS B h2 := x.S S
  refine ⟨r, h1, h2, f1, ?_, f2, ow, nm, am, P, C, nl, al, nb, A, U, T, tn, td, ta, nw, V, Z, G, E,
    S2,
    (Mt.up x),
    (N.up x (by decide) (by decide)),
    (Po.up x (by decide) (by decide)),
    (Pt.up x (by decide)),
    (Rd.up x (by decide) (le_11 x (by decide))),
    (Sh.up x (by decide) (by decide)),
    (Ne.up x (by decide) (by decide)),
    (We.up x (by decide) (by decide)),
    (Ha.up x (by decide) (by decide)),
    (Pl.up x (by decide) (by decide)),
    (Bk2),
    (Wo.ofW w),
    (To.up x x (by decide) (by decide)),
    (Tp.up x x (by decide) (by decide)),
    ((x.iF (j := 12) (k := 0) (m := 8) (by omega) rfl (by decide)).trans E12),
    (M.up x mO.rf x (by decide) (by decide) (le_11 x (by decide))),
    (Sl.up M.2.1 x x (by decide) (by decide)),
    (Co.up M.2.1 x x (by decide) (by decide)),
    (Lt.up x mO.rf x (by decide) (by decide) (Nat.le_refl _) (by have := M.1; omega)),
    (Bg.up x mO.rf x (by decide) (by decide) (by decide)),
    (Bz.up x (by decide)),
    (El.up x mO.rf x (by decide) (by decide)),
    (Lw.up x mO.rf x (by decide) (by decide))⟩
  unfold fX12_entry at f2
  rcases y_in3 a 0 1 h1 with q | q
  · rw [q, p_cl] at f2
    rw [if_pos rfl] at f2
    exact so_2 f2 ▸ sk66 S2
  rw [q, p_cl, if_neg (by decide)] at f2
  exact ck_h f2
theorem gz_clear (R : Rl B h) : ∃ r h1 h2, fX11_clear B h = some (r, h1) ∧ mm_kd h1 (B + 66) = 13 ∧ fX12_clear (B + 66) h1 = some (r, h2) ∧ Rl B h2 := by
  obtain ⟨ow, nm, am, P, C, nl, al, nb, A, U, T, tn, td, ta, nw, V, Z, G, E, S, Mt, N, Po, Pt, Rd, Sh, Ne, We, Ha, Pl, Bk, Wo, To, Tp, E12, M, Sl, Co, Lt, Bg, Bz, El, Lw⟩ := R
  obtain ⟨r, h1, h2, f1, f2, w, Bk2⟩ := T_clear S Bk
  have x : mY B ow [16, 116] h h2 := wm_wCl w S.1
  have S2 : mS B h2 := x.S S
  refine ⟨r, h1, h2, f1, ?_, f2, ow, nm, am, P, C, nl, al, nb, A, U, T, tn, td, ta, nw, V, Z, G, E,
    S2,
    (Mt.up x),
    (N.up x (by decide) (by decide)),
    (Po.up x (by decide) (by decide)),
    (Pt.up x (by decide)),
    (Rd.up x (by decide) (le_11 x (by decide))),
    (Sh.up x (by decide) (by decide)),
    (Ne.up x (by decide) (by decide)),
    (We.up x (by decide) (by decide)),
    (Ha.up x (by decide) (by decide)),
    (Pl.up x (by decide) (by decide)),
    (Bk2),
    (Wo.ofW w),
    (To.up x x (by decide) (by decide)),
    (Tp.up x x (by decide) (by decide)),
    ((x.iF (j := 12) (k := 0) (m := 8) (by omega) rfl (by decide)).trans E12),
    (M.up x mO.rf x (by decide) (by decide) (le_11 x (by decide))),
    (Sl.up M.2.1 x x (by decide) (by decide)),
    (Co.up M.2.1 x x (by decide) (by decide)),
    (Lt.up x mO.rf x (by decide) (by decide) (Nat.le_refl _) (by have := M.1; omega)),
    (Bg.up x mO.rf x (by decide) (by decide) (by decide)),
    (Bz.up x (by decide)),
    (El.up x mO.rf x (by decide) (by decide)),
    (Lw.up x mO.rf x (by decide) (by decide))⟩
  unfold fX12_clear at f2
  exact ck_h f2
theorem gz_join (R : Rl B h) (a : Int32) (b : Int32) : ∃ r h1 h2, fX11_join B a b h = some (r, h1) ∧ mm_kd h1 (B + 66) = 13 ∧ fX12_join (B + 66) a b h1 = some (r, h2) ∧ Rl B h2 := by
  obtain ⟨ow, nm, am, P, C, nl, al, nb, A, U, T, tn, td, ta, nw, V, Z, G, E, S, Mt, N, Po, Pt, Rd, Sh, Ne, We, Ha, Pl, Bk, Wo, To, Tp, E12, M, Sl, Co, Lt, Bg, Bz, El, Lw⟩ := R
  obtain ⟨r, h1, h2, ow2, f1, f2, x, o, Bk2, Wo2⟩ := T_join S Bk Wo a b
  have S2 : mS B h2 := x.S S
  refine ⟨r, h1, h2, f1, ?_, f2, ow2, nm, am, P, C, nl, al, nb, A, U, T, tn, td, ta, nw, V, Z, G, E,
    S2,
    (Mt.up x),
    (N.up x (by decide) (by decide)),
    (Po.up x (by decide) (by decide)),
    (Pt.up x (by decide)),
    (Rd.up x (by decide) (le_11 x (by decide))),
    (Sh.up x (by decide) (by decide)),
    (Ne.up x (by decide) (by decide)),
    (We.up x (by decide) (by decide)),
    (Ha.up x (by decide) (by decide)),
    (Pl.up x (by decide) (by decide)),
    (Bk2),
    (Wo2),
    (To.up x x (by decide) (by decide)),
    (Tp.up x x (by decide) (by decide)),
    ((x.iF (j := 12) (k := 0) (m := 8) (by omega) rfl (by decide)).trans E12),
    (M.up x o x (by decide) (by decide) (le_11 x (by decide))),
    (Sl.up M.2.1 x x (by decide) (by decide)),
    (Co.up M.2.1 x x (by decide) (by decide)),
    (Lt.up x o x (by decide) (by decide) (Nat.le_refl _) (by have := M.1; omega)),
    (Bg.up x o x (by decide) (by decide) (by decide)),
    (Bz.up x (by decide)),
    (El.up x o x (by decide) (by decide)),
    (Lw.up x o x (by decide) (by decide))⟩
  unfold fX12_join at f2
  rcases y_in3 a 0 1000 h1 with q | q
  · rw [q, p_cl] at f2
    rw [if_pos rfl] at f2
    exact so_2 f2 ▸ sk66 S2
  rw [q, p_cl, if_neg (by decide)] at f2
  rcases y_in3 b 0 1000 h1 with q | q
  · rw [q, p_cl] at f2
    rw [if_neg (by decide)] at f2
    exact so_2 f2 ▸ sk66 S2
  rw [q, p_cl, if_pos (by decide)] at f2
  exact ck_h f2
theorem gz_joined (R : Rl B h) (a : Int32) : ∃ r, fX11_joined B a h = some (r, h) ∧ mm_kd h (B + 66) = 13 ∧ fX12_joined (B + 66) a h = some (r, h) := by
  obtain ⟨ow, nm, am, P, C, nl, al, nb, A, U, T, tn, td, ta, nw, V, Z, G, E, S, Mt, N, Po, Pt, Rd, Sh, Ne, We, Ha, Pl, Bk, Wo, To, Tp, E12, M, Sl, Co, Lt, Bg, Bz, El, Lw⟩ := R
  obtain ⟨r, f1, f2⟩ := T_joined S Bk a
  exact ⟨r, f1, sk66 S, f2⟩
theorem gz_count (R : Rl B h) (a : Int32) : ∃ r, fX11_count B a h = some (r, h) ∧ mm_kd h (B + 66) = 13 ∧ fX12_count (B + 66) a h = some (r, h) := by
  obtain ⟨ow, nm, am, P, C, nl, al, nb, A, U, T, tn, td, ta, nw, V, Z, G, E, S, Mt, N, Po, Pt, Rd, Sh, Ne, We, Ha, Pl, Bk, Wo, To, Tp, E12, M, Sl, Co, Lt, Bg, Bz, El, Lw⟩ := R
  obtain ⟨r, f1, f2⟩ := T_count S N M Lt Bg Co ⟨Lw.2.1, Lw.2.2.1⟩ We Sh Ne Po Tp Ha Bk a
  exact ⟨r, f1, sk66 S, f2⟩
end RB
