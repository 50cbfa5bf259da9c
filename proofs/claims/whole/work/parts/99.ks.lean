/-! a whole text alike -/
section KV
variable {B : Nat} {h h' g7 hx hy hx' hy' : mm_H} {t : Nat → Int32} {n m L i j c cl p : Nat} {cs : List (Nat × Nat)} {g : List (List (Nat × Nat))}
theorem JC.go (J : JC B hx hy t n m L i c g) (h26 : tkF t n (plF t n i) = 26) (h18 : mm_i hy (B + 66) 18 = nI (plF t n i)) : ∃ hx', fX5_pass (B + 5) (26 : Int32) hx = some (1, hx') ∧ mX B (wC B) hx hx' ∧ mX B (wQy B L) hy (mm_setI hy (B + 66) 18 (mm_i hy (B + 66) 18 + 1)) ∧ JC B hx' (mm_setI hy (B + 66) 18 (mm_i hy (B + 66) 18 + 1)) t n m L (i + 1) c g := by
  obtain ⟨⟨X, a13, a10⟩, ⟨p0, Y0, e0⟩, ⟨a22, hc⟩, a33, acd, a83, acl, aok, alen⟩ := J
  obtain ⟨m1, -⟩ := x_pass X (k := 26) (by omega)
  obtain ⟨hx', q1, q2, q3⟩ := m1 h26
  have hB := q2.1.2.2
  have hple := (pl_le (t := t) (n := n) i).2
  have hnx : nxF t n (plF t n i) = plF t n i + 1 := by rw [nx_sign (by omega) (by omega), if_neg (by omega)]
  have e18 : mm_i hy (B + 66) 18 + 1 = nI (nxF t n (plF t n i)) := by rw [h18, nI_1, hnx]
  rw [e18]
  obtain ⟨Y1, y1⟩ := Y0.setp (p' := nxF t n (plF t n i)) (nx_le hple).2.1
  have hBy := y1.1.2.2
  have k66 : ∀ k, k ≠ 18 → mm_i (mm_setI hy (B + 66) 18 (nI (nxF t n (plF t n i)))) (B + 66) k = mm_i hy (B + 66) k := fun k hk => by rw [i_I, if_neg (fun z => hk z.2)]
  have o : ∀ a k, a ≠ B + 66 → mm_i (mm_setI hy (B + 66) 18 (nI (nxF t n (plF t n i)))) a k = mm_i hy a k := fun a k ha => i_I_ne ha
  refine ⟨hx', q1, q2.up fun a k _ z => wPx_C z, y1.up fun a k _ z => wV_Q z, ⟨q3, by rw [q2.i (by omega) (by unfold wPx; omega)]; exact a13, a10⟩, ⟨_, Y1, rfl⟩, ⟨by rw [k66 _ (by omega)]; exact a22, hc⟩, by rw [k66 _ (by omega)]; exact a33, cdy_cg (fun k _ => ⟨o _ _ (by omega), o _ _ (by omega)⟩) acd, by rw [o _ _ (by omega)]; exact a83, clD_cg (fun k _ => ⟨⟨q2.i (by omega) (by unfold wPx; omega), q2.i (by omega) (by unfold wPx; omega)⟩, o _ _ (by omega), o _ _ (by omega), o _ _ (by omega)⟩) acl, aok, by omega⟩
/-- a text read without a fault -/
def okT (B : Nat) (hx hy : mm_H) (t : Nat → Int32) (n L : Nat) (g : List (List (Nat × Nat))) : Prop := (∃ m i c, xS B hx t n m i c g.flatten) ∧ (mm_i hx (B + 5) 13 = nI g.length ∧ g.length ≤ 10) ∧ mm_i hy (B + 66) 20 = 0 ∧ mm_i hy (B + 66) 23 = nI L ∧ cdy B hy L g.flatten ∧ mm_i hy (B + 83) L = nI g.length ∧ clD B hx hy L g ∧ (∀ x, x ∈ g.flatten → okC x) ∧ g.flatten.length ≤ 400
theorem J_tape_L {b1 b2 : Int32} (K : mm_H → Option (Int32 × mm_H)) : ∀ (e : Nat) (hx hy : mm_H) (g : List (List (Nat × Nat))) (i c fx fy : Nat), g.length + e = 11 → e < fx → e + 1 < fy → JC B hx hy t n m L i c g → (∃ hx' hy' g', fX5_readTape_L31 (B + 5) K fx (nI g.length) hx = some (0, hx') ∧ (∀ K2, fX12_law_L71 (B + 66) b1 b2 K2 fy 1 hy = K2 hy') ∧ mX B (wC B) hx hx' ∧ mX B (wQy B L) hy hy' ∧ okT B hx' hy' t n L g') ∨ (∃ hx' hy' f, fX5_readTape_L31 (B + 5) K fx (nI g.length) hx = some (nI f, hx') ∧ (∀ K2, fX12_law_L71 (B + 66) b1 b2 K2 fy 1 hy = K2 hy') ∧ mX B (wC B) hx hx' ∧ mX B (wQy B L) hy hy' ∧ f ≠ 0 ∧ f ≤ 4000 ∧ mm_i hy' (B + 66) 20 = nI f) := by
  intro e
  induction e with
  | zero => intro hx hy g i c fx fy he hfx hfy J; have := J.1.2.2; omega
  | succ e ih =>
    intro hx hy g i c fx fy he hfx hfy J
    obtain ⟨ux, rfl⟩ : ∃ u, fx = u + 1 := ⟨fx - 1, by omega⟩
    obtain ⟨uy, rfl⟩ : ∃ u, fy = u + 2 := ⟨fy - 2, by omega⟩
    have J0 := J
    obtain ⟨⟨X, a13, a10⟩, ⟨p0, Y0, e0⟩, -⟩ := J0
    have S := X.1.1
    have Sy := Y0.1.2.2.1
    have hg10 : ¬ (10 : Int32) < nI g.length := nI_nlt (a := 10) (by omega) (by omega)
    -- the reference's turn, once its clause is known
    have turn : ∀ hy1, fX12_clause (B + 66) hy = some ((), hy1) → mX B (wQy B L) hy hy1 → ∀ v : Int32, (∀ q : Int32 → Option (Int32 × mm_H), (mm_jn (fun (_u : Unit) => q (0 : Int32)) (fun (q27 : Unit → Option (Int32 × mm_H)) => if ¬ (mm_i hy1 (B + 66) 20) = 0 then (q27 ()) else (if (mm_i hy1 (B + 66) 17) ≤ (mm_i hy1 (B + 66) 18) then (q27 ()) else (q (1 : Int32))))) = q v) → ∀ K2, fX12_law_L71 (B + 66) b1 b2 K2 (uy + 2) 1 hy = fX12_law_L71 (B + 66) b1 b2 K2 (uy + 1) v (mm_setI hy1 (B + 66) 18 (mm_i hy1 (B + 66) 18 + 1)) := fun hy1 h1 h2 v hv K2 => by
      show fX12_law_L71_b _ _ _ _ _ _ _ = _
      unfold fX12_law_L71_b
      rw [if_neg (by decide), q_ck (sk66 Sy), Y0.2.2, if_neg (not_not_intro nI_0), h1, p_cl, q_ck (sk66 (h2.S Sy)), jn_eq v hv, p_lt]
    have stop : ∀ hy1 K2, fX12_law_L71 (B + 66) b1 b2 K2 (uy + 1) 0 hy1 = K2 hy1 := fun hy1 K2 => by
      show fX12_law_L71_b _ _ _ _ _ _ _ = _
      unfold fX12_law_L71_b
      rw [if_pos rfl]
    have off : ∀ hy1 : mm_H, ¬ mm_i hy1 (B + 66) 20 = 0 → ∀ q : Int32 → Option (Int32 × mm_H), (mm_jn (fun (_u : Unit) => q (0 : Int32)) (fun (q27 : Unit → Option (Int32 × mm_H)) => if ¬ (mm_i hy1 (B + 66) 20) = 0 then (q27 ()) else (if (mm_i hy1 (B + 66) 17) ≤ (mm_i hy1 (B + 66) 18) then (q27 ()) else (q (1 : Int32))))) = q 0 := fun hy1 h0 q => by rw [p_jn, if_pos h0]
    have x18 : ∀ hy1, mX B (wQy B L) hy hy1 → mX B (wQy B L) hy (mm_setI hy1 (B + 66) 18 (mm_i hy1 (B + 66) 18 + 1)) := fun hy1 h => h.I (Or.inl (by unfold wQy wR; omega))
    have fne : ∀ f, f ≠ 0 → f ≤ 4000 → ¬ nI f = (0 : Int32) := fun f h1 h2 z => h1 ((nI_eq (b := 0) (by omega) (by omega)).mp z)
    show (∃ hx' hy' g', fX5_readTape_L31_b _ _ _ _ _ = some (0, hx') ∧ _) ∨ (∃ hx' hy' f, fX5_readTape_L31_b _ _ _ _ _ = some (nI f, hx') ∧ _)
    unfold fX5_readTape_L31_b
    rw [if_neg hg10, q_ck (sk5 S)]
    rcases J_clause J with ⟨hx1, hy1, i', c', sg, r1, r2, r3, r4, J1, r6, r7⟩ | ⟨hx1, hy1, i', c', cs', r1, r2, r3, r4, X1, r6, r7, r8⟩ | ⟨hx1, hy1, f, r1, r2, r3, r4, r5, r6, r7, r8⟩
    · obtain ⟨⟨X1, b13, b10⟩, ⟨p1, Y1, e1⟩, ⟨b22, hc1⟩, b33, bcd, b83, bcl, bok, blen⟩ := id J1
      have S1 := X1.1.1
      have hm9 := X1.1.2.2.2.1
      have him := X1.2.1.2
      have hq := fun (β : Type) (z : Option β) => q_ckx (show i' < 401 by omega) (by decide) z
      have htok := (X1.1.2.1 i' (by omega)).1
      rw [r1, p_cl, if_neg (show ¬ (1 : Int32) = 0 by decide), q_ck (sk5 S1), sr5_2 S1, p_rf, q_ck (sk7 S1), X1.2.1.1, sn7 S1, hq, nI_clamp (by omega), htok]
      have hn9 := X1.1.2.2.2.2.2.2
      have hple := (pl_le (t := t) (n := n) i').2
      by_cases c35 : tkF t n (plF t n i') = 35
      · have hpn : n ≤ plF t n i' := (sg_iff hple).2.2.2.mpr c35
        refine Or.inl ⟨hx1, _, sg :: g, ?_, fun K2 => (turn hy1 r2 r4 0 (fun q => ?_) K2).trans (stop _ K2), r3, x18 hy1 r4, ⟨⟨m, i', c', X1⟩, ⟨b13, b10⟩, by rw [i_I, if_neg (fun z => by omega)]; exact Y1.2.2.trans nI_0, by rw [i_I, if_neg (fun z => by omega)]; exact Y1.1.2.2.2.1, cdy_cg (fun k _ => ⟨i_I_ne (by omega), i_I_ne (by omega)⟩) bcd, by rw [i_I_ne (by omega)]; exact b83, clD_cg (fun k _ => ⟨⟨rfl, rfl⟩, i_I_ne (by omega), i_I_ne (by omega), i_I_ne (by omega)⟩) bcl, bok, by omega⟩⟩
        · rw [if_neg (not_not_intro (show nI (tkF t n (plF t n i')) = (35 : Int32) by rw [c35]; rfl)), X1.2.2.2.2.2]
        · rw [p_jn, Y1.2.2, if_neg (not_not_intro nI_0), Y1.1.1.2.1, r6, if_pos (nI_le hpn (by omega))]
      · have c26 : tkF t n (plF t n i') = 26 := by omega
        have hpn : ¬ n ≤ plF t n i' := fun z => c35 ((sg_iff hple).2.2.2.mp z)
        obtain ⟨hx2, s1, s2, s3, J2⟩ := J1.go c26 r6
        rw [if_pos (show ¬ nI (tkF t n (plF t n i')) = (35 : Int32) from fun z => c35 ((nI_eq (b := 35) (by omega) (by omega)).mp z)), s1, p_cl, if_pos (show ¬ (1 : Int32) = 0 by decide), nI_1, p_lt]
        have hlen : (sg :: g).length = g.length + 1 := List.length_cons
        have rr := ih hx2 _ (sg :: g) (i' + 1) c' ux (uy + 1) (by omega) (by omega) (by omega) J2
        rw [hlen] at rr
        have tn : ∀ K2, fX12_law_L71 (B + 66) b1 b2 K2 (uy + 2) 1 hy = fX12_law_L71 (B + 66) b1 b2 K2 (uy + 1) 1 (mm_setI hy1 (B + 66) 18 (mm_i hy1 (B + 66) 18 + 1)) := fun K2 => turn hy1 r2 r4 1 (fun q => by rw [p_jn, Y1.2.2, if_neg (not_not_intro nI_0), Y1.1.1.2.1, r6, if_neg (nI_ge (by omega) (by omega))]) K2
        rcases rr with ⟨hx', hy', g', t1, t2, t3, t4, t5⟩ | ⟨hx', hy', f, t1, t2, t3, t4, t5⟩
        · exact Or.inl ⟨hx', hy', g', t1, fun K2 => (tn K2).trans (t2 K2), (r3.tr s2).tr t3, (r4.tr s3).tr t4, t5⟩
        · exact Or.inr ⟨hx', hy', f, t1, fun K2 => (tn K2).trans (t2 K2), (r3.tr s2).tr t3, (r4.tr s3).tr t4, t5⟩
    · have S1 := X1.1.1
      have hm9 := X1.1.2.2.2.1
      have him := X1.2.1.2
      have hk := tk_b (t := t) (n := n) (p := plF t n i')
      have hq := fun (β : Type) (z : Option β) => q_ckx (show i' < 401 by omega) (by decide) z
      have htok := (X1.1.2.1 i' (by omega)).1
      obtain ⟨-, m2⟩ := x_pass X1 (k := 26) (by omega)
      obtain ⟨hx2, s1, s2, s3⟩ := m2 r7
      obtain ⟨f1, f2⟩ := fl0_b X1 (k := 0) (j := i') (by omega)
      refine Or.inr ⟨hx2, _, fl 0 0 (plF t n i'), ?_, fun K2 => (turn hy1 r2 r4 0 (off hy1 (by rw [r8]; exact fne _ f1 f2)) K2).trans (stop _ K2), r3.tr (s2.up fun a k _ z => wPx_C z), x18 hy1 r4, f1, f2, by rw [i_I, if_neg (fun z => by omega)]; exact r8⟩
      rw [r1, p_cl, if_neg (show ¬ (1 : Int32) = 0 by decide), q_ck (sk5 S1), sr5_2 S1, p_rf, q_ck (sk7 S1), X1.2.1.1, sn7 S1, hq, nI_clamp (by omega), htok, if_pos (show ¬ nI (tkF t n (plF t n i')) = (35 : Int32) from fun z => r6 ((nI_eq (b := 35) (by omega) (by omega)).mp z)), show (26 : Int32) = nI 26 by decide +kernel, s1, p_cl, if_neg (not_not_intro rfl), q_ck (sk5 (s2.S S1)), s3]
    · have S1 := r3.S S
      refine Or.inr ⟨hx1, _, f, ?_, fun K2 => (turn hy1 r2 r4 0 (off hy1 (by rw [r8]; exact fne _ r5 r6)) K2).trans (stop _ K2), r3, x18 hy1 r4, r5, r6, by rw [i_I, if_neg (fun z => by omega)]; exact r8⟩
      rw [r1, p_cl, if_pos rfl, q_ck (sk5 S1), r7]
theorem J_tape {b1 b2 : Int32} (S : mS B hx) (M : mT hx) (T : tC B hx t n) (Y : yV B hy t n L 0 0) (h22 : mm_i hy (B + 66) 22 = 0) (h33 : mm_i hy (B + 66) 33 = 0) (h83 : mm_i hy (B + 83) L = 0) : (∃ hx' hy' g', fX5_readTape (B + 5) hx = some (0, hx') ∧ (∀ K2, fX12_law_L71 (B + 66) b1 b2 K2 mm_F 1 hy = K2 hy') ∧ mX B (wC B) hx hx' ∧ mX B (wQy B L) hy hy' ∧ okT B hx' hy' t n L g') ∨ (∃ hx' hy' f, fX5_readTape (B + 5) hx = some (nI f, hx') ∧ (∀ K2, fX12_law_L71 (B + 66) b1 b2 K2 mm_F 1 hy = K2 hy') ∧ mX B (wC B) hx hx' ∧ mX B (wQy B L) hy hy' ∧ f ≠ 0 ∧ f ≤ 4000 ∧ mm_i hy' (B + 66) 20 = nI f) := by
  obtain ⟨g1, m, q1, q2, q3, q4, q5, q6, q7⟩ := x_cutTokens S M T
  have n9 := T.1
  have S1 := q2.S S
  obtain ⟨g2, e2⟩ : ∃ g, g = mm_setI g1 (B + 5) 6 0 := ⟨_, rfl⟩
  obtain ⟨g3, e3⟩ : ∃ g, g = mm_setI g2 (B + 5) 7 0 := ⟨_, rfl⟩
  obtain ⟨g4, e4⟩ : ∃ g, g = mm_setI g3 (B + 5) 8 0 := ⟨_, rfl⟩
  obtain ⟨g5, e5⟩ : ∃ g, g = mm_setI g4 (B + 5) 10 0 := ⟨_, rfl⟩
  obtain ⟨g6, e6⟩ : ∃ g, g = mm_setI g5 (B + 5) 13 0 := ⟨_, rfl⟩
  have x6 : mX B (wC B) g1 g6 := by
    rw [e6, e5, e4, e3, e2]
    exact (((((mX.rf (W := wC B) S1.1).I (Or.inl (by unfold wC; omega))).I (Or.inl (by unfold wC; omega))).I (Or.inl (by unfold wC; omega))).I (Or.inl (by unfold wC; omega))).I (Or.inl (by unfold wC; omega))
  have o : ∀ a k, a ≠ B + 5 → mm_i g6 a k = mm_i g1 a k := fun a k ha => by rw [e6, i_I_ne ha, e5, i_I_ne ha, e4, i_I_ne ha, e3, i_I_ne ha, e2, i_I_ne ha]
  have k5 : mm_i g6 (B + 5) 5 = mm_i g1 (B + 5) 5 := by rw [e6, i_I, if_neg (fun z => by omega), e5, i_I, if_neg (fun z => by omega), e4, i_I, if_neg (fun z => by omega), e3, i_I, if_neg (fun z => by omega), e2, i_I, if_neg (fun z => by omega)]
  have X6 : xS B g6 t n m 0 0 ([] : List (List (Nat × Nat))).flatten := by
    refine ⟨⟨x6.S S1, fun j hj => by rw [o _ _ (by omega), o _ _ (by omega), o _ _ (by omega)]; exact q3 j hj, k5.trans q4, by omega, q5, q6, n9⟩, ⟨?_, Nat.zero_le _⟩, ?_, ?_, trivial, ?_⟩
    · rw [e6, i_I, if_neg (fun z => by omega), e5, i_I, if_neg (fun z => by omega), e4, i_I, if_neg (fun z => by omega), e3, i_I, if_neg (fun z => by omega), e2, i_I_eq, nI_0]
    · rw [e6, i_I, if_neg (fun z => by omega), e5, i_I, if_neg (fun z => by omega), e4, i_I, if_neg (fun z => by omega), e3, i_I_eq, nI_0]
    · rw [e6, i_I, if_neg (fun z => by omega), e5, i_I_eq]; exact nI_0.symm
    · rw [e6, i_I, if_neg (fun z => by omega), e5, i_I, if_neg (fun z => by omega), e4, i_I_eq]
  have J : JC B g6 hy t n m L 0 0 [] := ⟨⟨X6, by rw [e6, i_I_eq]; exact nI_0.symm, Nat.zero_le _⟩, ⟨0, Y, rfl⟩, ⟨h22.trans nI_0.symm, Nat.zero_le _⟩, h33.trans nI_0.symm, trivial, h83.trans nI_0.symm, trivial, (fun x hx => by cases hx), Nat.le_refl _⟩
  have rr := J_tape_L (b1 := b1) (b2 := b2) (fun (g28 : mm_H) => mm_ck (mm_kd g28 (B + 5) = 6) <| some ((mm_i g28 (B + 5) 8), g28)) 11 g6 hy [] 0 0 mm_F mm_F rfl (by unfold mm_F; omega) (by unfold mm_F; omega) J
  have er : fX5_readTape (B + 5) hx = fX5_readTape_L31 (B + 5) (fun (g28 : mm_H) => mm_ck (mm_kd g28 (B + 5) = 6) <| some ((mm_i g28 (B + 5) 8), g28)) mm_F (nI ([] : List (List (Nat × Nat))).length) g6 := by
    show _ = fX5_readTape_L31 (B + 5) _ mm_F (nI 0) g6
    unfold fX5_readTape
    rw [q_ck (sk5 S), q1, p_cl, q_ck (sk5 S1), p_lt, ← e2, p_lt, ← e3, p_lt, ← e4, p_lt, ← e5, p_lt, ← e6, nI_0]
  rw [er]
  rcases rr with ⟨hx', hy', g', t1, t2, t3, t4, t5⟩ | ⟨hx', hy', f, t1, t2, t3, t4, t5⟩
  · exact Or.inl ⟨hx', hy', g', t1, t2, (q2.tr x6).tr t3, t4, t5⟩
  · exact Or.inr ⟨hx', hy', f, t1, t2, (q2.tr x6).tr t3, t4, t5⟩
end KV
