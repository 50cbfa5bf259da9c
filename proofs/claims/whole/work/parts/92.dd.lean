/-! a deal: the reference's walk behind the verdict -/
section DD
variable {B : Nat} {h hx hy y1 y2 y3 y4 y5 hx' hy' : mm_H} {ow ow' : Nat → Nat × Nat} {n nm nl nb : Nat} {am al : Nat → Nat} {A U : Nat → Nat → Nat} {T : Nat → Int32} {P C : Nat → Nat}
/-- what the reference's heap holds behind a deal -/
def gD (B : Nat) (y5 : mm_H) (nm nb : Nat) (s b t : Nat) (P C : Nat → Nat) (o c p nl : Nat) (due now tw : Int32) (z : mm_H) : Prop := (∀ w : Nat → Nat × Nat, mY B w [102, 107, 127, 128, 130] y5 z) ∧ (∀ j, j < nm → mm_i z (B + 68) j = nI (dP P b s c p j)) ∧ (∀ i, i < 10 → mm_i z (B + 72) i = nI (dC C t p i)) ∧ (∀ q k, q ≠ 68 → q ≠ 72 → q < 147 → k ≠ nb → mm_i z (B + q) k = mm_i y5 (B + q) k) ∧ (mm_i z (B + 96) nb = mm_i y5 (B + 96) nb ∧ mm_i z (B + 97) nb = mm_i y5 (B + 97) nb ∧ mm_i z (B + 98) nb = nI nl ∧ mm_i z (B + 99) nb = nI o ∧ mm_i z (B + 100) nb = nI (o - c) ∧ mm_i z (B + 101) nb = due ∧ mm_i z (B + 102) nb = nI p ∧ mm_i z (B + 103) nb = now ∧ mm_i z (B + 104) nb = nI s ∧ mm_i z (B + 105) nb = tw) ∧ ∀ q k, (q < 96 ∨ 105 < q) → q ≠ 68 → q ≠ 72 → q < 147 → mm_i z (B + q) k = mm_i y5 (B + q) k
theorem y_dealY (S : mS B hy) (S1 : mS B y1) (h10 : mm_i hy (B + 66) 10 = nI nl) (h43 : mm_i hy (B + 66) 43 = nI nb) {s b l o c t f p : Nat} {a4 a6 a7 v due now tw : Int32} (r1 : fX12_asked (B + 66) (nI s) (nI b) (nI l) a4 (nI o) a6 a7 hy = some (0, hy)) (hnl : nl < 200) (hnb : nb < 300) (u1 : fX12_weighs (B + 66) (nI s) (nI b) (nI l) a4 (nI o) a6 a7 hy = some (v, y1)) (hv : ¬ v = 1) (hs : s < nm) (hb : b < nm) (hnm : nm ≤ 40) (hl : l < nl) (hsb : s ≠ b) (hco : (a6 = 0 ∧ c = o ∧ due = -1) ∨ (¬ a6 = 0 ∧ c = 0 ∧ due = now + a6)) (ho : o ≤ 1000000) (hcb : c ≤ P b)
    (hP1 : mm_i y1 (B + 68) b = nI (P b)) (i43 : mm_i y1 (B + 66) 43 = nI nb) {y2 y3 y4 : mm_H} (e2 : y2 = mm_setI y1 (B + 75) l (mm_i y1 (B + 75) l - a4)) (e3 : y3 = mm_setI y2 (B + 66) 43 (nI nb + 1)) (e4 : y4 = mm_setI (mm_setI y3 (B + 96) nb (nI s)) (B + 97) nb (nI b)) (ec : fX12_comes (B + 66) (nI b) (mm_i y4 (B + 74) l) a4 (nI l) y4 = some (nI nl, y5)) (S5 : mS B y5) (hP : ∀ j, j < nm → mm_i y5 (B + 68) j = nI (P j) ∧ P j ≤ 40000000) (hC : ∀ i, i < 10 → mm_i y5 (B + 72) i = nI (C i)) (n5 : mm_i y5 (B + 66) 1 = now) (t5 : mm_i y5 (B + 67) s = tw) (ht : tw = nI t) (ht8 : t ≤ 8) (hf : okN v f p (P s + c)) : ∃ z, fX12_deal (B + 66) (nI s) (nI b) (nI l) a4 (nI o) a6 a7 hy = some (100 + nI nb, z) ∧ gD B y5 nm nb s b t P C o c p nl due now tw z := by
  have S2 : mS B y2 := by rw [e2]; exact S1
  have S3 : mS B y3 := by rw [e3]; exact S2
  have S4 : mS B y4 := by rw [e4]; exact S3
  have b9 := (hP b hb).2
  have s9 := (hP s hs).2
  have cb := nI_clamp (n := b) (by omega)
  have cs := nI_clamp (n := s) (by omega)
  have cl := nI_clamp (n := l) (by omega)
  have cn := nI_clamp (n := nb) (by omega)
  have ct := nI_clamp (n := t) (by omega)
  have l40 : b < 40 := by omega
  have s40 : s < 40 := by omega
  have l20 : l < 200 := by omega
  have q9 : mm_ix (9 : Int32) 10 := by decide +kernel
  have z9 : (9 : Int32).toNatClampNeg = 9 := by decide
  have d2 : ∀ p, p < 2 ^ 30 → nI p / 2 = nI (p / 2) := fun p hp => by
    rw [show (2 : Int32) = nI 2 by decide +kernel, nI_div (by omega) (by omega)]
  have hp9 : p ≤ P s + c := by
    rcases hf with ⟨-, rfl⟩ | ⟨-, -, -, rfl⟩ <;> omega
  have hW : wpo (fX12_deal (B + 66) (nI s) (nI b) (nI l) a4 (nI o) a6 a7 hy) (fun r z => r = 100 + nI nb ∧ gD B y5 nm nb s b t P C o c p nl due now tw z) := by
    unfold fX12_deal
    refine w_ck (sk66 S) (w_cl r1 (w_if (by decide) (w_ck (sk66 S) (w_ifn ?_ (w_if ?_ (w_cl u1 (w_if hv ?_)))))))
    · rw [h10]; exact fun z => absurd ((nI_eq (b := 200) (by omega) (by omega)).mp z) (by omega)
    · rw [h43]; exact fun z => absurd ((nI_eq (b := 300) (by omega) (by omega)).mp z) (by omega)
    refine w_jn (fun _ => True) (fun q hq => ?_) (fun _ _ => ?_)
    · rcases hco with ⟨c9, rfl, -⟩ | ⟨c9, -, -⟩
      · refine w_ifn (not_not_intro c9) (w_ck (sk66 S1) (w_rf (sr66_4 S1) (w_ck (sk68 S1) (w_ixe (sn68 S1) l40 (by decide) (w_if ?_ (hq () trivial))))))
        rw [cb, hP1]; exact nI_le hcb (by omega)
      · exact w_if c9 (hq () trivial)
    refine w_ck (sk66 S1) (w_rf (sr66_12 S1) (w_ck (sk75 S1) (w_ixe (sn75 S1) l20 (by decide) (w_ixe (sn75 S1) l20 (by decide) (w_lt fun v2 f2 => ?_)))))
    have i43' : mm_i y2 (B + 66) 43 = nI nb := by rw [e2, i_I_ne (by omega)]; exact i43
    have f2' : y2 = v2 := by rw [f2, cl]; exact e2
    subst f2'
    refine w_lt fun v20 f20 => ?_
    have f20' : nI nb = v20 := by rw [f20]; exact i43'.symm
    subst f20'
    refine w_lt fun v3 f3 => ?_
    have f3' : y3 = v3 := by rw [f3, i43']; exact e3
    subst f3'
    refine w_rf (sr66_44 S3) (w_ck (sk96 S3) (w_ixe (sn96 S3) hnb (by decide) (w_lt fun v3b f3b => ?_)))
    rw [cn] at f3b
    have S3' : mS B v3b := by rw [f3b]; exact S3
    refine w_rf (sr66_45 S3') (w_ck (sk97 S3') (w_ixe (sn97 S3') hnb (by decide) (w_lt fun v4 f4 => ?_)))
    have f4' : y4 = v4 := by rw [f4, cn, f3b]; exact e4
    subst f4'
    refine w_rf (sr66_11 S4) (w_ck (sk74 S4) (w_ixe (sn74 S4) l20 (by decide) (w_cl (by rw [cl]; exact ec) ?_)))
    refine w_rf (sr66_46 S4) (w_ck (sk98 S5) (w_ixe (sn98 S5) hnb (by decide) (w_lt fun z1 f1 => ?_)))
    have T1 : mS B z1 := by rw [f1]; exact S5
    refine w_ck (sk66 T1) (w_rf (sr66_47 T1) (w_ck (sk99 T1) (w_ixe (sn99 T1) hnb (by decide) (w_lt fun z2 f2 => ?_))))
    have T2 : mS B z2 := by rw [f2]; exact T1
    refine w_jn (fun z => z = nI (o - c)) (fun q hq => ?_) (fun v45 hv45 => ?_)
    · rcases hco with ⟨c9, d, -⟩ | ⟨c9, d, -⟩
      · exact w_ifn (not_not_intro c9) (hq _ (by rw [d, Nat.sub_self]; exact nI_0.symm))
      · exact w_if c9 (hq _ (by rw [d]; rfl))
    refine w_rf (sr66_48 T2) (w_ck (sk100 T2) (w_ixe (sn100 T2) hnb (by decide) (w_lt fun z3 f3 => ?_)))
    have T3 : mS B z3 := by rw [f3]; exact T2
    have n3 : mm_i z3 (B + 66) 1 = now := by rw [f3, i_I_ne (by omega), f2, i_I_ne (by omega), f1, i_I_ne (by omega)]; exact n5
    refine w_jn (fun z => z = due) (fun q hq => ?_) (fun v51 hv51 => ?_)
    · rcases hco with ⟨c9, -, d⟩ | ⟨c9, -, d⟩
      · exact w_ifn (not_not_intro c9) (hq _ d.symm)
      · exact w_if c9 (hq _ (by rw [n3]; exact d.symm))
    refine w_rf (sr66_49 T3) (w_ck (sk101 T3) (w_ixe (sn101 T3) hnb (by decide) (w_lt fun z4 f4 => ?_)))
    have T4 : mS B z4 := by rw [f4]; exact T3
    have n4 : mm_i z4 (B + 66) 1 = now := by rw [f4, i_I_ne (by omega)]; exact n3
    refine w_rf (sr66_51 T4) (w_ck (sk103 T4) (w_ixe (sn103 T4) hnb (by decide) (w_lt fun z5 f5 => ?_)))
    have T5 : mS B z5 := by rw [f5]; exact T4
    refine w_rf (sr66_52 T5) (w_ck (sk104 T5) (w_ixe (sn104 T5) hnb (by decide) (w_lt fun z6 f6 => ?_)))
    have T6 : mS B z6 := by rw [f6]; exact T5
    refine w_rf (sr66_3 T6) (w_ck (sk67 T6) (w_ixe (sn67 T6) s40 (by decide) (w_rf (sr66_53 T6) (w_ck (sk105 T6) (w_ixe (sn105 T6) hnb (by decide) (w_lt fun z7 f7 => ?_))))))
    have T7 : mS B z7 := by rw [f7]; exact T6
    rw [cn] at f1 f2 f3 f4 f5 f6 f7
    rw [n4] at f5
    have t6 : mm_i z6 (B + 67) s = tw := by rw [f6, i_I_ne (by omega), f5, i_I_ne (by omega), f4, i_I_ne (by omega), f3, i_I_ne (by omega), f2, i_I_ne (by omega), f1, i_I_ne (by omega)]; exact t5
    rw [cs, t6] at f7
    have far7 : ∀ q k, (q < 98 ∨ 105 < q) → mm_i z7 (B + q) k = mm_i y5 (B + q) k := fun q k hq => by
      rw [f7, i_I_ne (by omega), f6, i_I_ne (by omega), f5, i_I_ne (by omega), f4, i_I_ne (by omega), f3, i_I_ne (by omega), f2, i_I_ne (by omega), f1, i_I_ne (by omega)]
    have far8 : ∀ q k, k ≠ nb → mm_i z7 (B + q) k = mm_i y5 (B + q) k := fun q k hk => by
      rw [f7, i_I, if_neg (fun z => hk z.2), f6, i_I, if_neg (fun z => hk z.2), f5, i_I, if_neg (fun z => hk z.2), f4, i_I, if_neg (fun z => hk z.2), f3, i_I, if_neg (fun z => hk z.2), f2, i_I, if_neg (fun z => hk z.2), f1, i_I, if_neg (fun z => hk z.2)]
    have fr7 : ∀ w : Nat → Nat × Nat, mY B w [102, 107, 127, 128, 130] y5 z7 := fun w => by
      rw [f7, f6, f5, f4, f3, f2, f1]
      exact (((((((mX.rf S5.1).IF (m := 107) (by omega) rfl (by decide)).IF (m := 107) (by omega) rfl (by decide)).IF (m := 127) (by omega) rfl (by decide)).IF (m := 107) (by omega) rfl (by decide)).IF (m := 107) (by omega) rfl (by decide)).IF (m := 128) (by omega) rfl (by decide)).IF (m := 128) (by omega) rfl (by decide)
    have c98 : mm_i z7 (B + 98) nb = nI nl := by rw [f7, i_I_ne (by omega), f6, i_I_ne (by omega), f5, i_I_ne (by omega), f4, i_I_ne (by omega), f3, i_I_ne (by omega), f2, i_I_ne (by omega), f1, i_I_eq]
    have c99 : mm_i z7 (B + 99) nb = nI o := by rw [f7, i_I_ne (by omega), f6, i_I_ne (by omega), f5, i_I_ne (by omega), f4, i_I_ne (by omega), f3, i_I_ne (by omega), f2, i_I_eq]
    have c100 : mm_i z7 (B + 100) nb = nI (o - c) := by rw [f7, i_I_ne (by omega), f6, i_I_ne (by omega), f5, i_I_ne (by omega), f4, i_I_ne (by omega), f3, i_I_eq]; exact hv45
    have c101 : mm_i z7 (B + 101) nb = due := by rw [f7, i_I_ne (by omega), f6, i_I_ne (by omega), f5, i_I_ne (by omega), f4, i_I_eq]; exact hv51
    have c103 : mm_i z7 (B + 103) nb = now := by rw [f7, i_I_ne (by omega), f6, i_I_ne (by omega), f5, i_I_eq]
    have c104 : mm_i z7 (B + 104) nb = nI s := by rw [f7, i_I_ne (by omega), f6, i_I_eq]
    have c105 : mm_i z7 (B + 105) nb = tw := by rw [f7, i_I_eq]
    have c68 : ∀ j, j < nm → mm_i z7 (B + 68) j = nI (P j) := fun j hj => by rw [far7 68 j (by omega)]; exact (hP j hj).1
    -- the purses
    refine w_jn (fun g => mX B (fun x _ => x = B + 68) z7 g ∧ ∀ j, j < nm → mm_i g (B + 68) j = nI (dP P b s c 0 j)) (fun q hq => ?_) (fun z8 h8 => ?_)
    · have dd : ∀ j, dP P b s c 0 j = if j = s then P s + c else if j = b then P b - c else P j := fun j => by
        unfold dP
        by_cases e : j = s
        · rw [if_pos e, e, upN_eq, Nat.sub_zero]
        · rw [if_neg e, upN_ne e]
          by_cases e2 : j = b
          · rw [if_pos e2, e2, upN_eq]
          · rw [if_neg e2, upN_ne e2]
      rcases hco with ⟨c9, d, -⟩ | ⟨c9, d, -⟩
      · refine w_ifn (not_not_intro c9) (w_rf (sr66_4 T7) (w_ck (sk68 T7) (w_ixe (sn68 T7) l40 (by decide) (w_ixe (sn68 T7) l40 (by decide) (w_lt fun g1 d1 => ?_)))))
        have U1 : mS B g1 := by rw [d1]; exact T7
        refine w_rf (sr66_4 U1) (w_ck (sk68 U1) (w_ixe (sn68 U1) s40 (by decide) (w_ixe (sn68 U1) s40 (by decide) (w_lt fun g2 d2 => ?_))))
        rw [cb, c68 b hb, ← d, nI_sub hcb] at d1
        rw [cs, d1, i_I, if_neg (fun z => hsb z.2), c68 s hs, ← d, nI_add] at d2
        refine hq _ ⟨by rw [d2]; exact ((mX.rf (W := fun x _ => x = B + 68) T7.1).I (Or.inl rfl)).I (Or.inl rfl), fun j hj => ?_⟩
        rw [dd j, d2]
        by_cases e : j = s
        · rw [if_pos e, e, i_I_eq]
        · rw [if_neg e, i_I, if_neg (fun z => e z.2)]
          by_cases e2 : j = b
          · rw [if_pos e2, e2, i_I_eq]
          · rw [if_neg e2, i_I, if_neg (fun z => e2 z.2)]; exact c68 j hj
      · refine w_if c9 (hq _ ⟨mX.rf T7.1, fun j hj => ?_⟩)
        rw [dd j, c68 j hj]
        by_cases e : j = s
        · rw [if_pos e, e, d, Nat.add_zero]
        · rw [if_neg e]
          by_cases e2 : j = b
          · rw [if_pos e2, e2, d, Nat.sub_zero]
          · rw [if_neg e2]
    obtain ⟨x8, p8⟩ := h8
    have T8 := x8.S T7
    have k8 : ∀ q k, q ≠ 68 → q < 147 → mm_i z8 (B + q) k = mm_i z7 (B + q) k := fun q k hq hq2 => x8.i (by have := T7.1; omega) (by omega)
    have ps8 : mm_i z8 (B + 68) s = nI (P s + c) := by rw [p8 s hs]; unfold dP; rw [upN_eq, Nat.sub_zero]
    -- the fine
    refine w_jn (fun z => z = nI p) (fun q hq => ?_) (fun v74 hv74 => ?_)
    · rcases hf with ⟨v1, rfl⟩ | ⟨v1, v2, v3, v4⟩
      · exact w_ifn (Int32.not_le.mpr v1) (hq _ nI_0.symm)
      · refine w_if (Int32.not_lt.mp v1) (w_ck (sk66 T8) (w_rf (sr66_4 T8) (w_ck (sk68 T8) (w_ixe (sn68 T8) s40 (by decide) ?_))))
        have cond : mm_i z8 (B + 68) (nI s).toNatClampNeg = nI (P s + c) := by rw [cs]; exact ps8
        by_cases w : P s + c ≤ f
        · refine w_if (by rw [cond, v2]; exact nI_le w v3) (w_ixe (sn68 T8) s40 (by decide) (hq _ ?_))
          rw [cond, v4, Nat.min_eq_right w]
        · refine w_ifn (by rw [cond, v2]; exact nI_ge (by omega) (by omega)) (hq _ ?_)
          rw [v2, v4, Nat.min_eq_left (by omega)]
    rw [hv74]
    refine w_ck (sk66 T8) (w_rf (sr66_4 T8) (w_ck (sk68 T8) (w_ixe (sn68 T8) s40 (by decide) (w_ixe (sn68 T8) s40 (by decide) (w_lt fun z9h f9 => ?_)))))
    have T9 : mS B z9h := by rw [f9]; exact T8
    rw [cs, ps8, nI_sub hp9] at f9
    have q9' : mm_ix (9 : Int32) (mm_n z9h (B + 72)) := by rw [sn72 T9]; exact q9
    refine w_rf (sr66_8 T9) (w_ck (sk72 T9) (w_ck q9' (w_ck q9' (w_lt fun z10 f10 => ?_))))
    have T10 : mS B z10 := by rw [f10]; exact T9
    have c72 : ∀ i, i < 10 → mm_i z9h (B + 72) i = nI (C i) := fun i hi => by
      rw [f9, i_I_ne (by omega), k8 72 i (by omega) (by omega), far7 72 i (by omega)]; exact hC i hi
    rw [z9, c72 9 (by omega), nI_1, d2 (p + 1) (by omega), nI_add] at f10
    have t10 : mm_i z10 (B + 67) s = nI t := by rw [f10, i_I_ne (by omega), f9, i_I_ne (by omega), k8 67 s (by omega) (by omega), far7 67 s (by omega), t5, ht]
    refine w_rf (sr66_3 T10) (w_ck (sk67 T10) (w_ixe (sn67 T10) s40 (by decide) (w_rf (sr66_8 T10) (w_ck (sk72 T10) ?_))))
    rw [cs, t10]
    refine w_ixe (sn72 T10) (show t < 10 by omega) (by decide) (w_ixe (sn72 T10) (show t < 10 by omega) (by decide) (w_lt fun z11 f11 => ?_))
    have T11 : mS B z11 := by rw [f11]; exact T10
    have c72t : mm_i z10 (B + 72) t = nI (C t) := by rw [f10, i_I, if_neg (fun z => by omega)]; exact c72 t (by omega)
    rw [ct, c72t, d2 p (by omega), nI_add] at f11
    refine w_rf (sr66_50 T11) (w_ck (sk102 T11) (w_ixe (sn102 T11) hnb (by decide) (w_lt fun z12 f12 => w_ret ⟨rfl, ?_⟩)))
    rw [cn] at f12
    have k12 : ∀ q k, q ≠ 68 → q ≠ 72 → q ≠ 102 → q < 147 → mm_i z12 (B + q) k = mm_i z7 (B + q) k := fun q k h1 h2 h3 h4 => by
      rw [f12, i_I_ne (by omega), f11, i_I_ne (by omega), f10, i_I_ne (by omega), f9, i_I_ne (by omega)]; exact k8 q k h1 h4
    have k13 : ∀ q k, q ≠ 68 → q ≠ 72 → k ≠ nb → q < 147 → mm_i z12 (B + q) k = mm_i z7 (B + q) k := fun q k h1 h2 h3 h4 => by
      rw [f12, i_I, if_neg (fun z => h3 z.2), f11, i_I_ne (by omega), f10, i_I_ne (by omega), f9, i_I_ne (by omega)]; exact k8 q k h1 h4
    refine ⟨fun w => (fr7 w).tr ((x8.up fun x i _ z => by subst z; exact wM_F (m := 102) (by omega) rfl (by decide)).tr ?_), fun j hj => ?_, fun i hi => ?_, fun q k h1 h2 h3 h4 => ?_, ⟨?_, ?_, ?_, ?_, ?_, ?_, ?_, ?_, ?_, ?_⟩, fun q k h1 h2 h3 h4 => ?_⟩
    · rw [f12, f11, f10, f9]
      exact ((((mX.rf T8.1).IF (m := 102) (by omega) rfl (by decide)).IF (m := 102) (by omega) rfl (by decide)).IF (m := 102) (by omega) rfl (by decide)).IF (m := 130) (by omega) rfl (by decide)
    · rw [f12, i_I_ne (by omega), f11, i_I_ne (by omega), f10, i_I_ne (by omega), f9]
      have g := p8 j hj
      unfold dP at *
      by_cases e : j = s
      · rw [e, i_I_eq, upN_eq]
      · rw [upN_ne e] at g ⊢
        rw [i_I, if_neg (fun z => e z.2)]; exact g
    · unfold dC
      rw [f12, i_I_ne (by omega), f11]
      by_cases e : i = t
      · rw [e, i_I_eq, upN_eq]
      · rw [i_I, if_neg (fun z => e z.2), upN_ne e, f10]
        by_cases e2 : i = 9
        · rw [e2, i_I_eq, upN_eq]
        · rw [i_I, if_neg (fun z => e2 z.2), upN_ne e2]; exact c72 i hi
    · rw [k13 q k h1 h2 h4 h3]; exact far8 q k h4
    · rw [k12 96 _ (by omega) (by omega) (by omega) (by omega)]; exact far7 96 _ (by omega)
    · rw [k12 97 _ (by omega) (by omega) (by omega) (by omega)]; exact far7 97 _ (by omega)
    · rw [k12 98 _ (by omega) (by omega) (by omega) (by omega)]; exact c98
    · rw [k12 99 _ (by omega) (by omega) (by omega) (by omega)]; exact c99
    · rw [k12 100 _ (by omega) (by omega) (by omega) (by omega)]; exact c100
    · rw [k12 101 _ (by omega) (by omega) (by omega) (by omega)]; exact c101
    · rw [f12, i_I_eq]
    · rw [k12 103 _ (by omega) (by omega) (by omega) (by omega)]; exact c103
    · rw [k12 104 _ (by omega) (by omega) (by omega) (by omega)]; exact c104
    · rw [k12 105 _ (by omega) (by omega) (by omega) (by omega)]; exact c105
    · rw [k12 q k h2 h3 (by omega) h4]; exact far7 q k (by omega)
  obtain ⟨r, z, w1, w2, w3⟩ := hW
  rw [w2] at w1
  exact ⟨z, w1, w3⟩
end DD
