/-! a clause alike -/
/-- the class's clause behind its verb -/
def xTl (B : Nat) (h : mm_H) : Option (Int32 × mm_H) := mm_ck (mm_kd h (B + 5) = 6) <| mm_cl (fX5_pass (B + 5) (17 : Int32) h) fun v20 g21 => if v20 = 0 then (some ((0 : Int32), g21)) else (mm_ck (mm_kd g21 (B + 5) = 6) <| mm_cl (fX5_readTest (B + 5) (0 : Int32) g21) fun v25 g26 => if ¬ v25 = 0 then (mm_ck (mm_kd g26 (B + 5) = 6) <| mm_lt (mm_setI g26 (B + 5) 13 (((mm_i g26 (B + 5) 13) + (1 : Int32)))) fun g30 => mm_rf (mm_r g30 (B + 5) 12) fun u31 => mm_ck (mm_kd g30 u31 = 14) <| mm_ck (mm_ix ((mm_i g30 (B + 5) 13)) (mm_n g30 u31)) <| mm_lt (mm_setI g30 u31 (mm_i g30 (B + 5) 13).toNatClampNeg ((mm_i g30 (B + 5) 10))) fun g34 => some ((1 : Int32), g34)) else (some ((0 : Int32), g26)))
/-- what a clause comes to on both sides -/
def clC (B : Nat) (rx : Option (Int32 × mm_H)) (ry : Option (Unit × mm_H)) (hx hy : mm_H) (L : Nat) : Prop := ∃ hx' hy' f, rx = some (0, hx') ∧ ry = some ((), hy') ∧ mX B (wC B) hx hx' ∧ mX B (wQy B L) hy hy' ∧ f ≠ 0 ∧ f ≤ 4000 ∧ mm_i hx' (B + 5) 8 = nI f ∧ mm_i hy' (B + 66) 20 = nI f
def clB (B : Nat) (t : Nat → Int32) (n m : Nat) (rx : Option (Int32 × mm_H)) (ry : Option (Unit × mm_H)) (hx hy : mm_H) (L : Nat) : Prop := ∃ hx' hy' i' c' cs, rx = some (1, hx') ∧ ry = some ((), hy') ∧ mX B (wC B) hx hx' ∧ mX B (wQy B L) hy hy' ∧ xS B hx' t n m i' c' cs ∧ tkF t n (plF t n i') ≠ 35 ∧ tkF t n (plF t n i') ≠ 26 ∧ mm_i hy' (B + 66) 20 = nI (fl 0 0 (plF t n i'))
section KT
variable {B : Nat} {h h' g7 hx hy hx' hy' : mm_H} {t : Nat → Int32} {n m L i j c cl p : Nat} {cs : List (Nat × Nat)}
theorem wPx_C {a k : Nat} (z : wPx B a k) : wC B a k := by unfold wPx at z; unfold wC; omega
theorem fl0_b (X : xS B h t n m i c cs) {k j : Nat} (hk : k ≤ 6) : fl 0 k (plF t n j) ≠ 0 ∧ fl 0 k (plF t n j) ≤ 4000 := ⟨fl_ne, fl_b X.1.2.2.2.2.2.2 hk (by omega)⟩
theorem J_tail (X : xS B hx t n m j c cs) (hc : c ≤ 80) (h13 : mm_i hx (B + 5) 13 = nI cl) (hcl : cl < 10) (hcj : cs.length ≤ j) {ry : Option (Unit × mm_H)} {P : mm_H → rA → Prop} (Z1 : tkF t n (plF t n j) ≠ 17 → ∃ h', ry = some ((), h') ∧ mX B (wQy B L) hy h' ∧ mm_i h' (B + 66) 20 = nI (fl 0 0 (plF t n j))) (Z2 : tkF t n (plF t n j) = 17 → ∀ r' : rA, rRun t n mm_F (0, j + 1, c, [], cs, 0) = some r' → ∃ h', ry = some ((), h') ∧ mX B (wQy B L) hy h' ∧ yA B h' t n L r' ∧ rOk t n r' ∧ P h' r') : (∃ hx' hy' i' c' new, xTl B hx = some (1, hx') ∧ ry = some ((), hy') ∧ mX B (wC B) hx hx' ∧ mX B (wQy B L) hy hy' ∧ xS B hx' t n m i' c' (new ++ cs) ∧ c' ≤ 80 ∧ mm_i hx' (B + 5) 13 = nI (cl + 1) ∧ mm_i hx' (B + 12) (cl + 1) = nI (new ++ cs).length ∧ (∀ k, k ≠ cl + 1 → mm_i hx' (B + 12) k = mm_i hx (B + 12) k) ∧ (∀ k, mm_i hx' (B + 11) k = mm_i hx (B + 11) k) ∧ tyN new c c' true ∧ (new ++ cs).length ≤ i' ∧ yA B hy' t n L (4, i', c', [], new ++ cs, 0) ∧ P hy' (4, i', c', [], new ++ cs, 0) ∧ (tkF t n (plF t n i') = 35 ∨ tkF t n (plF t n i') = 26)) ∨ clB B t n m (xTl B hx) ry hx hy L ∨ clC B (xTl B hx) ry hx hy L := by
  have S := X.1.1
  obtain ⟨m1, m2⟩ := x_pass X (k := 17) (by omega)
  unfold xTl
  rw [q_ck (sk5 S), show (17 : Int32) = nI 17 by decide +kernel]
  by_cases c17 : tkF t n (plF t n j) = 17
  case neg =>
    obtain ⟨g1, a1, a2, a3⟩ := m2 c17
    obtain ⟨hy', z1, z2, z3⟩ := Z1 c17
    obtain ⟨f1, f2⟩ := fl0_b X (k := 0) (j := j) (by omega)
    refine Or.inr (Or.inr ⟨g1, hy', fl 0 0 (plF t n j), ?_, z1, a2.up fun a k _ z => wPx_C z, z2, f1, f2, a3, z3⟩)
    rw [a1, p_cl, if_pos rfl]
  obtain ⟨g1, a1, a2, X1⟩ := m1 c17
  have hm9 := X1.1.2.2.2.1
  rw [a1, p_cl, if_neg (show ¬ (1 : Int32) = 0 by decide), q_ck (sk5 X1.1.1)]
  have eT : fX5_readTest (B + 5) (0 : Int32) g1 = (fgG2 40).1 (B + 5) (nI (dc [])) g1 := by
    show (fgG2 40).1 (B + 5) (0 : Int32) g1 = (fgG2 40).1 (B + 5) (nI 0) g1
    rw [nI_0]
  have rr := (J_PF (B := B) (t := t) (n := n) (m := m) 40).2 g1 (j + 1) c [] cs X1 hc (by show (0 : Nat) ≤ 10; omega) (by show 2 * (11 - 0) + 1 ≤ 40; omega) (by show 0 + cs.length ≤ j + 1; omega) (Or.inl rfl)
  rw [← eT] at rr
  rcases rr with ⟨g2, i', c', new, k, r1, r2, X2, r4, r4', r5, r6, r7, s1, cs1, r8, r9, r10⟩ | ⟨g2, k, r, r1, r2, r3, r4, r5, r6⟩
  case inr =>
    have hk : k + 1 ≤ mm_F := by unfold mm_F; omega
    have run := r6 (mm_F - (k + 1))
    rw [show mm_F - (k + 1) + k + 1 = mm_F by omega] at run
    obtain ⟨hy', z1, z2, z3, z4, -⟩ := Z2 c17 r run
    have hf : mm_i hy' (B + 66) 20 = nI r.2.2.2.2.2 := z3.1.elim fun p z => z.1.2.2.1
    refine Or.inr (Or.inr ⟨g2, hy', r.2.2.2.2.2, ?_, z1, (a2.tr r2).up fun a k _ z => wPx_C z, z2, r3, z4.2.2.2.2, r4, hf⟩)
    rw [r1, p_cl, if_neg (not_not_intro rfl)]
  have S2 := X2.1.1
  have hi' := X2.2.1.2
  have x12 : mX B (wPx B) hx g2 := a2.tr r2
  have hB := x12.1.2.2
  have e13 : mm_i g2 (B + 5) 13 = nI cl := by rw [x12.i (by omega) (by unfold wPx; omega)]; exact h13
  obtain ⟨g3, e3⟩ : ∃ g3, g3 = mm_setI g2 (B + 5) 13 (nI (cl + 1)) := ⟨_, rfl⟩
  obtain ⟨g4, e4⟩ : ∃ g4, g4 = mm_setI g3 (B + 12) (cl + 1) (nI (new ++ cs).length) := ⟨_, rfl⟩
  have S3 : mS B g3 := by rw [e3]; exact S2
  have x34 : mX B (fun a k => (a = B + 5 ∧ k = 13) ∨ (a = B + 12 ∧ k = cl + 1)) g2 g4 := by
    rw [e4, e3]
    exact ((mX.rf (W := fun a k => (a = B + 5 ∧ k = 13) ∨ (a = B + 12 ∧ k = cl + 1)) S2.1).I (Or.inl (Or.inl ⟨rfl, rfl⟩))).I (Or.inl (Or.inr ⟨rfl, rfl⟩))
  have X4 : xS B g4 t n m i' c' (new ++ cs) := X2.fr x34 (fun a k h z => by
    have z : (a = B + 5 ∧ k = 13) ∨ (a = B + 12 ∧ k = cl + 1) := z
    omega)
  have hq := fun (β : Type) (z : Option β) => q_ckx (show cl + 1 < 11 by omega) (by decide) z
  have ex : (mm_cl (fX5_readTest (B + 5) (0 : Int32) g1) fun v25 g26 => if ¬ v25 = 0 then (mm_ck (mm_kd g26 (B + 5) = 6) <| mm_lt (mm_setI g26 (B + 5) 13 (((mm_i g26 (B + 5) 13) + (1 : Int32)))) fun g30 => mm_rf (mm_r g30 (B + 5) 12) fun u31 => mm_ck (mm_kd g30 u31 = 14) <| mm_ck (mm_ix ((mm_i g30 (B + 5) 13)) (mm_n g30 u31)) <| mm_lt (mm_setI g30 u31 (mm_i g30 (B + 5) 13).toNatClampNeg ((mm_i g30 (B + 5) 10))) fun g34 => some ((1 : Int32), g34)) else (some ((0 : Int32), g26))) = some (1, g4) := by
    rw [r1, p_cl, if_pos (show ¬ (1 : Int32) = 0 by decide), q_ck (sk5 S2), e13, nI_1, ← e3, p_lt, sr5_12 S3, p_rf, q_ck (sk12 S3), show mm_i g3 (B + 5) 13 = nI (cl + 1) by rw [e3, i_I_eq], sn12 S3, hq, nI_clamp (by omega), show mm_i g3 (B + 5) 10 = nI (new ++ cs).length by rw [e3, i_I, if_neg (fun z => by omega)]; exact X2.2.2.2.1, ← e4, p_lt]
  rw [ex]
  have x14 : mX B (wC B) hx g4 := (x12.up fun a k _ z => wPx_C z).tr (x34.up fun a k _ z => by
    have z : (a = B + 5 ∧ k = 13) ∨ (a = B + 12 ∧ k = cl + 1) := z
    unfold wC; omega)
  have eF : rStep t n (3, i', c', s1, cs1, 0) = rF1 t n i' c' [] (new ++ cs) := by
    show rF t n i' c' s1 cs1 = _
    unfold rF rF0
    rw [if_neg r10.2, if_neg r10.1, r9]
  have hk : k + 2 ≤ mm_F := by unfold mm_F; omega
  have run : rRun t n mm_F (0, j + 1, c, [], cs, 0) = rRun t n (mm_F - (k + 2) + 1) (rF1 t n i' c' [] (new ++ cs)) := by
    rw [show mm_F = (mm_F - (k + 2) + 1 + 1) + k by omega, r8, rRun_s _ (by show (3 : Nat) ≠ 4; omega) rfl, eF, show mm_F - (k + 2) + 1 + 1 + k - (k + 2) = mm_F - (k + 2) by omega]
  by_cases c35 : tkF t n (plF t n i') ≠ 35 ∧ tkF t n (plF t n i') ≠ 26
  · have e5 : rF1 t n i' c' [] (new ++ cs) = (4, i', c', [], new ++ cs, fl 0 0 (plF t n i')) := by
      unfold rF1
      rw [if_neg (fun z => absurd z.2 (by decide)), if_pos (Or.inr c35)]
    obtain ⟨f1, f2⟩ := fl0_b X2 (k := 0) (j := i') (by omega)
    obtain ⟨hy', z1, z2, z3, z4, -⟩ := Z2 c17 _ (run.trans (by rw [e5]; exact rRun_f _ f1))
    have hf : mm_i hy' (B + 66) 20 = nI (fl 0 0 (plF t n i')) := z3.1.elim fun p z => z.1.2.2.1
    exact Or.inr (Or.inl ⟨g4, hy', i', c', new ++ cs, rfl, z1, x14, z2, X4, c35.1, c35.2, hf⟩)
  · have e5 : rF1 t n i' c' [] (new ++ cs) = (4, i', c', [], new ++ cs, 0) := by
      unfold rF1
      rw [if_neg (fun z => absurd z.2 (by decide)), if_neg (fun z => c35 (z.resolve_left (fun y => y rfl)))]
    obtain ⟨hy', z1, z2, z3, z4, z5⟩ := Z2 c17 (4, i', c', [], new ++ cs, 0) (run.trans (by
      rw [e5]
      simp only [rRun]
      rw [if_pos (Or.inl trivial)]))
    refine Or.inl ⟨g4, hy', i', c', new, rfl, z1, x14, z2, X4, r4', ?_, ?_, fun k hk => ?_, fun k => ?_, r5, by have : 0 + (new ++ cs).length ≤ i' := r6; omega, z3, z5, by omega⟩
    · rw [e4, i_I_ne (by omega), e3, i_I_eq]
    · rw [e4, i_I_eq]
    · rw [e4, i_I, if_neg (fun z => hk z.2), e3, i_I_ne (by omega), x12.i (by omega) (by unfold wPx; omega)]
    · rw [e4, i_I_ne (by omega), e3, i_I_ne (by omega), x12.i (by omega) (by unfold wPx; omega)]
/-- the fine of a clause -/
theorem x_fine (X : xS B h t n m i c cs) (h13 : mm_i h (B + 5) 13 = nI cl) (hcl : cl < 10) : (tkF t n (plF t n i) ≠ 21 → ∃ h', fX5_readFine (B + 5) h = some (0, h') ∧ mX B (wC B) h h' ∧ mm_i h' (B + 5) 8 = nI (fl 0 0 (plF t n i))) ∧ (tkF t n (plF t n i) = 21 → rV2 t n i ≠ 0 → ∃ h', fX5_readFine (B + 5) h = some (0, h') ∧ mX B (wC B) h h' ∧ mm_i h' (B + 5) 8 = nI (rV2 t n i)) ∧ (tkF t n (plF t n i) = 21 → rV2 t n i = 0 → ∃ h', fX5_readFine (B + 5) h = some (1, h') ∧ mX B (wC B) h h' ∧ xS B h' t n m (i + 1) c cs ∧ mm_i h' (B + 5) 13 = nI cl ∧ (∀ k, mm_i h' (B + 12) k = mm_i h (B + 12) k) ∧ ∀ k, mm_i h' (B + 11) k = if k = cl then nI (10 + nvA t (plF t n i) (deF t n (plF t n i))) else mm_i h (B + 11) k) := by
  have S := X.1.1
  have hm9 := X.1.2.2.2.1
  have him := X.2.1.2
  have hk := tk_b (t := t) (n := n) (p := plF t n i)
  have hq := fun (β : Type) (z : Option β) => q_ckx (show i < 401 by omega) (by decide) z
  have hqc := fun (β : Type) (z : Option β) => q_ckx (show cl < 10 by omega) (by decide) z
  have hci := nI_clamp (n := i) (by omega)
  have htok := (X.1.2.1 i (by omega)).1
  have hnum := (X.1.2.1 i (by omega)).2.2
  unfold fX5_readFine
  rw [q_ck (sk5 S), sr5_2 S, p_rf, q_ck (sk7 S), X.2.1.1, sn7 S, hq]
  simp only [hci]
  rw [htok]
  refine ⟨fun e => ?_, fun e e2 => ?_, fun e e2 => ?_⟩
  · obtain ⟨g, q1, q2, q3, -⟩ := x_fail X 0
    rw [nI_0] at q1
    refine ⟨g, ?_, q2.up fun a k _ z => wPx_C z, q3⟩
    rw [if_neg (show ¬ nI (tkF t n (plF t n i)) = (21 : Int32) from fun z => e ((nI_eq (b := 21) (by omega) (by omega)).mp z)), q1, p_cl, q_ck (Or.inl rfl)]
  · obtain ⟨g, q1, q2, q3, -⟩ := x_fail X 1
    have hl : 5 < deF t n (plF t n i) - plF t n i := by
      refine Nat.not_le.mp fun z => e2 ?_
      unfold rV2; rw [if_neg (by omega)]
    have hv : rV2 t n i = fl 0 1 (plF t n i) := by unfold rV2; rw [if_pos hl]
    have hnu : nuF t n (plF t n i) = -1 := by unfold nuF; rw [if_pos e, if_pos hl]
    refine ⟨g, ?_, q2.up fun a k _ z => wPx_C z, by rw [hv]; exact q3⟩
    rw [if_pos (show nI (tkF t n (plF t n i)) = (21 : Int32) by rw [e]; rfl), sr5_4 S, p_rf, q_ck (sk9 S), sn9 S, hq, hnum, hnu, if_neg (not_not_intro rfl), show (1 : Int32) = nI 1 by decide +kernel, q1, p_cl, q_ck (Or.inl rfl)]
  · have hl : ¬ 5 < deF t n (plF t n i) - plF t n i := fun z => fl_ne (by unfold rV2 at e2; rw [if_pos z] at e2; exact e2)
    have hvb : nvA t (plF t n i) (deF t n (plF t n i)) ≤ 99999 := nvA_b fun q h1 h2 => runF_in h1 h2
    have hnu : nuF t n (plF t n i) = nI (nvA t (plF t n i) (deF t n (plF t n i))) := by unfold nuF; rw [if_pos e, if_neg hl]
    obtain ⟨g1, e1⟩ : ∃ g1, g1 = mm_setI h (B + 11) cl (nI (10 + nvA t (plF t n i) (deF t n (plF t n i)))) := ⟨_, rfl⟩
    have x1 : mX B (fun a _ => a = B + 11) h g1 := by rw [e1]; exact (mX.rf (W := fun a _ => a = B + 11) S.1).I (Or.inl rfl)
    have X1 : xS B g1 t n m i c cs := X.fr x1 (fun a k h z => by have z : a = B + 11 := z; omega)
    obtain ⟨g2, q1, q2, X2⟩ := x_goOn X1 (X.lt (by omega))
    have hB := q2.1.2.2
    refine ⟨g2, ?_, (x1.up fun a k _ z => by have z : a = B + 11 := z; unfold wC; omega).tr (q2.up fun a k _ z => wPx_C z), X2, ?_, fun k => ?_, fun k => ?_⟩
    · rw [if_pos (show nI (tkF t n (plF t n i)) = (21 : Int32) by rw [e]; rfl), sr5_4 S, p_rf, q_ck (sk9 S), sn9 S, hq, hnum, hnu, if_pos (show ¬ nI (nvA t (plF t n i) (deF t n (plF t n i))) = -1 from nI_neg1 (by omega)), hq, sr5_11 S, p_rf, q_ck (sk11 S), h13, sn11 S, hqc, nI_clamp (by omega), show (10 : Int32) = nI 10 by decide +kernel, nI_add, ← e1, p_lt, q1, p_cl]
    · rw [q2.i (by omega) (by unfold wPx; omega), e1, i_I_ne (by omega)]; exact h13
    · rw [q2.i (by omega) (by unfold wPx; omega), e1, i_I_ne (by omega)]
    · rw [q2.i (by omega) (by unfold wPx; omega), e1, i_I]
      by_cases z : k = cl
      · rw [if_pos ⟨rfl, z⟩, if_pos z]
      · rw [if_neg (fun y => z y.2), if_neg z]
end KT
