/-! facts alike -/
def flT (B : Nat) (t : Nat → Int32) (n m : Nat) (res : Option (Int32 × mm_H)) (h : mm_H) (i c : Nat) (s : List Nat) (cs : List (Nat × Nat)) (st : Nat) : Prop := ∃ h' k, ∃ r : rA, res = some (0, h') ∧ mX B (wPx B) h h' ∧ r.2.2.2.2.2 ≠ 0 ∧ mm_i h' (B + 5) 8 = nI r.2.2.2.2.2 ∧ k ≤ 3 * (m - i) + 4 ∧ ∀ f, rRun t n (f + k + 1) (st, i, c, s, cs, 0) = some r
def fOK (s : List Nat) : Prop := tp s = 0 ∨ tp s = 12 ∨ tp s = 13 ∨ tp s = 14 ∨ tp s = 16
def tOK (s : List Nat) : Prop := tp s = 0 ∨ tp s = 16
def PF (B : Nat) (t : Nat → Int32) (n m N : Nat) : Prop := ∀ (h : mm_H) (i c : Nat) (s : List Nat) (cs : List (Nat × Nat)), xS B h t n m i c cs → c ≤ 80 → dc s ≤ 10 → 2 * (11 - dc s) ≤ N → s.length + cs.length ≤ i → fOK s → okR B t n m ((fgG2 N).2 (B + 5) (nI (dc s)) h) h i c s cs 0 (fun _ i' c' new k => ∃ s1 cs1, (∀ f, rRun t n (f + k) (0, i, c, s, cs, 0) = rRun t n f (3, i', c', s1, cs1, 0)) ∧ notS s1 cs1 = notS s (new ++ cs)) true ∨ flT B t n m ((fgG2 N).2 (B + 5) (nI (dc s)) h) h i c s cs 0
def PT (B : Nat) (t : Nat → Int32) (n m N : Nat) : Prop := ∀ (h : mm_H) (i c : Nat) (s : List Nat) (cs : List (Nat × Nat)), xS B h t n m i c cs → c ≤ 80 → dc s ≤ 10 → 2 * (11 - dc s) + 1 ≤ N → s.length + cs.length ≤ i → tOK s → okR B t n m ((fgG2 N).1 (B + 5) (nI (dc s)) h) h i c s cs 0 (fun _ i' c' new k => ∃ s1 cs1, (∀ f, rRun t n (f + k) (0, i, c, s, cs, 0) = rRun t n f (3, i', c', s1, cs1, 0)) ∧ andS true (notS s1 cs1).1 (notS s1 cs1).2 = (s, new ++ cs) ∧ (tkF t n (plF t n i') ≠ 18 ∧ tkF t n (plF t n i') ≠ 19)) true ∨ flT B t n m ((fgG2 N).1 (B + 5) (nI (dc s)) h) h i c s cs 0
section KN
variable {B : Nat} {h h' : mm_H} {t : Nat → Int32} {n m i c N : Nat} {s : List Nat} {cs : List (Nat × Nat)}
theorem x_pass (X : xS B h t n m i c cs) {k : Nat} (hk : k < 35) : (tkF t n (plF t n i) = k → ∃ h', fX5_pass (B + 5) (nI k) h = some (1, h') ∧ mX B (wPx B) h h' ∧ xS B h' t n m (i + 1) c cs) ∧ (tkF t n (plF t n i) ≠ k → ∃ h', fX5_pass (B + 5) (nI k) h = some (0, h') ∧ mX B (wPx B) h h' ∧ mm_i h' (B + 5) 8 = nI (fl 0 0 (plF t n i))) := by
  have S := X.1.1
  have hm := X.1.2.2.2.1
  have hi := X.2.1.2
  have hb := tk_b (t := t) (n := n) (p := plF t n i)
  have hq := fun (β : Type) (z : Option β) => q_ckx (show i < 401 by omega) (by decide) z
  have htok := (X.1.2.1 i (by omega)).1
  unfold fX5_pass
  rw [q_ck (sk5 S), sr5_2 S, p_rf, q_ck (sk7 S), X.2.1.1, sn7 S, hq, nI_clamp (by omega), htok]
  refine ⟨fun e => ?_, fun e => ?_⟩
  · obtain ⟨g, q1, q2, q3⟩ := x_goOn X (X.lt (by omega))
    refine ⟨g, ?_, q2, q3⟩
    rw [if_pos (by rw [e]), q1, p_cl]
  · obtain ⟨g, q1, q2, q3, -⟩ := x_fail X 0
    rw [nI_0] at q1
    refine ⟨g, ?_, q2, q3⟩
    rw [if_neg (fun z => e ((nI_eq (by omega) (by omega)).mp z)), q1, p_cl, q_ck (Or.inl rfl)]
theorem notS_t (h : tp s ≠ 14) : notS s cs = (s, cs) := by
  cases s with
  | nil => rfl
  | cons k r =>
    have hk : k ≠ 14 := h
    simp only [notS]
    rw [if_neg hk]
theorem J_fact (hS : PS B t n m 40) (hT : PT B t n m N) (hF : PF B t n m N) : PF B t n m (N + 1) := by
  intro h i c s cs X hc hd hN hb hs
  have S := X.1.1
  have hm9 := X.1.2.2.2.1
  have him := X.2.1.2
  have hk := tk_b (t := t) (n := n) (p := plF t n i)
  have hq := fun (β : Type) (z : Option β) => q_ckx (show i < 401 by omega) (by decide) z
  have hci := nI_clamp (n := i) (by omega)
  have htok := (X.1.2.1 i (by omega)).1
  have efl : (fgG2 (N + 1)).2 (B + 5) (nI (dc s)) h = fX5_readFact_g (fgG2 N).1 (fgG2 N).2 (B + 5) (nI (dc s)) h := rfl
  rw [efl]
  have one : ∀ f r', rW t n i c s cs = r' → rRun t n (f + 1) (0, i, c, s, cs, 0) = rRun t n f r' := fun f r' hr => by
    rw [rRun_s _ (by show (0 : Nat) ≠ 4; omega) rfl, ← hr]; rfl
  unfold fX5_readFact_g
  rw [q_ck (sk5 S), sr5_2 S, p_rf, q_ck (sk7 S), X.2.1.1, sn7 S, hq]
  simp only [hci]
  rw [htok]
  -- one that goes deeper
  have deep : tkF t n (plF t n i) = 20 ∨ tkF t n (plF t n i) = 22 → ∀ v5 : Int32, (v5 = 0 ↔ tkF t n (plF t n i) = 20) → ∀ res, res = (if nI (dc s) < (10 : Int32) then (mm_cl (fX5_goOn (B + 5) h) fun _ g9 => if v5 = 0 then (mm_ck (mm_kd g9 (B + 5) = 6) <| mm_cl ((fgG2 N).2 (B + 5) ((nI (dc s) + (1 : Int32))) g9) fun v13 g14 => if ¬ v13 = 0 then (mm_ck (mm_kd g14 (B + 5) = 6) <| mm_cl (fX5_emit (B + 5) (-21 : Int32) g14) fun _ g18 => some ((1 : Int32), g18)) else (some ((0 : Int32), g14))) else (mm_ck (mm_kd g9 (B + 5) = 6) <| mm_cl ((fgG2 N).1 (B + 5) ((nI (dc s) + (1 : Int32))) g9) fun v21 g22 => if v21 = 0 then (some ((0 : Int32), g22)) else (mm_ck (mm_kd g22 (B + 5) = 6) <| mm_cl (fX5_pass (B + 5) (23 : Int32) g22) fun v26 g27 => if v26 = 0 then (some ((0 : Int32), g27)) else (some ((1 : Int32), g27))))) else (mm_cl (fX5_fail (B + 5) (2 : Int32) h) fun v30 g31 => mm_ck (v30 = 0 ∨ v30 = 1) <| some (v30, g31))) → okR B t n m res h i c s cs 0 (fun _ i' c' new k => ∃ s1 cs1, (∀ f, rRun t n (f + k) (0, i, c, s, cs, 0) = rRun t n f (3, i', c', s1, cs1, 0)) ∧ notS s1 cs1 = notS s (new ++ cs)) true ∨ flT B t n m res h i c s cs 0 := by
    intro hK v5 hv res hres
    obtain ⟨o, ho⟩ : ∃ o, o = (if tkF t n (plF t n i) = 20 then 14 else 16) := ⟨_, rfl⟩
    have eW : rW t n i c s cs = (0, i + 1, c, o :: s, cs, if dc s = 10 then fl 0 2 (plF t n i) else 0) := by
      unfold rW
      rcases hK with e | e
      · rw [if_pos e, ho, if_pos e]
      · rw [if_neg (show ¬ tkF t n (plF t n i) = 20 by omega), if_pos e, ho, if_neg (show ¬ tkF t n (plF t n i) = 20 by omega)]
    have ho9 : o = 14 ∨ o = 16 := by rw [ho]; split <;> simp
    by_cases cd : dc s = 10
    · obtain ⟨g, q1, q2, q3, q4⟩ := x_fail X 2
      rw [if_pos cd] at eW
      refine Or.inr ⟨g, 1, (0, i + 1, c, o :: s, cs, fl 0 2 (plF t n i)), ?_, q2, q4, q3, by omega, fun f => ?_⟩
      · rw [hres, if_neg (show ¬ nI (dc s) < (10 : Int32) from nI_nlt (b := 10) (by omega) (by omega)), show (2 : Int32) = nI 2 by decide +kernel, q1, p_cl, q_ck (Or.inl rfl)]
      · rw [one _ _ eW, rRun_f _ q4]
    rw [if_neg cd] at eW
    have hlt := X.lt (by omega)
    obtain ⟨g2, q1, q2, X2⟩ := x_goOn X hlt
    have edc : dc (o :: s) = dc s + 1 := by simp only [dc]; rw [if_pos (by omega)]
    rw [hres, if_pos (show nI (dc s) < (10 : Int32) from nI_lt (b := 10) (by omega) (by omega)), q1, p_cl, nI_1]
    by_cases c20 : tkF t n (plF t n i) = 20
    · rw [if_pos c20] at ho
      have rr := hF g2 (i + 1) c (o :: s) cs X2 hc (by rw [edc]; omega) (by rw [edc]; omega) (by rw [List.length_cons]; omega) (by rw [ho]; exact Or.inr (Or.inr (Or.inr (Or.inl rfl))))
      rw [edc] at rr
      rw [if_pos (hv.mpr c20), q_ck (sk5 X2.1.1)]
      rcases rr with ⟨g3, i', c', new, k, r1, r2, X3, r4, r4', r5, r6, r7, s1, cs1, r8, r9⟩ | ⟨g3, k, r, r1, r2, r3, r4, r5, r6⟩
      · rw [List.length_cons] at r6
        have him3 := X3.2.1.2
        obtain ⟨g4, q3, q4, X4⟩ := x_emit X3 (by omega) (o := 14) (w := 0) (v := -21) (by decide +kernel)
        rw [r1, p_cl, if_pos (show ¬ (1 : Int32) = 0 by decide), q_ck (sk5 X3.1.1), q3, p_cl]
        refine Or.inl ⟨g4, i', c', (14, 0) :: new, k + 1, rfl, (q2.tr r2).tr q4, X4, by omega, r4', ⟨fun seg τ e1 e2 => ?_, fun x hx => ?_, r5.2.2⟩, by show s.length + ((14, 0) :: (new ++ cs)).length ≤ i'; rw [List.length_cons]; omega, by omega, s1, cs1, fun f => ?_, ?_⟩
        · exact tyL_c (r5.1 seg τ e1 e2) rfl
        · rcases List.mem_cons.mp hx with z | z
          · rw [z]; exact ⟨fun z => absurd z (show ¬ (14 : Nat) = 0 by decide), fun z => absurd z (show ¬ (14 : Nat) = 1 by decide), Nat.le_refl _⟩
          · exact r5.2.1 x z
        · rw [show f + (k + 1) = (f + k) + 1 by omega, one _ _ eW]; exact r8 f
        · rw [r9, ho]; rfl
      · rw [r1, p_cl, if_neg (not_not_intro rfl)]
        refine Or.inr ⟨g3, k + 1, r, rfl, q2.tr r2, r3, r4, by omega, fun f => ?_⟩
        rw [show f + (k + 1) + 1 = (f + k + 1) + 1 by omega, one _ _ eW]; exact r6 f
    · rw [if_neg c20] at ho
      have rr := hT g2 (i + 1) c (o :: s) cs X2 hc (by rw [edc]; omega) (by rw [edc]; omega) (by rw [List.length_cons]; omega) (by rw [ho]; exact Or.inr rfl)
      rw [edc] at rr
      rw [if_neg (fun z => c20 (hv.mp z)), q_ck (sk5 X2.1.1)]
      rcases rr with ⟨g3, i', c', new, k, r1, r2, X3, r4, r4', r5, r6, r7, s1, cs1, r8, r9, r10⟩ | ⟨g3, k, r, r1, r2, r3, r4, r5, r6⟩
      · rw [List.length_cons] at r6
        have him3 := X3.2.1.2
        obtain ⟨m1, m2⟩ := x_pass X3 (k := 23) (by omega)
        have eF : rStep t n (3, i', c', s1, cs1, 0) = rF1 t n i' c' (16 :: s) (new ++ cs) := by
          show rF t n i' c' s1 cs1 = _
          unfold rF rF0
          rw [if_neg r10.2, if_neg r10.1, r9, ho]
        have run2 : ∀ f, rRun t n (f + (k + 2)) (0, i, c, s, cs, 0) = rRun t n f (rF1 t n i' c' (16 :: s) (new ++ cs)) := fun f => by
          rw [show f + (k + 2) = (f + 1 + k) + 1 by omega, one _ _ eW, r8, rRun_s _ (by show (3 : Nat) ≠ 4; omega) rfl, eF]
        rw [r1, p_cl, if_neg (show ¬ (1 : Int32) = 0 by decide), q_ck (sk5 X3.1.1)]
        by_cases c23 : tkF t n (plF t n i') = 23
        · obtain ⟨g4, q3, q4, X4⟩ := m1 c23
          rw [show (23 : Int32) = nI 23 by decide +kernel, q3, p_cl, if_neg (show ¬ (1 : Int32) = 0 by decide)]
          have e3 : rF1 t n i' c' (16 :: s) (new ++ cs) = (3, i' + 1, c', s, new ++ cs, 0) := by
            unfold rF1
            rw [if_pos ⟨c23, rfl⟩]; rfl
          refine Or.inl ⟨g4, i' + 1, c', new, k + 2, rfl, (q2.tr r2).tr q4, X4, by omega, r4', r5, by omega, by omega, s, new ++ cs, fun f => ?_, rfl⟩
          rw [run2, e3]
        · obtain ⟨g4, q3, q4, q5⟩ := m2 c23
          rw [show (23 : Int32) = nI 23 by decide +kernel, q3, p_cl, if_pos rfl]
          have e3 : rF1 t n i' c' (16 :: s) (new ++ cs) = (4, i', c', 16 :: s, new ++ cs, fl 0 0 (plF t n i')) := by
            unfold rF1
            rw [if_neg (fun z => c23 z.1), if_pos (Or.inl (fun z => by cases z))]
          refine Or.inr ⟨g4, k + 2, (4, i', c', 16 :: s, new ++ cs, fl 0 0 (plF t n i')), rfl, (q2.tr r2).tr q4, show fl 0 0 (plF t n i') ≠ 0 from fl_ne, q5, by omega, fun f => ?_⟩
          rw [show f + (k + 2) + 1 = (f + 1) + (k + 2) by omega, run2, e3, rRun_f _ (show fl 0 0 (plF t n i') ≠ 0 from fl_ne)]
      · rw [r1, p_cl, if_pos rfl]
        refine Or.inr ⟨g3, k + 1, r, rfl, q2.tr r2, r3, r4, by omega, fun f => ?_⟩
        rw [show f + (k + 1) + 1 = (f + k + 1) + 1 by omega, one _ _ eW]; exact r6 f
  by_cases c22 : tkF t n (plF t n i) = 22
  · rw [p_jn, if_neg (not_not_intro (show nI (tkF t n (plF t n i)) = (22 : Int32) by rw [c22]; rfl))]
    dsimp only
    rw [p_jn, if_pos (show ¬ (1 : Int32) = 0 by decide)]
    exact deep (Or.inr c22) 1 ⟨fun z => absurd z (by decide), fun z => by omega⟩ _ rfl
  rw [p_jn, if_pos (show ¬ nI (tkF t n (plF t n i)) = (22 : Int32) from fun z => c22 ((nI_eq (b := 22) (by omega) (by omega)).mp z))]
  dsimp only
  rw [p_jn, if_neg (not_not_intro rfl), hq]
  by_cases c20 : tkF t n (plF t n i) = 20
  · rw [if_neg (not_not_intro (show nI (tkF t n (plF t n i)) = (20 : Int32) by rw [c20]; rfl))]
    exact deep (Or.inl c20) 0 ⟨fun _ => c20, fun _ => rfl⟩ _ rfl
  rw [if_pos (show ¬ nI (tkF t n (plF t n i)) = (20 : Int32) from fun z => c20 ((nI_eq (b := 20) (by omega) (by omega)).mp z))]
  -- a comparison
  have hs5 : tp s ≠ 3 ∧ tp s ≠ 4 ∧ tp s ≠ 5 := by unfold fOK at hs; omega
  have eW : rW t n i c s cs = (1, i, c, s, cs, 0) := by unfold rW; rw [if_neg c20, if_neg c22]
  have r1 := hS h i c s cs X hc hd (by omega) hb hs5
  have eRS : ∀ g, fX5_readSum (B + 5) (nI (dc s)) g = (fgG1 40).2 (B + 5) (nI (dc s)) g := fun _ => rfl
  rw [eRS]
  rcases r1 with ⟨g1, i1, c1, new1, k1, r1, r2, X1, r4, r4', r5, r6, r7, s1, cs1, r8, r9, r10⟩ | ⟨g1, k1, r, r1, r2, r3, r4, r5, r6⟩
  case inr =>
    rw [r1, p_cl, if_neg (not_not_intro rfl)]
    refine Or.inr ⟨g1, k1 + 1, r, rfl, r2, r3, r4, by omega, fun f => ?_⟩
    rw [show f + (k1 + 1) + 1 = (f + k1 + 1) + 1 by omega, one _ _ eW]; exact r6 f
  have S1 := X1.1.1
  have him1 := X1.2.1.2
  have hk1 := tk_b (t := t) (n := n) (p := plF t n i1)
  have hq1 := fun (β : Type) (z : Option β) => q_ckx (show i1 < 401 by omega) (by decide) z
  have htok1 := (X1.1.2.1 i1 (by omega)).1
  rw [r1, p_cl, if_pos (show ¬ (1 : Int32) = 0 by decide), q_ck (sk5 S1), sr5_2 S1, p_rf, q_ck (sk7 S1), X1.2.1.1, sn7 S1, hq1, nI_clamp (by omega), htok1, p_lt]
  have hs15 : tp s ≠ 15 ∧ ¬ (7 ≤ tp s ∧ tp s ≤ 11) := by unfold fOK at hs; omega
  have eH : rStep t n (2, i1, c1, s1, cs1, 0) = if 30 ≤ tkF t n (plF t n i1) ∧ tkF t n (plF t n i1) ≤ 34 then (1, i1 + 1, c1 + 1, (tkF t n (plF t n i1) - 23) :: s, new1 ++ cs, rCn t n i1 c1 0) else (1, i1, c1, s, new1 ++ cs, fl 0 0 (plF t n i1)) := by
    show rH t n i1 c1 s1 cs1 = _
    unfold rH
    rw [if_neg r10.2.2, if_neg r10.1, if_neg r10.2.1, r9]
    unfold rH1
    rw [if_neg (fun z => hs15.1 z.2), if_neg hs15.1, if_neg hs15.2]
  have runH : ∀ f r', rStep t n (2, i1, c1, s1, cs1, 0) = r' → rRun t n (f + (k1 + 2)) (0, i, c, s, cs, 0) = rRun t n f r' := fun f r' hr => by
    rw [show f + (k1 + 2) = (f + 1 + k1) + 1 by omega, one _ _ eW, r8, rRun_s _ (by show (2 : Nat) ≠ 4; omega) rfl, hr]
  have bad : ∀ k, (rStep t n (2, i1, c1, s1, cs1, 0)).2.2.2.2.2 = fl 0 k (plF t n i1) → ∀ res, res = (mm_cl (fX5_fail (B + 5) (nI k) g1) fun v g => mm_ck (v = 0 ∨ v = 1) <| some (v, g)) → flT B t n m res h i c s cs 0 := fun k hr res hres => by
    obtain ⟨h', q1, q2, q3, q4⟩ := x_fail X1 k
    refine ⟨h', k1 + 2, rStep t n (2, i1, c1, s1, cs1, 0), ?_, r2.tr q2, by rw [hr]; exact q4, by rw [hr]; exact q3, by omega, fun f => ?_⟩
    · rw [hres, q1, p_cl, q_ck (Or.inl rfl)]
    · rw [show f + (k1 + 2) + 1 = (f + 1) + (k1 + 2) by omega, runH _ _ rfl, rRun_f _ (by rw [hr]; exact q4)]
  by_cases c30 : 30 ≤ tkF t n (plF t n i1)
  case neg =>
    rw [if_pos (show nI (tkF t n (plF t n i1)) < (30 : Int32) from nI_lt (b := 30) (by omega) (by omega))]
    exact Or.inr (bad 0 (by rw [eH, if_neg (by omega)]) _ rfl)
  rw [if_neg (show ¬ nI (tkF t n (plF t n i1)) < (30 : Int32) from nI_nlt (b := 30) (by omega) (by omega))]
  by_cases c34 : tkF t n (plF t n i1) ≤ 34
  case neg =>
    rw [if_neg (show ¬ nI (tkF t n (plF t n i1)) ≤ (34 : Int32) from nI_ge (a := 34) (by omega) (by omega))]
    exact Or.inr (bad 0 (by rw [eH, if_neg (by omega)]) _ rfl)
  rw [if_pos (show nI (tkF t n (plF t n i1)) ≤ (34 : Int32) from nI_le (b := 34) (by omega) (by omega)), X1.2.2.1]
  rw [if_pos ⟨c30, c34⟩] at eH
  by_cases c80 : c1 = 80
  · rw [if_neg (show ¬ nI c1 < (80 : Int32) from nI_nlt (b := 80) (by omega) (by omega))]
    exact Or.inr (bad 3 (by rw [eH]; show rCn t n i1 c1 0 = _; unfold rCn; rw [if_pos c80]) _ rfl)
  rw [if_pos (show nI c1 < (80 : Int32) from nI_lt (b := 80) (by omega) (by omega)), nI_1]
  have eH2 : rStep t n (2, i1, c1, s1, cs1, 0) = (1, i1 + 1, c1 + 1, (tkF t n (plF t n i1) - 23) :: s, new1 ++ cs, 0) := by rw [eH]; unfold rCn; rw [if_neg c80]
  obtain ⟨X2, x2⟩ := X1.cnt
  obtain ⟨g2, eg2⟩ : ∃ g2, g2 = mm_setI g1 (B + 5) 7 (nI (c1 + 1)) := ⟨_, rfl⟩
  rw [← eg2] at X2 x2
  have hlt1 := X1.lt (by omega)
  obtain ⟨g3, q3, q4, X3⟩ := x_goOn X2 hlt1
  obtain ⟨o, ho⟩ : ∃ o, o = tkF t n (plF t n i1) - 23 := ⟨_, rfl⟩
  have ho9 : 7 ≤ o ∧ o ≤ 11 := by omega
  rw [← ho] at eH2
  have edc : dc (o :: s) = dc s := by simp only [dc]; rw [if_neg (by omega)]; rfl
  have rr := hS g3 (i1 + 1) (c1 + 1) (o :: s) (new1 ++ cs) X3 (by omega) (by rw [edc]; exact hd) (by omega) (by rw [List.length_cons]; omega) (show o ≠ 3 ∧ o ≠ 4 ∧ o ≠ 5 by omega)
  rw [edc] at rr
  rw [← eg2, p_lt, q3, p_cl, q_ck (sk5 X3.1.1), eRS]
  rcases rr with ⟨g4, i2, c2, new2, k2, p1, p2, X4, p4, p4', p5, p6, p7, s2, cs2, p8, p9, p10⟩ | ⟨g4, k2, r, p1, p2, p3, p4, p5, p6⟩
  case inr =>
    rw [p1, p_cl, if_neg (not_not_intro rfl)]
    refine Or.inr ⟨g4, k2 + (k1 + 2), r, rfl, ((r2.tr x2).tr q4).tr p2, p3, p4, by omega, fun f => ?_⟩
    rw [show f + (k2 + (k1 + 2)) + 1 = (f + k2 + 1) + (k1 + 2) by omega, runH _ _ eH2]; exact p6 f
  rw [List.length_cons] at p6
  have him4 := X4.2.1.2
  obtain ⟨g5, q5, q6, X5⟩ := x_emit X4 (by omega) (o := o) (w := 0) (v := (-1 : Int32) - nI (tkF t n (plF t n i1))) (by
    rw [stp_neg (by omega)]
    have : tokOf o = tkF t n (plF t n i1) := by
      have h5 : o = 7 ∨ o = 8 ∨ o = 9 ∨ o = 10 ∨ o = 11 := by omega
      rcases h5 with e | e | e | e | e <;> rw [e] <;> unfold tokOf <;> simp <;> omega
    rw [this])
  rw [p1, p_cl, if_pos (show ¬ (1 : Int32) = 0 by decide), q_ck (sk5 X4.1.1), q5, p_cl]
  have ea : (o, 0) :: (new2 ++ (new1 ++ cs)) = ((o, 0) :: (new2 ++ new1)) ++ cs := by rw [List.cons_append, List.append_assoc]
  rw [ea] at X5
  have eF : rStep t n (2, i2, c2, s2, cs2, 0) = (3, i2, c2, s, ((o, 0) :: (new2 ++ new1)) ++ cs, 0) := by
    show rH t n i2 c2 s2 cs2 = _
    unfold rH
    rw [if_neg p10.2.2, if_neg p10.1, if_neg p10.2.1, p9]
    unfold rH1
    have ht : tp (o :: s) = o := rfl
    rw [if_neg (fun z => by have := z.2; rw [ht] at this; omega), if_neg (show ¬ tp (o :: s) = 15 by rw [ht]; omega), if_pos (show 7 ≤ tp (o :: s) ∧ tp (o :: s) ≤ 11 by rw [ht]; omega), ← ea]; rfl
  refine Or.inl ⟨g5, i2, c2, (o, 0) :: (new2 ++ new1), 1 + (k2 + (k1 + 2)), rfl, (((r2.tr x2).tr q4).tr p2).tr q6, X5, by omega, p4', ⟨fun seg τ e1 e2 => ?_, fun x hx => ?_, ?_⟩, ?_, by omega, s, ((o, 0) :: (new2 ++ new1)) ++ cs, fun f => ?_, rfl⟩
  · have h1 := r5.1 seg τ e1 e2
    have h2 := p5.1 (new1 ++ seg) (false :: τ) h1 (by have := r5.2.2; rw [List.length_cons]; omega)
    rw [List.cons_append, List.append_assoc]
    refine tyL_c h2 ?_
    have h5 : o = 7 ∨ o = 8 ∨ o = 9 ∨ o = 10 ∨ o = 11 := by omega
    rcases h5 with e | e | e | e | e <;> rw [e] <;> rfl
  · rcases List.mem_cons.mp hx with z | z
    · rw [z]; exact ⟨fun z => absurd z (show ¬ o = 0 by omega), fun z => absurd z (show ¬ o = 1 by omega), show o ≤ 14 by omega⟩
    · rcases List.mem_append.mp z with z | z
      · exact p5.2.1 x z
      · exact r5.2.1 x z
  · have := r5.2.2; have := p5.2.2; omega
  · rw [← ea, List.length_cons]; omega
  · rw [show f + (1 + (k2 + (k1 + 2))) = (f + 1 + k2) + (k1 + 2) by omega, runH _ _ eH2, p8, rRun_s _ (by show (2 : Nat) ≠ 4; omega) rfl, eF]
end KN
