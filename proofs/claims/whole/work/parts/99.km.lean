/-! tests alike -/
def pnT (b w : Bool) : List Nat := (if b = true then [12] else []) ++ (if w = true then [13] else [])
def emT (b w : Bool) (cs : List (Nat × Nat)) : List (Nat × Nat) := if w = true then (13, 0) :: (if b = true then (12, 0) :: cs else cs) else (if b = true then (12, 0) :: cs else cs)
def vlT (b w : Bool) : Nat := (if w = true then 1 else 0) + (if b = true then 1 else 0)
section KO
variable {B : Nat} {h h' : mm_H} {t : Nat → Int32} {n m i c N : Nat} {s : List Nat} {cs : List (Nat × Nat)} {b w : Bool}
theorem andS_t (h : tOK s) {x : Bool} : andS x s cs = (s, cs) := by
  cases s with
  | nil => rfl
  | cons k r =>
    have hk : k = 0 ∨ k = 16 := h
    simp only [andS]
    rw [if_neg (by omega)]
theorem andS_f (h : tOK s) : andS true (pnT b w ++ s) cs = (s, emT b w cs) ∧ andS false (pnT b w ++ s) cs = (pnT false w ++ s, if b = true then (12, 0) :: cs else cs) := by
  cases w <;> cases b <;> simp [pnT, emT, andS, andS_t h]
theorem pnT_dc : dc (pnT b w ++ s) = dc s := by
  cases w <;> cases b <;> simp [pnT, dc]
theorem pnT_ok (h : tOK s) : fOK (pnT b w ++ s) ∧ tp (pnT b w ++ s) ≠ 14 := by
  cases w <;> cases b
  · have e : pnT false false ++ s = s := rfl
    rw [e]; unfold tOK at h; unfold fOK; omega
  · exact ⟨Or.inr (Or.inl rfl), show (12 : Nat) ≠ 14 by decide⟩
  · exact ⟨Or.inr (Or.inr (Or.inl rfl)), show (13 : Nat) ≠ 14 by decide⟩
  · exact ⟨Or.inr (Or.inl rfl), show (12 : Nat) ≠ 14 by decide⟩
theorem pnT_len : (pnT b w ++ s).length = vlT b w + s.length ∧ (emT b w cs).length = vlT b w + cs.length := by
  cases w <;> cases b <;> simp [pnT, emT, vlT] <;> omega
theorem emT_app {new : List (Nat × Nat)} : emT b w (new ++ cs) = emT b w new ++ cs := by
  cases w <;> cases b <;> rfl
theorem emT_ty {X : List (Nat × Nat)} {τ : List Bool} (h : tyL X = some (true :: rpF true (vlT b w) τ)) : tyL (emT b w X) = some (true :: τ) ∧ tyL (if b = true then (12, 0) :: X else X) = some (true :: rpF true (if w = true then 1 else 0) τ) := by
  have t12 : ∀ q, tyStep 12 (true :: true :: q) = some (true :: q) := fun q => rfl
  have t13 : ∀ q, tyStep 13 (true :: true :: q) = some (true :: q) := fun q => rfl
  cases w <;> cases b
  · exact ⟨h, h⟩
  · exact ⟨tyL_c h (t12 _), tyL_c h (t12 _)⟩
  · exact ⟨tyL_c h (t13 _), h⟩
  · exact ⟨tyL_c (tyL_c h (t12 _)) (t13 _), tyL_c h (t12 _)⟩
theorem emT_ok {X : List (Nat × Nat)} (h : ∀ x, x ∈ X → okC x) : (∀ x, x ∈ emT b w X → okC x) ∧ ∀ x, x ∈ (if b = true then (12, 0) :: X else X) → okC x := by
  have o : ∀ k, 2 ≤ k → k ≤ 14 → okC (k, 0) := fun k h1 h2 => ⟨fun z => by have : k = 0 := z; omega, fun z => by have : k = 1 := z; omega, h2⟩
  have c1 : ∀ {Y : List (Nat × Nat)} {k}, (∀ x, x ∈ Y → okC x) → 2 ≤ k → k ≤ 14 → ∀ x, x ∈ (k, 0) :: Y → okC x := fun hY h1 h2 x hx => by
    rcases List.mem_cons.mp hx with z | z
    · rw [z]; exact o _ h1 h2
    · exact hY x z
  cases w <;> cases b
  · exact ⟨h, h⟩
  · exact ⟨c1 h (by omega) (by omega), c1 h (by omega) (by omega)⟩
  · exact ⟨c1 h (by omega) (by omega), h⟩
  · exact ⟨c1 (c1 h (by omega) (by omega)) (by omega) (by omega), c1 h (by omega) (by omega)⟩
/-- the class's loop over a test's facts, with what waits -/
theorem J_test_L (hF : PF B t n m N) {rc0 : Nat → Int32 → mm_H → Option (Int32 × mm_H)} (K : mm_H → Option (Int32 × mm_H)) {s : List Nat} (hs : tOK s) (hd : dc s ≤ 10) (hNd : 2 * (11 - dc s) ≤ N) : ∀ (e : Nat) (h : mm_H) (i c : Nat) (cs : List (Nat × Nat)) (b w : Bool) (u fuel : Nat), m - i < e → e < fuel → xS B h t n m i c cs → c ≤ 80 → u ≤ i → (pnT b w ++ s).length + cs.length ≤ i → (∃ h' i' c' new k, fX5_readTest_L7 rc0 (fgG2 N).2 (B + 5) (nI (dc s)) K fuel (if w = true then 1 else 0) (if b = true then 1 else 0) (nI u) h = some (1, h') ∧ mX B (wPx B) h h' ∧ xS B h' t n m i' c' (new ++ cs) ∧ i < i' ∧ c' ≤ 80 ∧ tyV true (vlT b w) new c c' ∧ s.length + (new ++ cs).length ≤ i' ∧ k ≤ 3 * (i' - i) ∧ ∃ s1 cs1, (∀ f, rRun t n (f + k) (0, i, c, pnT b w ++ s, cs, 0) = rRun t n f (3, i', c', s1, cs1, 0)) ∧ andS true (notS s1 cs1).1 (notS s1 cs1).2 = (s, new ++ cs) ∧ (tkF t n (plF t n i') ≠ 18 ∧ tkF t n (plF t n i') ≠ 19)) ∨ flT B t n m (fX5_readTest_L7 rc0 (fgG2 N).2 (B + 5) (nI (dc s)) K fuel (if w = true then 1 else 0) (if b = true then 1 else 0) (nI u) h) h i c (pnT b w ++ s) cs 0 := by
  intro e
  induction e with
  | zero => intro h i c cs b w u fuel he; omega
  | succ e ih =>
    intro h i c cs b w u fuel he hf X hc hu hb
    obtain ⟨g, rfl⟩ : ∃ f, fuel = f + 1 := ⟨fuel - 1, by omega⟩
    have S := X.1.1
    have hm9 := X.1.2.2.2.1
    have him := X.2.1.2
    obtain ⟨fk1, fk2⟩ := pnT_ok (b := b) (w := w) hs
    have r1 := hF h i c (pnT b w ++ s) cs X hc (by rw [pnT_dc]; exact hd) (by rw [pnT_dc]; exact hNd) hb fk1
    rw [pnT_dc] at r1
    have eL : ∀ fuel x2 x3 x4 h, fX5_readTest_L7 rc0 (fgG2 N).2 (B + 5) (nI (dc s)) K (fuel + 1) x2 x3 x4 h = fX5_readTest_L7_b rc0 (fgG2 N).2 (B + 5) (nI (dc s)) K (fX5_readTest_L7 rc0 (fgG2 N).2 (B + 5) (nI (dc s)) K fuel) x2 x3 x4 h := fun _ _ _ _ _ => rfl
    rw [eL]
    unfold fX5_readTest_L7_b
    rw [if_neg (show ¬ (400 : Int32) < nI u from nI_nlt (a := 400) (by omega) (by omega)), q_ck (sk5 S)]
    rcases r1 with ⟨g1, i1, c1, new1, k1, r1, r2, X1, r4, r4', r5, r6, r7, s1, cs1, r8, r9⟩ | ⟨g1, k1, r, r1, r2, r3, r4, r5, r6⟩
    · rw [r1, p_cl, if_pos (show ¬ (1 : Int32) = 0 by decide)]
      rw [notS_t fk2] at r9
      have him1 := X1.2.1.2
      obtain ⟨pl2, pl3⟩ := pnT_len (s := s) (cs := new1 ++ cs) (b := b) (w := w)
      rw [pl2] at r6
      have hV1 : vlT b w ≤ 2 ∧ (b = true → 1 ≤ vlT b w) ∧ (w = true → 1 ≤ vlT b w) ∧ (b = true → w = true → 2 ≤ vlT b w) := by
        unfold vlT
        cases w <;> cases b <;> simp
      -- and that waits
      obtain ⟨g2, j1, x2, X2⟩ : ∃ g2, (∀ (q8 : mm_H → Option (Int32 × mm_H)), (if (if b = true then (1 : Int32) else 0) = 0 then (q8 g1) else (mm_ck (mm_kd g1 (B + 5) = 6) <| mm_cl (fX5_emit (B + 5) (-20 : Int32) g1) fun _ g34 => q8 g34)) = q8 g2) ∧ mX B (wPx B) g1 g2 ∧ xS B g2 t n m i1 c1 (if b = true then (12, 0) :: (new1 ++ cs) else new1 ++ cs) := by
        cases b with
        | false => exact ⟨g1, fun q => by rw [if_neg (show ¬ false = true by decide), if_pos rfl], mX.rf X1.1.1.1, X1⟩
        | true =>
          obtain ⟨g2, q1, q2, q3⟩ := x_emit X1 (by have := hV1.2.1 rfl; omega) (o := 12) (w := 0) (v := -20) (by decide +kernel)
          exact ⟨g2, fun q => by rw [if_pos rfl, if_neg (show ¬ (1 : Int32) = 0 by decide), q_ck (sk5 X1.1.1), q1, p_cl], q2, q3⟩
      have S2 := X2.1.1
      have hk := tk_b (t := t) (n := n) (p := plF t n i1)
      have hq := fun (β : Type) (z : Option β) => q_ckx (show i1 < 401 by omega) (by decide) z
      have htok := (X2.1.2.1 i1 (by omega)).1
      -- or that waits
      have later : ∃ g3, (∀ (q25 : mm_H → Option (Int32 × mm_H)), (if (if w = true then (1 : Int32) else 0) = 0 then (q25 g2) else (mm_cl (fX5_emit (B + 5) (-19 : Int32) g2) fun _ g29 => q25 g29)) = q25 g3) ∧ mX B (wPx B) g2 g3 ∧ xS B g3 t n m i1 c1 (emT b w (new1 ++ cs)) := by
        have hv := hV1.2.2.2
        have hv2 := hV1.2.2.1
        cases w with
        | false => exact ⟨g2, fun q => by rw [if_neg (show ¬ false = true by decide), if_pos rfl], mX.rf S2.1, X2⟩
        | true =>
          obtain ⟨g3, q1, q2, q3⟩ := x_emit X2 (by cases b <;> simp at * <;> omega) (o := 13) (w := 0) (v := -19) (by decide +kernel)
          exact ⟨g3, fun q => by rw [if_pos rfl, if_neg (show ¬ (1 : Int32) = 0 by decide), q1, p_cl], q2, q3⟩
      obtain ⟨g3, j3, x3, X3⟩ := later
      have S3 := X3.1.1
      have htok3 := (X3.1.2.1 i1 (by omega)).1
      have x13 := (r2.tr x2).tr x3
      have tyA : ∀ seg τ, tyL seg = some (rpF true (vlT b w) τ) → vlT b w + τ.length ≤ c → tyL (new1 ++ seg) = some (true :: rpF true (vlT b w) τ) := fun seg τ h1 h2 => r5.1 seg _ h1 (by rw [rpF_len]; exact h2)
      have cc1 := r5.2.2
      obtain ⟨E, hE⟩ : ∃ E : List (Nat × Nat), E = (if b = true then (12, 0) :: new1 else new1) := ⟨_, rfl⟩
      have hE2 : (if b = true then (12, 0) :: (new1 ++ cs) else new1 ++ cs) = E ++ cs := by rw [hE]; cases b <;> rfl
      rw [hE2] at X2
      rw [emT_app] at X3
      have okE := emT_ok (b := b) (w := w) (X := new1) r5.2.1
      have lE : (E ++ cs).length + (if w = true then 1 else 0) = vlT b w + (new1 ++ cs).length := by
        rw [hE]; unfold vlT
        cases b <;> simp <;> omega
      have lM : (emT b w new1 ++ cs).length = vlT b w + (new1 ++ cs).length := by
        rw [← emT_app]; exact pl3
      rw [jn_eq g2 j1, q_ck (sk5 S2), sr5_2 S2, p_rf, q_ck (sk7 S2), X2.2.1.1, sn7 S2, hq]
      have hci := nI_clamp (n := i1) (by omega)
      simp only [hci]
      rw [htok]
      have stepH : ∀ f r', rF0 t n i1 c1 (pnT b w ++ s) (new1 ++ cs) = r' → rRun t n (f + (k1 + 1)) (0, i, c, pnT b w ++ s, cs, 0) = rRun t n f r' := fun f r' hr => by
        rw [show f + (k1 + 1) = (f + 1) + k1 by omega, r8, rRun_s _ (by show (3 : Nat) ≠ 4; omega) rfl, ← hr]
        show rRun t n f (rF t n i1 c1 s1 cs1) = _
        unfold rF
        rw [r9]
      obtain ⟨sf1, sf2⟩ := andS_f (cs := new1 ++ cs) (b := b) (w := w) hs
      have go : ∀ (b' w' : Bool) (E' : List (Nat × Nat)) (g4 : mm_H), xS B g4 t n m i1 c1 (E' ++ cs) → mX B (wPx B) h g4 → i1 < m → rF0 t n i1 c1 (pnT b w ++ s) (new1 ++ cs) = (0, i1 + 1, c1, pnT b' w' ++ s, E' ++ cs, 0) → vlT b' w' + s.length + (E' ++ cs).length ≤ i1 + 1 → vlT b' w' ≤ vlT b w + 1 → (∀ x, x ∈ E' → okC x) → (∀ seg τ, tyL seg = some (rpF true (vlT b w) τ) → vlT b w + τ.length ≤ c → tyL (E' ++ seg) = some (rpF true (vlT b' w') τ)) → ∀ res, res = (mm_ck (mm_kd g4 (B + 5) = 6) <| mm_cl (fX5_goOn (B + 5) g4) fun _ g20 => mm_lt (nI u + (1 : Int32)) fun v22 => fX5_readTest_L7 rc0 (fgG2 N).2 (B + 5) (nI (dc s)) K g (if w' = true then 1 else 0) (if b' = true then 1 else 0) v22 g20) → (∃ h' i' c' new k, res = some (1, h') ∧ mX B (wPx B) h h' ∧ xS B h' t n m i' c' (new ++ cs) ∧ i < i' ∧ c' ≤ 80 ∧ tyV true (vlT b w) new c c' ∧ s.length + (new ++ cs).length ≤ i' ∧ k ≤ 3 * (i' - i) ∧ ∃ s1 cs1, (∀ f, rRun t n (f + k) (0, i, c, pnT b w ++ s, cs, 0) = rRun t n f (3, i', c', s1, cs1, 0)) ∧ andS true (notS s1 cs1).1 (notS s1 cs1).2 = (s, new ++ cs) ∧ (tkF t n (plF t n i') ≠ 18 ∧ tkF t n (plF t n i') ≠ 19)) ∨ flT B t n m res h i c (pnT b w ++ s) cs 0 := by
        intro b' w' E' g4 X4 x4 hlt hH hl1 hl2 hok hty res hres
        obtain ⟨g5, q1, q2, X5⟩ := x_goOn X4 hlt
        obtain ⟨ql, -⟩ := pnT_len (s := s) (cs := cs) (b := b') (w := w')
        have rr := ih g5 (i1 + 1) c1 (E' ++ cs) b' w' (u + 1) g (by omega) (by omega) X5 r4' (by omega) (by rw [ql]; omega)
        have eres : res = fX5_readTest_L7 rc0 (fgG2 N).2 (B + 5) (nI (dc s)) K g (if w' = true then 1 else 0) (if b' = true then 1 else 0) (nI (u + 1)) g5 := by
          rw [hres, q_ck (sk5 X4.1.1), q1, p_cl, nI_1, p_lt]
        rw [eres]
        rcases rr with ⟨g6, i2, c2, new2, k2, p1, p2, p3, p4, p5, p6, p7, p8, s3, cs3, p9, p10, p11⟩ | ⟨g6, k2, r, p1, p2, p3, p4, p5, p6⟩
        · have ea : new2 ++ (E' ++ cs) = (new2 ++ E') ++ cs := (List.append_assoc _ _ _).symm
          rw [ea] at p3 p7 p10
          refine Or.inl ⟨g6, i2, c2, new2 ++ E', k2 + (k1 + 1), p1, (x4.tr q2).tr p2, p3, by omega, p5, ⟨fun seg τ h1 h2 => ?_, fun x hx => ?_, by have := p6.2.2; omega⟩, p7, by omega, s3, cs3, fun f => ?_, p10, p11⟩
          · rw [List.append_assoc]
            exact p6.1 _ τ (hty seg τ h1 h2) (by omega)
          · rcases List.mem_append.mp hx with z | z
            · exact p6.2.1 x z
            · exact hok x z
          · rw [show f + (k2 + (k1 + 1)) = (f + k2) + (k1 + 1) by omega, stepH _ _ hH]; exact p9 f
        · refine Or.inr ⟨g6, k2 + (k1 + 1), r, p1, (x4.tr q2).tr p2, p3, p4, by omega, fun f => ?_⟩
          rw [show f + (k2 + (k1 + 1)) + 1 = (f + k2 + 1) + (k1 + 1) by omega, stepH _ _ hH]; exact p6 f
      by_cases c19 : tkF t n (plF t n i1) = 19
      · have hlt := X2.lt (by omega)
        rw [p_jn, if_neg (not_not_intro (show nI (tkF t n (plF t n i1)) = (19 : Int32) by rw [c19]; rfl))]
        dsimp only
        rw [p_jn, if_pos (show ¬ (1 : Int32) = 0 by decide)]
        dsimp only
        refine go true w E g2 X2 (r2.tr x2) hlt ?_ ?_ ?_ ?_ ?_ _ rfl
        · unfold rF0
          rw [if_pos c19, sf2]
          show (0, i1 + 1, c1, 12 :: (pnT false w ++ s), (if b = true then (12, 0) :: (new1 ++ cs) else new1 ++ cs), 0) = _
          rw [hE2]
          cases w <;> rfl
        · have : vlT true w = (if w = true then 1 else 0) + 1 := rfl
          omega
        · unfold vlT; cases b <;> simp
        · intro x hx; rw [hE] at hx; exact okE.2 x hx
        · intro seg τ h1 h2
          have h3 := (emT_ty (b := b) (w := w) (tyA seg τ h1 h2)).2
          have h4 : E ++ seg = (if b = true then (12, 0) :: (new1 ++ seg) else new1 ++ seg) := by rw [hE]; cases b <;> rfl
          rw [h4, h3]
          show some (true :: rpF true (if w = true then 1 else 0) τ) = some (rpF true ((if w = true then 1 else 0) + 1) τ)
          rfl
      · have n19 : ¬ nI (tkF t n (plF t n i1)) = (19 : Int32) := fun z => c19 ((nI_eq (b := 19) (by omega) (by omega)).mp z)
        rw [p_jn, if_pos n19]
        dsimp only
        rw [p_jn, if_neg (not_not_intro rfl), jn_eq g3 j3]
        have tyM : ∀ seg τ, tyL seg = some (rpF true (vlT b w) τ) → vlT b w + τ.length ≤ c → tyL (emT b w new1 ++ seg) = some (true :: τ) := fun seg τ h1 h2 => by
          rw [← emT_app]
          exact (emT_ty (b := b) (w := w) (tyA seg τ h1 h2)).1
        rw [q_ck (sk5 S3), sr5_2 S3, p_rf, q_ck (sk7 S3), X3.2.1.1, sn7 S3, hq, hci, htok3]
        by_cases c18 : tkF t n (plF t n i1) = 18
        · have hlt := X2.lt (by omega)
          rw [if_pos (show nI (tkF t n (plF t n i1)) = (18 : Int32) by rw [c18]; rfl)]
          dsimp only
          refine go false true (emT b w new1) g3 X3 x13 hlt ?_ (by show 1 + s.length + _ ≤ _; omega) (by show 1 ≤ _; omega) okE.1 (fun seg τ h1 h2 => tyM seg τ h1 h2) _ rfl
          unfold rF0
          rw [if_neg c19, if_pos c18, sf1]
          show (0, i1 + 1, c1, 13 :: s, emT b w (new1 ++ cs), 0) = _
          rw [emT_app]; rfl
        · rw [if_neg (show ¬ nI (tkF t n (plF t n i1)) = (18 : Int32) from fun z => c18 ((nI_eq (b := 18) (by omega) (by omega)).mp z))]
          refine Or.inl ⟨g3, i1, c1, emT b w new1, k1, rfl, x13, X3, r4, r4', ⟨tyM, okE.1, cc1⟩, by omega, r7, s1, cs1, r8, ?_, c18, c19⟩
          rw [r9, sf1, emT_app]
    · rw [r1, p_cl, if_neg (not_not_intro rfl)]
      exact Or.inr ⟨g1, k1, r, rfl, r2, r3, r4, r5, r6⟩
theorem J_test (hF : PF B t n m N) : PT B t n m (N + 1) := by
  intro h i c s cs X hc hd hN hb hs
  have hm9 := X.1.2.2.2.1
  have rr := J_test_L (rc0 := (fgG2 N).1) hF (fun g => some ((0 : Int32), g)) hs hd (by omega) (m - i + 1) h i c cs false false 0 mm_F (by omega) (by unfold mm_F; omega) X hc (Nat.zero_le _) hb
  have eS : (fgG2 (N + 1)).1 (B + 5) (nI (dc s)) h = fX5_readTest_L7 (fgG2 N).1 (fgG2 N).2 (B + 5) (nI (dc s)) (fun g => some ((0 : Int32), g)) mm_F (if false = true then 1 else 0) (if false = true then 1 else 0) (nI 0) h := by
    show fX5_readTest_g (fgG2 N).1 (fgG2 N).2 (B + 5) (nI (dc s)) h = _
    unfold fX5_readTest_g
    rw [nI_0]; rfl
  rw [eS]
  rcases rr with ⟨h', i', c', new, k, p1, p2, p3, p4, p5, p6, p7, p8, p9⟩ | p
  · exact Or.inl ⟨h', i', c', new, k, p1, p2, p3, p4, p5, ⟨fun seg τ e1 e2 => p6.1 seg τ e1 (by show 0 + τ.length ≤ c; omega), p6.2⟩, p7, p8, p9⟩
  · exact Or.inr p
theorem J_PF : ∀ N, PF B t n m N ∧ PT B t n m N := by
  intro N
  induction N with
  | zero => exact ⟨fun h i c s cs X hc hd hN => by omega, fun h i c s cs X hc hd hN => by omega⟩
  | succ N ih => exact ⟨J_fact (J_PS 40).2 ih.2 ih.1, J_test ih.1⟩
end KO
