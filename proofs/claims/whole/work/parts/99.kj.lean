/-! values and sums alike -/
def PV (B : Nat) (t : Nat → Int32) (n m N : Nat) : Prop := ∀ (h : mm_H) (i c : Nat) (s : List Nat) (cs : List (Nat × Nat)), xS B h t n m i c cs → c ≤ 80 → dc s ≤ 10 → 2 * (11 - dc s) ≤ N → s.length + cs.length ≤ i → okR B t n m ((fgG1 N).1 (B + 5) (nI (dc s)) h) h i c s cs 1 (fun _ i' c' new k => ∀ f, rRun t n (f + k) (1, i, c, s, cs, 0) = rRun t n f (2, i', c', s, new ++ cs, 0)) false ∨ flR B t n m ((fgG1 N).1 (B + 5) (nI (dc s)) h) h i c s cs 1
def PS (B : Nat) (t : Nat → Int32) (n m N : Nat) : Prop := ∀ (h : mm_H) (i c : Nat) (s : List Nat) (cs : List (Nat × Nat)), xS B h t n m i c cs → c ≤ 80 → dc s ≤ 10 → 2 * (11 - dc s) + 1 ≤ N → s.length + cs.length ≤ i → (tp s ≠ 3 ∧ tp s ≠ 4 ∧ tp s ≠ 5) → okR B t n m ((fgG1 N).2 (B + 5) (nI (dc s)) h) h i c s cs 1 (fun _ i' c' new k => ∃ s1 cs1, (∀ f, rRun t n (f + k) (1, i, c, s, cs, 0) = rRun t n f (2, i', c', s1, cs1, 0)) ∧ sumS false s1 cs1 = (s, new ++ cs) ∧ (tkF t n (plF t n i') ≠ 27 ∧ tkF t n (plF t n i') ≠ 28 ∧ tkF t n (plF t n i') ≠ 29)) false ∨ flR B t n m ((fgG1 N).2 (B + 5) (nI (dc s)) h) h i c s cs 1
section KL
variable {B : Nat} {h h' : mm_H} {t : Nat → Int32} {n m i c N : Nat} {s : List Nat} {cs : List (Nat × Nat)}
theorem fl_ne {f k p : Nat} : fl f k p ≠ 0 := by unfold fl; split <;> omega
theorem fl_id {f k p : Nat} (h : f ≠ 0) : fl f k p = f := by unfold fl; rw [if_neg h]
theorem rCn_f {f : Nat} (h : f ≠ 0) : rCn t n i c f = f := by
  unfold rCn
  split
  · exact fl_id h
  · rfl
theorem tyN.one {o v c : Nat} (ho : o ≤ 1) (h0 : o = 0 → v ≤ 99999) (h1 : o = 1 → v < 14) (hc : c < 80) : tyN [(o, v)] c (c + 1) false := by
  refine ⟨fun seg s e hs => ?_, fun x hx => ?_, by omega⟩
  · show tyL ((o, v) :: seg) = _
    simp only [tyL]
    rw [e]
    show tyStep o s = _
    unfold tyStep
    rw [if_pos ho, if_pos (by omega)]
  · rcases List.mem_cons.mp hx with z | z
    · rw [z]; exact ⟨h0, h1, by show o ≤ 14; omega⟩
    · cases z
theorem stp_neg {o : Nat} (h : ¬ o ≤ 1) (v : Nat) : stp o v = -1 - nI (tokOf o) := by
  unfold stp
  rw [if_neg (by omega), if_neg (by omega)]
theorem J_value (hS : PS B t n m N) : PV B t n m (N + 1) := by
  intro h i c s cs X hc hd hN hb
  obtain ⟨⟨S, a2, a3, a4, a5, a6, a7⟩, ⟨b1, b2⟩, b3, b4, b5⟩ := id X
  have hk := tk_b (t := t) (n := n) (p := plF t n i)
  have hq := fun (β : Type) (z : Option β) => q_ckx (show i < 401 by omega) (by decide) z
  have hci := nI_clamp (n := i) (by omega)
  have htok := (a2 i (by omega)).1
  have hnum := (a2 i (by omega)).2.2
  have m1 : m - i + i = m := by omega
  have efl : (fgG1 (N + 1)).1 (B + 5) (nI (dc s)) h = fX5_readValue_g (fgG1 N).1 (fgG1 N).2 (B + 5) (nI (dc s)) h := rfl
  rw [efl]
  have one : ∀ f, rRun t n (f + 1 + 1) (1, i, c, s, cs, 0) = rRun t n (f + 1) (rV' t n i c s cs) := fun f => rRun_s _ (by show (1 : Nat) ≠ 4; omega) rfl
  -- a fault at once
  have bad : ∀ k, (rV' t n i c s cs).2.2.2.2.2 = fl 0 k (plF t n i) → ∀ res, (res = (mm_cl (fX5_fail (B + 5) (nI k) h) fun v g => mm_ck (v = 0 ∨ v = 1) <| some (v, g))) → flR B t n m res h i c s cs 1 := fun k hr res hres => by
    obtain ⟨h', q1, q2, q3, q4⟩ := x_fail X k
    refine ⟨h', 1, rV' t n i c s cs, ?_, q2, by rw [hr]; exact q4, by rw [hr]; exact q3, by omega, fun f => ?_⟩
    · rw [hres, q1, p_cl, q_ck (Or.inl rfl)]
    · rw [one f, rRun_f _ (by rw [hr]; exact q4)]
  unfold fX5_readValue_g
  rw [q_ck (sk5 S), sr5_2 S, p_rf, q_ck (sk7 S), b1, sn7 S, hq]
  simp only [hci]
  rw [htok, p_lt]
  by_cases c24 : tkF t n (plF t n i) = 24
  · have eV : rV' t n i c s cs = (1, i + 1, c + 1, 15 :: s, cs, rCn t n i c (rV1 t n i s)) := by unfold rV'; rw [if_pos c24]
    rw [p_jn, if_neg (not_not_intro (by rw [c24]; rfl))]
    dsimp only
    rw [p_jn, if_pos (show ¬ (1 : Int32) = 0 by decide)]
    dsimp only
    rw [p_jn, if_pos (show ¬ nI (tkF t n (plF t n i)) = (21 : Int32) from fun z => by have := (nI_eq (b := 21) (by omega) (by omega)).mp z; omega)]
    dsimp only
    rw [p_jn, if_neg (show ¬ (1 : Int32) = 0 by decide)]
    by_cases cd : dc s = 10
    · rw [if_neg (show ¬ nI (dc s) < (10 : Int32) from nI_nlt (b := 10) (by omega) (by omega))]
      have e1 : rV1 t n i s = fl 0 2 (plF t n i) := by unfold rV1; rw [if_pos cd]
      exact Or.inr (bad 2 (by rw [eV, e1]; exact rCn_f fl_ne) _ rfl)
    rw [if_pos (show nI (dc s) < (10 : Int32) from nI_lt (b := 10) (by omega) (by omega)), b3]
    have e1 : rV1 t n i s = 0 := by unfold rV1; rw [if_neg cd]
    by_cases cc : c = 80
    · rw [if_neg (show ¬ nI c < (80 : Int32) from nI_nlt (b := 80) (by omega) (by omega))]
      exact Or.inr (bad 3 (by rw [eV, e1]; show rCn t n i c 0 = _; unfold rCn; rw [if_pos cc]) _ rfl)
    rw [if_pos (show nI c < (80 : Int32) from nI_lt (b := 80) (by omega) (by omega)), nI_1]
    have e2 : rV' t n i c s cs = (1, i + 1, c + 1, 15 :: s, cs, 0) := by rw [eV, e1]; unfold rCn; rw [if_neg cc]
    obtain ⟨X1, x1⟩ := X.cnt
    obtain ⟨g1, eg1⟩ : ∃ g1, g1 = mm_setI h (B + 5) 7 (nI (c + 1)) := ⟨_, rfl⟩
    rw [← eg1] at X1 x1
    have hlt := X.lt (by omega)
    obtain ⟨g2, q1, q2, X2⟩ := x_goOn X1 hlt
    have S2 := X2.1.1
    have edc : dc (15 :: s) = dc s + 1 := rfl
    have r1 := hS g2 (i + 1) (c + 1) (15 :: s) cs X2 (by omega) (by rw [edc]; omega) (by rw [edc]; omega) (by rw [List.length_cons]; omega) (show (15 : Nat) ≠ 3 ∧ (15 : Nat) ≠ 4 ∧ (15 : Nat) ≠ 5 by decide)
    rw [edc] at r1
    rw [← eg1, p_lt, if_pos (show ¬ (1 : Int32) = 0 by decide), q1, p_cl, q_ck (sk5 S2), nI_1]
    rcases r1 with ⟨g3, i', c', new, k, r1, r2, X3, r4, r4', r5, r6, r7, s1, cs1, r8, r9, r10⟩ | ⟨g3, k, r, r1, r2, r3, r4, r5, r6⟩
    · have S3 := X3.1.1
      obtain ⟨⟨_, a2', _, _, _⟩, ⟨b1', b2'⟩, _⟩ := id X3
      have hq3 := fun (β : Type) (z : Option β) => q_ckx (show i' < 401 by omega) (by decide) z
      have hk3 := tk_b (t := t) (n := n) (p := plF t n i')
      rw [r1, p_cl, if_pos (show ¬ (1 : Int32) = 0 by decide), q_ck (sk5 S3), sr5_2 S3, p_rf, q_ck (sk7 S3), b1', sn7 S3, hq3, nI_clamp (by omega), (a2' i' (by omega)).1]
      have run1 : ∀ f, rRun t n (f + (k + 1)) (1, i, c, s, cs, 0) = rRun t n f (2, i', c', s1, cs1, 0) := fun f => by
        rw [show f + (k + 1) = (f + k) + 1 by omega, rRun_s _ (by show (1 : Nat) ≠ 4; omega) rfl]
        show rRun t n (f + k) (rV' t n i c s cs) = _
        rw [e2]; exact r8 f
      have eH : rStep t n (2, i', c', s1, cs1, 0) = rH1 t n i' c' (15 :: s) (new ++ cs) := by
        show rH t n i' c' s1 cs1 = _
        unfold rH
        rw [if_neg r10.2.2, if_neg r10.1, if_neg r10.2.1, r9]
      have run2 : ∀ f, rRun t n (f + 1) (2, i', c', s1, cs1, 0) = rRun t n f (rH1 t n i' c' (15 :: s) (new ++ cs)) := fun f => by
        rw [rRun_s _ (by show (2 : Nat) ≠ 4; omega) rfl, eH]
      by_cases c25 : tkF t n (plF t n i') = 25
      · obtain ⟨g4, q3, q4, X4⟩ := x_goOn X3 (X3.lt (by omega))
        rw [if_pos (show nI (tkF t n (plF t n i')) = (25 : Int32) by rw [c25]; rfl), q3, p_cl]
        have e3 : rH1 t n i' c' (15 :: s) (new ++ cs) = (2, i' + 1, c', s, new ++ cs, 0) := by
          unfold rH1
          rw [if_pos ⟨c25, rfl⟩]; rfl
        rw [List.length_cons] at r6
        refine Or.inl ⟨g4, i' + 1, c', new, k + 2, rfl, ((x1.tr q2).tr r2).tr q4, X4, by omega, r4', ⟨fun seg τ e1 e2 => r5.1 seg τ e1 (by omega), r5.2.1, by have := r5.2.2; omega⟩, by omega, by omega, fun f => ?_⟩
        rw [show f + (k + 2) = (f + 1) + (k + 1) by omega, run1, run2, e3]
      · obtain ⟨g4, q3, q4, q5, q6⟩ := x_fail X3 0
        rw [nI_0] at q3
        rw [if_neg (show ¬ nI (tkF t n (plF t n i')) = (25 : Int32) from fun z => c25 ((nI_eq (b := 25) (by omega) (by omega)).mp z)), q3, p_cl, q_ck (Or.inl rfl)]
        have e3 : rH1 t n i' c' (15 :: s) (new ++ cs) = (4, i', c', 15 :: s, new ++ cs, fl 0 0 (plF t n i')) := by
          unfold rH1
          rw [if_neg (fun z => c25 z.1), if_pos (show tp (15 :: s) = 15 from rfl)]
        refine Or.inr ⟨g4, k + 2, (4, i', c', 15 :: s, new ++ cs, fl 0 0 (plF t n i')), rfl, ((x1.tr q2).tr r2).tr q4, q6, q5, by omega, fun f => ?_⟩
        rw [show f + (k + 2) + 1 = (f + 2) + (k + 1) by omega, run1, show f + 2 = (f + 1) + 1 by omega, run2, e3, rRun_f _ q6]
    · rw [r1, p_cl, if_neg (not_not_intro rfl)]
      refine Or.inr ⟨g3, k + 1, r, rfl, (x1.tr q2).tr r2, r3, r4, by omega, fun f => ?_⟩
      rw [show f + (k + 1) + 1 = (f + k + 1) + 1 by omega, rRun_s _ (by show (1 : Nat) ≠ 4; omega) rfl]
      show rRun t n (f + k + 1) (rV' t n i c s cs) = _
      rw [e2]; exact r6 f
  · rw [p_jn, if_pos (show ¬ nI (tkF t n (plF t n i)) = (24 : Int32) from fun z => c24 ((nI_eq (b := 24) (by omega) (by omega)).mp z))]
    dsimp only
    rw [p_jn, if_neg (not_not_intro rfl)]
    -- a value is counted and told
    have leaf : ∀ (o v : Nat) (w : Int32), i < m → c ≠ 80 → o ≤ 1 → (o = 0 → v ≤ 99999) → (o = 1 → v < 14) → w = stp o v → rV' t n i c s cs = (2, i + 1, c + 1, s, (o, v) :: cs, 0) → ∀ res, res = (mm_cl (fX5_emit (B + 5) w (mm_setI h (B + 5) 7 (nI (c + 1)))) fun _ g34 => mm_ck (mm_kd g34 (B + 5) = 6) <| mm_cl (fX5_goOn (B + 5) g34) fun _ g37 => some ((1 : Int32), g37)) → okR B t n m res h i c s cs 1 (fun _ i' c' new k => ∀ f, rRun t n (f + k) (1, i, c, s, cs, 0) = rRun t n f (2, i', c', s, new ++ cs, 0)) false := fun o v w hlt hcc ho h0 h1 hw he res hres => by
      obtain ⟨X1, x1⟩ := X.cnt
      obtain ⟨g2, q1, q2, X2⟩ := x_emit X1 (by omega) hw
      obtain ⟨g3, q3, q4, X3⟩ := x_goOn X2 hlt
      refine ⟨g3, i + 1, c + 1, [(o, v)], 1, ?_, (x1.tr q2).tr q4, X3, by omega, by omega, tyN.one ho h0 h1 (by omega), by show s.length + ((o, v) :: cs).length ≤ _; rw [List.length_cons]; omega, by omega, fun f => ?_⟩
      · rw [hres, q1, p_cl, q_ck (sk5 X2.1.1), q3, p_cl]
      · rw [rRun_s _ (by show (1 : Nat) ≠ 4; omega) rfl]
        show rRun t n f (rV' t n i c s cs) = _
        rw [he]; rfl
    by_cases c21 : tkF t n (plF t n i) = 21
    · have eV : rV' t n i c s cs = (2, i + 1, c + 1, s, (0, nvA t (plF t n i) (deF t n (plF t n i))) :: cs, rCn t n i c (rV2 t n i)) := by unfold rV'; rw [if_neg c24, if_pos c21]
      have e21 : nI (tkF t n (plF t n i)) = (21 : Int32) := by rw [c21]; rfl
      have hnu : nuF t n (plF t n i) = if 5 < deF t n (plF t n i) - plF t n i then -1 else nI (nvA t (plF t n i) (deF t n (plF t n i))) := by unfold nuF; rw [if_pos c21]
      have hvb : nvA t (plF t n i) (deF t n (plF t n i)) ≤ 99999 := nvA_b fun q h1 h2 => runF_in h1 h2
      rw [if_pos e21]
      dsimp only
      rw [p_jn, if_neg (not_not_intro e21), sr5_4 S, p_rf, q_ck (sk9 S), sn9 S, hq, hnum, hnu]
      by_cases cl : 5 < deF t n (plF t n i) - plF t n i
      · rw [if_pos cl, if_neg (not_not_intro rfl)]
        have e1 : rV2 t n i = fl 0 1 (plF t n i) := by unfold rV2; rw [if_pos cl]
        exact Or.inr (bad 1 (by rw [eV, e1]; exact rCn_f fl_ne) _ rfl)
      rw [if_neg cl, if_pos (show ¬ nI (nvA t (plF t n i) (deF t n (plF t n i))) = -1 from nI_neg1 (by omega))]
      dsimp only
      rw [p_jn, if_pos rfl]
      dsimp only
      have e1 : rV2 t n i = 0 := by unfold rV2; rw [if_neg cl]
      rw [b3]
      by_cases cc : c = 80
      · rw [if_neg (show ¬ nI c < (80 : Int32) from nI_nlt (b := 80) (by omega) (by omega))]
        exact Or.inr (bad 3 (by rw [eV, e1]; show rCn t n i c 0 = _; unfold rCn; rw [if_pos cc]) _ rfl)
      rw [if_pos (show nI c < (80 : Int32) from nI_lt (b := 80) (by omega) (by omega)), nI_1, p_lt, if_neg (not_not_intro rfl)]
      refine Or.inl (leaf 0 (nvA t (plF t n i) (deF t n (plF t n i))) (nuF t n (plF t n i)) (X.lt (by omega)) cc (by omega) (fun _ => hvb) (fun z => by omega) (by rw [hnu, if_neg cl]; rfl) (by rw [eV, e1]; unfold rCn; rw [if_neg cc]) _ ?_)
      refine (jn_eq (nuF t n (plF t n i)) (fun q => ?_)).trans rfl
      have S1 : mS B (mm_setI h (B + 5) 7 (nI (c + 1))) := S
      have v6 : mm_i (mm_setI h (B + 5) 7 (nI (c + 1))) (B + 5) 6 = nI i := by rw [i_I, if_neg (fun z => by omega)]; exact b1
      rw [if_neg (not_not_intro e21), sr5_4 S1, p_rf, q_ck (sk9 S1), v6, sn9 S1, hq, hci, i_I_ne (by omega), hnum]
    · have n21 : ¬ nI (tkF t n (plF t n i)) = (21 : Int32) := fun z => c21 ((nI_eq (b := 21) (by omega) (by omega)).mp z)
      rw [if_neg n21]
      by_cases c14 : tkF t n (plF t n i) < 14
      · have eV : rV' t n i c s cs = (2, i + 1, c + 1, s, (1, tkF t n (plF t n i)) :: cs, rCn t n i c 0) := by unfold rV'; rw [if_neg c24, if_neg c21, if_pos c14]
        rw [if_pos (show nI (tkF t n (plF t n i)) < (14 : Int32) from nI_lt (b := 14) c14 (by omega))]
        dsimp only
        rw [p_jn, if_pos n21]
        dsimp only
        rw [p_jn, if_pos rfl]
        dsimp only
        rw [b3]
        by_cases cc : c = 80
        · rw [if_neg (show ¬ nI c < (80 : Int32) from nI_nlt (b := 80) (by omega) (by omega))]
          exact Or.inr (bad 3 (by rw [eV]; show rCn t n i c 0 = _; unfold rCn; rw [if_pos cc]) _ rfl)
        rw [if_pos (show nI c < (80 : Int32) from nI_lt (b := 80) (by omega) (by omega)), nI_1, p_lt, if_neg (not_not_intro rfl)]
        refine Or.inl (leaf 1 (tkF t n (plF t n i)) (-1 - nI (tkF t n (plF t n i))) (X.lt (by omega)) cc (by omega) (fun z => by omega) (fun _ => c14) rfl (by rw [eV]; unfold rCn; rw [if_neg cc]) _ ?_)
        refine (jn_eq (-1 - nI (tkF t n (plF t n i))) (fun q => ?_)).trans rfl
        rw [if_pos n21]
      · have eV : rV' t n i c s cs = (2, i, c, s, cs, fl 0 0 (plF t n i)) := by unfold rV'; rw [if_neg c24, if_neg c21, if_neg c14]
        rw [if_neg (show ¬ nI (tkF t n (plF t n i)) < (14 : Int32) from nI_nlt (b := 14) (by omega) (by omega))]
        exact Or.inr (bad 0 (by rw [eV]) _ rfl)
end KL
