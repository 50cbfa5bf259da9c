/-! the reference reads: has a fact; a step, a clause's run -/
def rStep (t : Nat → Int32) (n : Nat) (r : rA) : rA := if r.1 = 0 then rW t n r.2.1 r.2.2.1 r.2.2.2.1 r.2.2.2.2.1 else if r.1 = 1 then rV' t n r.2.1 r.2.2.1 r.2.2.2.1 r.2.2.2.2.1 else if r.1 = 2 then rH t n r.2.1 r.2.2.1 r.2.2.2.1 r.2.2.2.2.1 else rF t n r.2.1 r.2.2.1 r.2.2.2.1 r.2.2.2.2.1
def rRun (t : Nat → Int32) (n : Nat) : Nat → rA → Option rA
  | 0, _ => none
  | f + 1, r => if r.1 = 4 ∨ r.2.2.2.2.2 ≠ 0 then some r else rRun t n f (rStep t n r)
def rOk (t : Nat → Int32) (n : Nat) (r : rA) : Prop := r.2.2.2.1.length + r.2.2.2.2.1.length ≤ r.2.1 ∧ (∀ j, j < r.2.1 → plF t n j < n) ∧ (r.2.2.2.2.2 = 0 → r.2.2.1 ≤ 80) ∧ r.1 ≤ 4 ∧ r.2.2.2.2.2 ≤ 4000
section KI
variable {B : Nat} {h h' : mm_H} {t : Nat → Int32} {n L p d c f i q : Nat} {s : List Nat} {cs : List (Nat × Nat)}
theorem y_hasFact (Y : yI B h t n L i c s cs 0) (hb : tkF t n (plF t n i) ≠ 35 → s.length + cs.length < 400) : ∃ h', fX12_hasFact (B + 66) h = some (nI (rF t n i c s cs).1, h') ∧ mX B (wR B L) h h' ∧ yA B h' t n L (rF t n i c s cs) ∧ ((rF t n i c s cs).1 = 4 → mm_i h' (B + 66) 18 = nI (plF t n (rF t n i c s cs).2.1)) := by
  obtain ⟨⟨p0, Y0, e0⟩, hk0⟩ := Y
  have hlen0 := Y0.2.2.2.2.2.2.2.2.2
  obtain ⟨g0, k1, k2, Yn⟩ := y_nots_L0 (fun (g11 : mm_H) => mm_ck (mm_kd g11 (B + 66) = 13) <| mm_cl (fX12_blanks (B + 66) g11) fun _ g13 => mm_ck (mm_kd g13 (B + 66) = 13) <| mm_cl (fX12_wordEnd (B + 66) g13) fun v16 g17 => mm_ck (mm_kd g17 (B + 66) = 13) <| mm_cl (fX12_is (B + 66) (mm_c g17 30) v16 g17) fun v20 g21 => mm_jn (fun (g23 : mm_H) => mm_jn (fun (v25 : Int32) => mm_ck (mm_kd g23 (B + 66) = 13) <| mm_cl (fX12_ands (B + 66) v25 g23) fun _ g28 => mm_jn (fun (v30 : Int32) => mm_ck (mm_kd g28 (B + 66) = 13) <| mm_cl (fX12_opens (B + 66) v30 g28) fun _ g33 => mm_ck (mm_kd g33 (B + 66) = 13) <| mm_lt (mm_setI g33 (B + 66) 18 v16) fun g36 => some ((0 : Int32), g36)) (fun (q31 : Int32 → Option (Int32 × mm_H)) => if v20 = 0 then (q31 (13 : Int32)) else (q31 (12 : Int32)))) (fun (q26 : Int32 → Option (Int32 × mm_H)) => if ¬ v20 = 0 then (q26 (0 : Int32)) else (q26 (1 : Int32)))) (fun (q24 : mm_H → Option (Int32 × mm_H)) => if ¬ v20 = 0 then (q24 g21) else (mm_ck (mm_kd g21 (B + 66) = 13) <| mm_cl (fX12_is (B + 66) (mm_c g21 31) v16 g21) fun v41 g42 => if v41 = 0 then (mm_ck (mm_kd g42 (B + 66) = 13) <| mm_cl (fX12_ands (B + 66) (1 : Int32) g42) fun _ g46 => mm_ck (mm_kd g46 (B + 66) = 13) <| mm_cl (fX12_sign (B + 66) g46) fun v49 g50 => mm_jn (fun (g52 : mm_H) => mm_ck (mm_kd g52 (B + 66) = 13) <| mm_jn (fun (g55 : mm_H) => mm_ck (mm_kd g55 (B + 66) = 13) <| mm_cl (fX12_fails (B + 66) (0 : Int32) ((mm_i g55 (B + 66) 18)) g55) fun _ g58 => some ((4 : Int32), g58)) (fun (q56 : mm_H → Option (Int32 × mm_H)) => if 0 < (mm_i g52 (B + 66) 34) then (q56 g52) else (if (mm_i g52 (B + 66) 17) ≤ (mm_i g52 (B + 66) 18) then (some ((4 : Int32), g52)) else (mm_cl (fX12_sign (B + 66) g52) fun v62 g63 => if v62 = (59 : Int32) then (some ((4 : Int32), g63)) else (q56 g63))))) (fun (q53 : mm_H → Option (Int32 × mm_H)) => if ¬ v49 = (93 : Int32) then (q53 g50) else (mm_ck (mm_kd g50 (B + 66) = 13) <| mm_cl (fX12_top (B + 66) g50) fun v68 g69 => if ¬ v68 = (16 : Int32) then (q53 g69) else (mm_ck (mm_kd g69 (B + 66) = 13) <| mm_lt (mm_setI g69 (B + 66) 34 (((mm_i g69 (B + 66) 34) - (1 : Int32)))) fun g73 => mm_lt (mm_setI g73 (B + 66) 21 (((mm_i g73 (B + 66) 21) - (1 : Int32)))) fun g74 => mm_lt (mm_setI g74 (B + 66) 18 (((mm_i g74 (B + 66) 18) + (1 : Int32)))) fun g75 => some ((3 : Int32), g75))))) else (q24 g42)))) s cs mm_F h hk0 (by unfold mm_F; omega) Y0
  obtain ⟨nl1, nl2⟩ := notS_len (s := s) (cs := cs)
  obtain ⟨s0, hs0⟩ : ∃ s0, s0 = (notS s cs).1 := ⟨_, rfl⟩
  obtain ⟨cs0, hcs0⟩ : ∃ cs0, cs0 = (notS s cs).2 := ⟨_, rfl⟩
  rw [← hs0, ← hcs0] at Yn nl1
  rw [← hs0] at nl2
  have hk : ∀ k, k ∈ s0 → k ≤ 16 := fun k h => hk0 k (nl2 k h)
  have Y : yI B g0 t n L i c s0 cs0 0 := yI.up Yn e0 hk
  have hb' : tkF t n (plF t n i) ≠ 35 → s0.length + cs0.length < 400 := fun z => by have := hb z; omega
  have S := Yn.1.2.2.1
  obtain ⟨g1, a1, a2, Y1, -⟩ := Y.bl
  have S1 := Y1.1.2.2.1
  have hp := Y1.2.1.2
  have hwe := we_le (t := t) hp
  have hsg := sg_iff (t := t) hp
  have n9 := Y1.1.1.1
  have hIs1 : fX12_is (B + 66) (mm_c g1 30) (nI (weF t n (plF t n i))) g1 = some (if rIs t (plF t n i) (weF t n (plF t n i)) 20 = true then 1 else 0, g1) := y_is (k := 20) Y1 hwe.1 hwe.2 (by omega) (by decide)
  have hi1 : rIs t (plF t n i) (weF t n (plF t n i)) 20 = true ↔ tkF t n (plF t n i) = 19 := rw_iff (w := 19) hp (by omega)
  have hIs2 : fX12_is (B + 66) (mm_c g1 31) (nI (weF t n (plF t n i))) g1 = some (if rIs t (plF t n i) (weF t n (plF t n i)) 21 = true then 1 else 0, g1) := y_is (k := 21) Y1 hwe.1 hwe.2 (by omega) (by decide)
  have hi2 : rIs t (plF t n i) (weF t n (plF t n i)) 21 = true ↔ tkF t n (plF t n i) = 18 := rw_iff (w := 18) hp (by omega)
  have x1 := k2.tr a2
  -- and, or
  have ops : ∀ (b : Bool) (o : Nat) (v20 : Int32), o ≤ 13 → tkF t n (plF t n i) < 21 → (∀ q : Int32 → Option (Int32 × mm_H), (if ¬ v20 = 0 then (q (0 : Int32)) else (q (1 : Int32))) = q (if b = true then 1 else 0)) → (∀ q : Int32 → Option (Int32 × mm_H), (if v20 = 0 then (q (13 : Int32)) else (q (12 : Int32))) = q (nI o)) → ∃ h', (mm_jn (fun (v25 : Int32) => mm_ck (mm_kd g1 (B + 66) = 13) <| mm_cl (fX12_ands (B + 66) v25 g1) fun _ g28 => mm_jn (fun (v30 : Int32) => mm_ck (mm_kd g28 (B + 66) = 13) <| mm_cl (fX12_opens (B + 66) v30 g28) fun _ g33 => mm_ck (mm_kd g33 (B + 66) = 13) <| mm_lt (mm_setI g33 (B + 66) 18 (nI (weF t n (plF t n i)))) fun g36 => some ((0 : Int32), g36)) (fun (q31 : Int32 → Option (Int32 × mm_H)) => if v20 = 0 then (q31 (13 : Int32)) else (q31 (12 : Int32)))) (fun (q26 : Int32 → Option (Int32 × mm_H)) => if ¬ v20 = 0 then (q26 (0 : Int32)) else (q26 (1 : Int32)))) = some ((0 : Int32), h') ∧ mX B (wR B L) h h' ∧ yI B h' t n L (i + 1) c (o :: (andS b s0 cs0).1) (andS b s0 cs0).2 0 := fun b o v20 ho h21 hv1 hv2 => by
    obtain ⟨g2, b1, b2, Y2⟩ := y_ands (b := b) Y1 hk
    obtain ⟨l1, l2, l3⟩ := andS_len (b := b) (s := s0) (cs := cs0)
    have S2 := Y2.1.2.2.1
    obtain ⟨g3, c1, c2, Y3⟩ := y_opens Y2 (k := o) (by have := hb' (by omega); omega)
    have S3 := Y3.1.2.2.1
    obtain ⟨Y4, x4⟩ := Y3.setp (p' := weF t n (plF t n i)) hwe.2
    have hd : dc (o :: (andS b s0 cs0).1) = dc s0 := by
      rw [← l2]; simp only [dc]; rw [if_neg (by omega)]; rfl
    rw [← hd] at Y4
    refine ⟨_, ?_, ((x1.tr b2).tr c2).tr x4, yI.up (i := i + 1) Y4 (by rw [nx_word h21]; rfl) (mem16 (fun k h => hk k (l3 k h)) (by omega))⟩
    refine (jn_eq _ hv1).trans ?_
    rw [q_ck (sk66 S1), b1, p_cl]
    refine (jn_eq _ hv2).trans ?_
    rw [q_ck (sk66 S2), c1, p_cl, q_ck (sk66 S3), p_lt]
  unfold fX12_hasFact rF rF0
  rw [k1, q_ck (sk66 S), a1, p_cl, q_ck (sk66 S1), y_wordEnd Y1, p_cl, q_ck (sk66 S1), hIs1, p_cl, ← hs0, ← hcs0]
  by_cases c19 : tkF t n (plF t n i) = 19
  · rw [if_pos (hi1.mpr c19), if_pos c19]
    obtain ⟨h', q1, q2, q3⟩ := ops false 12 1 (by omega) (by omega) (fun q => by rw [if_pos (show ¬ (1 : Int32) = 0 by decide)]; rfl) (fun q => by rw [if_neg (show ¬ (1 : Int32) = 0 by decide)]; rfl)
    refine ⟨h', ?_, q2, q3, fun z => absurd z (show ¬ (0 : Nat) = 4 by decide)⟩
    refine (jn_eq g1 (fun q => by rw [if_pos (show ¬ (1 : Int32) = 0 by decide)])).trans q1
  rw [if_neg (fun z => c19 (hi1.mp z)), if_neg c19]
  by_cases c18 : tkF t n (plF t n i) = 18
  · rw [if_pos c18]
    obtain ⟨h', q1, q2, q3⟩ := ops true 13 0 (by omega) (by omega) (fun q => by rw [if_neg (not_not_intro rfl)]; rfl) (fun q => by rw [if_pos rfl]; rfl)
    refine ⟨h', ?_, q2, q3, fun z => absurd z (show ¬ (0 : Nat) = 4 by decide)⟩
    refine (jn_eq g1 (fun q => ?_)).trans q1
    rw [if_neg (not_not_intro rfl), q_ck (sk66 S1), hIs2, p_cl, if_pos (hi2.mpr c18), if_neg (show ¬ (1 : Int32) = 0 by decide)]
  rw [if_neg c18, p_jn, if_neg (not_not_intro rfl), q_ck (sk66 S1), hIs2, p_cl, if_neg (fun z => c18 (hi2.mp z)), if_pos rfl, q_ck (sk66 S1)]
  obtain ⟨g2, b1, b2, Y2⟩ := y_ands (b := true) Y1 hk
  obtain ⟨l1, l2, l3⟩ := andS_len (b := true) (s := s0) (cs := cs0)
  have S2 := Y2.1.2.2.1
  have ht := y_top Y2
  rw [← l2] at Y2
  have b1' : fX12_ands (B + 66) 1 g1 = some ((), g2) := b1
  rw [b1', p_cl, q_ck (sk66 S2), y_sgn Y2, p_cl]
  obtain ⟨s1, hs1⟩ : ∃ s1, s1 = (andS true s0 cs0).1 := ⟨_, rfl⟩
  obtain ⟨cs1, hcs1⟩ : ∃ cs1, cs1 = (andS true s0 cs0).2 := ⟨_, rfl⟩
  rw [← hs1, ← hcs1] at Y2 l1
  rw [← hs1] at l3 ht
  rw [← hs1, ← hcs1]
  have hk1 : ∀ k, k ∈ s1 → k ≤ 16 := fun k h => hk k (l3 k h)
  have i16 : topI s1 = (16 : Int32) ↔ tp s1 = 16 := topI_iff hk1 (v := 16) (by omega) (by omega)
  have x2 := x1.tr b2
  unfold rF1
  by_cases ca : tkF t n (plF t n i) = 23 ∧ tp s1 = 16
  · rw [if_pos ca, p_jn, if_neg (not_not_intro (hsg.1.2.2.2.2.2.2.2.1.mpr ca.1)), q_ck (sk66 S2), ht, p_cl, if_neg (not_not_intro (i16.mpr ca.2))]
    cases s1 with
    | nil => exact absurd ca.2 (by decide)
    | cons k r =>
      have hk16 : k = 16 := ca.2
      have hnx : nxF t n (plF t n i) = plF t n i + 1 := by rw [nx_sign (by omega) (by omega), if_neg (by omega)]
      obtain ⟨h', q1, q2, q3⟩ := y_pop3 Y2 (by omega) (by rw [← hnx]; exact (nx_le hp).2.1)
      rw [← hnx] at q3
      exact ⟨h', q1 _ _, x2.tr q2, yI.nx (s := r) q3 (tail_16 hk1), fun z => absurd z (show ¬ (3 : Nat) = 4 by decide)⟩
  · rw [if_neg ca]
    have o34 := Y2.2.2.2.2.2.2.1
    have hlen2 := Y2.2.2.2.2.2.2.2.2.2
    obtain ⟨g3, d1, d2, Y3, -⟩ := y_fails Y2 0 (plF t n i) (by omega)
    have fin : ∀ (cont : mm_H → Option (Int32 × mm_H)), mm_jn cont (fun (q53 : mm_H → Option (Int32 × mm_H)) => if ¬ sgn t n (plF t n i) = (93 : Int32) then (q53 g2) else (mm_ck (mm_kd g2 (B + 66) = 13) <| mm_cl (fX12_top (B + 66) g2) fun v68 g69 => if ¬ v68 = (16 : Int32) then (q53 g69) else (mm_ck (mm_kd g69 (B + 66) = 13) <| mm_lt (mm_setI g69 (B + 66) 34 (((mm_i g69 (B + 66) 34) - (1 : Int32)))) fun g73 => mm_lt (mm_setI g73 (B + 66) 21 (((mm_i g73 (B + 66) 21) - (1 : Int32)))) fun g74 => mm_lt (mm_setI g74 (B + 66) 18 (((mm_i g74 (B + 66) 18) + (1 : Int32)))) fun g75 => some ((3 : Int32), g75)))) = cont g2 := fun cont => by
      rw [p_jn]
      by_cases z : sgn t n (plF t n i) = 93
      · rw [if_neg (not_not_intro z), q_ck (sk66 S2), ht, p_cl, if_pos (show ¬ topI s1 = (16 : Int32) from fun y => ca ⟨hsg.1.2.2.2.2.2.2.2.1.mp z, i16.mp y⟩)]
      · rw [if_pos z]
    rw [fin, q_ck (sk66 S2), o34, Y2.1.1.2.1, Y2.2.1.1]
    have bad : (mm_ck (mm_kd g2 (B + 66) = 13) <| mm_cl (fX12_fails (B + 66) (0 : Int32) ((mm_i g2 (B + 66) 18)) g2) fun _ g58 => some ((4 : Int32), g58)) = some ((4 : Int32), g3) := by
      rw [q_ck (sk66 S2), Y2.2.1.1, ← nI_0, d1, p_cl]
    have h4 : ∀ f', ((4, i, c, s1, cs1, f') : rA).1 = 4 := fun _ => rfl
    by_cases cb : s1 ≠ []
    · rw [if_pos (Or.inl cb)]
      refine ⟨g3, ?_, x2.tr d2, yI.up (s := s1) Y3 (sk_id (ps_le i)) hk1, fun _ => Y3.2.1.1⟩
      refine (jn_eq g2 (fun q => ?_)).trans bad
      have : 0 < s1.length := by cases s1 with | nil => exact absurd rfl cb | cons a b => rw [List.length_cons]; omega
      rw [if_pos (show (0 : Int32) < nI s1.length from nI_lt (a := 0) this (by omega))]
    · have cb' : s1 = [] := by cases s1 with | nil => rfl | cons a b => exact absurd (fun z => by cases z) cb
      have e0' : ¬ (0 : Int32) < nI s1.length := by rw [cb']; decide +kernel
      by_cases cc : n ≤ plF t n i
      · have e35 := hsg.2.2.2.mp cc
        rw [if_neg (by rw [e35]; intro z; rcases z with z | z; exact cb z; exact z.1 rfl), p_jn, if_neg e0', if_pos (nI_le cc (by omega))]
        exact ⟨g2, rfl, x2, yI.up (s := s1) Y2 (sk_id (ps_le i)) hk1, fun _ => Y2.2.1.1⟩
      · have e35 : tkF t n (plF t n i) ≠ 35 := fun z => cc (hsg.2.2.2.mpr z)
        by_cases cd : tkF t n (plF t n i) = 26
        · rw [if_neg (by intro z; rcases z with z | z; exact cb z; exact z.2 cd), p_jn, if_neg e0', if_neg (nI_ge (by omega) (by omega)), y_sgn Y2, p_cl, if_pos (hsg.1.2.2.2.2.2.1.mpr cd)]
          exact ⟨g2, rfl, x2, yI.up (s := s1) Y2 (sk_id (ps_le i)) hk1, fun _ => Y2.2.1.1⟩
        · rw [if_pos (Or.inr ⟨e35, cd⟩)]
          refine ⟨g3, ?_, x2.tr d2, yI.up (s := s1) Y3 (sk_id (ps_le i)) hk1, fun _ => Y3.2.1.1⟩
          refine (jn_eq g2 (fun q => ?_)).trans bad
          rw [if_neg e0', if_neg (nI_ge (by omega) (by omega)), y_sgn Y2, p_cl, if_neg (fun z => cd (hsg.1.2.2.2.2.2.1.mp z))]
theorem y_rstep {b1 : Int32} {r : rA} (Y : yA B h t n L r) (hr : rOk t n r) (h0 : r.2.2.2.2.2 = 0) (h4 : r.1 < 4) : ∃ h', (∀ K self, fX12_clause_L96_b (B + 66) b1 K self (nI r.1) h = self (nI (rStep t n r).1) h') ∧ mX B (wR B L) h h' ∧ yA B h' t n L (rStep t n r) ∧ ((rStep t n r).1 = 4 → (rStep t n r).2.2.2.2.2 = 0 → mm_i h' (B + 66) 18 = nI (plF t n (rStep t n r).2.1)) := by
  obtain ⟨st, i, c, s, cs, f⟩ := r
  have h0' : f = 0 := h0
  subst h0'
  have Y' : yI B h t n L i c s cs 0 := Y
  obtain ⟨r1, r2, r3, r4, -⟩ := hr
  have h4' : st < 4 := h4
  have r1' : s.length + cs.length ≤ i := r1
  have r2' : ∀ j, j < i → plF t n j < n := r2
  have hc : c ≤ 80 := r3 rfl
  have S := Y'.1.elim fun p z => z.1.1.2.2.1
  have hf := Y'.1.elim fun p z => z.1.2.2.1
  have n9 := Y'.1.elim fun p z => z.1.1.1.1
  have hb : tkF t n (plF t n i) ≠ 35 → s.length + cs.length < 400 := fun z => by
    have h1 := ps_ge i r2'
    have h2 := pl_le (t := t) (n := n) i
    have h3 : ¬ n ≤ plF t n i := fun y => z ((sg_iff h2.2).2.2.2.mp y)
    omega
  have hn4 : ¬ nI st = (4 : Int32) := fun z => by have := (nI_eq (b := 4) (by omega) (by omega)).mp z; omega
  have head : ∀ (K : mm_H → Option (Unit × mm_H)) (X : Option (Unit × mm_H)), (if nI st = (4 : Int32) then (K h) else (mm_ck (mm_kd h (B + 66) = 13) <| if ¬ (mm_i h (B + 66) 20) = 0 then (K h) else X)) = X := fun K X => by
    rw [if_neg hn4, q_ck (sk66 S), hf, if_neg (not_not_intro nI_0)]
  have hcase : st = 0 ∨ st = 1 ∨ st = 2 ∨ st = 3 := by omega
  rcases hcase with rfl | rfl | rfl | rfl
  · obtain ⟨h', q1, q2, q3⟩ := y_wantsFact Y' hb
    refine ⟨h', fun K self => ?_, q2, q3, fun z => absurd z (by
      show ¬ (rW t n i c s cs).1 = 4
      unfold rW
      repeat' split
      all_goals simp)⟩
    unfold fX12_clause_L96_b
    refine (head _ _).trans ?_
    rw [if_pos nI_0, q1, p_cl]; rfl
  · obtain ⟨h', r, q1, q2, q3, q4, q5⟩ := y_value Y' hb hc
    refine ⟨h', fun K self => ?_, q4, q5, fun z => absurd z (by
      show ¬ (rV' t n i c s cs).1 = 4
      omega)⟩
    unfold fX12_clause_L96_b
    refine (head _ _).trans ?_
    rw [if_neg (show ¬ nI 1 = (0 : Int32) by decide +kernel), if_pos (show nI 1 = (1 : Int32) by decide +kernel), q1, p_cl]
    have e : rStep t n (1, i, c, s, cs, 0) = rV' t n i c s cs := rfl
    rw [e]
    refine (jn_eq (nI (rV' t n i c s cs).1) (fun q => ?_)).trans rfl
    by_cases z : r = 0
    · rw [if_pos z, q2.mp z]; rfl
    · rw [if_neg z]
      rcases q3 with q3 | q3
      · exact absurd (q2.mpr q3) z
      · rw [q3]; rfl
  · obtain ⟨h', q1, q2, q3⟩ := y_hasValue Y' hb hc
    refine ⟨h', fun K self => ?_, q2, q3, fun z z0 => absurd z0 (by
      have z' : (rH t n i c s cs).1 = 4 := z
      show ¬ (rH t n i c s cs).2.2.2.2.2 = 0
      revert z'
      unfold rH rH1 fl
      repeat' split
      all_goals simp)⟩
    unfold fX12_clause_L96_b
    refine (head _ _).trans ?_
    rw [if_neg (show ¬ nI 2 = (0 : Int32) by decide +kernel), if_neg (show ¬ nI 2 = (1 : Int32) by decide +kernel), if_pos (show nI 2 = (2 : Int32) by decide +kernel), q1, p_cl]; rfl
  · obtain ⟨h', q1, q2, q3, q4⟩ := y_hasFact Y' hb
    refine ⟨h', fun K self => ?_, q2, q3, fun z _ => q4 z⟩
    unfold fX12_clause_L96_b
    refine (head _ _).trans ?_
    rw [if_neg (show ¬ nI 3 = (0 : Int32) by decide +kernel), if_neg (show ¬ nI 3 = (1 : Int32) by decide +kernel), if_neg (show ¬ nI 3 = (2 : Int32) by decide +kernel), q1, p_cl]; rfl
end KI
