/-! the reference reads: has a value, has a fact; its steps -/
section KH
variable {B : Nat} {h h' : mm_H} {t : Nat → Int32} {n L p d c f i q : Nat} {s : List Nat} {cs : List (Nat × Nat)}
theorem y_pop3 {k : Nat} (Y : yS B h t n L p (dc (k :: s)) c (k :: s) cs f) (hk : 14 ≤ k) (hp : p + 1 ≤ n) : ∃ h', (∀ (β : Type) (cont : mm_H → Option (β × mm_H)), (mm_ck (mm_kd h (B + 66) = 13) <| mm_lt (mm_setI h (B + 66) 34 (((mm_i h (B + 66) 34) - (1 : Int32)))) fun g77 => mm_lt (mm_setI g77 (B + 66) 21 (((mm_i g77 (B + 66) 21) - (1 : Int32)))) fun g78 => mm_lt (mm_setI g78 (B + 66) 18 (((mm_i g78 (B + 66) 18) + (1 : Int32)))) fun g79 => cont g79) = cont h') ∧ mX B (wR B L) h h' ∧ yS B h' t n L (p + 1) (dc s) c s cs f := by
  have S := Y.1.2.2.1
  obtain ⟨⟨Y2, x2⟩, e34, e89, h4⟩ := Y.pop
  obtain ⟨g1, e1⟩ : ∃ g1, g1 = mm_setI h (B + 66) 34 (mm_i h (B + 66) 34 - 1) := ⟨_, rfl⟩
  rw [← e1] at Y2 x2 e34 e89
  obtain ⟨Y3, x3⟩ := Y2.setd (d' := dc s)
  have e21 : mm_i g1 (B + 66) 21 - 1 = nI (dc s) := by
    rw [Y2.2.2.2.1, show dc (k :: s) = dc s + 1 by simp only [dc]; rw [if_pos hk], nI_pred]
  rw [← e21] at Y3 x3
  obtain ⟨g2, e2⟩ : ∃ g2, g2 = mm_setI g1 (B + 66) 21 (mm_i g1 (B + 66) 21 - 1) := ⟨_, rfl⟩
  rw [← e2] at Y3 x3
  obtain ⟨Y4, x4⟩ := Y3.setp (p' := p + 1) hp
  refine ⟨_, fun β cont => ?_, (x2.tr x3).tr x4, Y4⟩
  rw [q_ck (sk66 S), p_lt, ← e1, p_lt, ← e2, Y3.2.1.1, nI_1, p_lt]
theorem y_compares (Y : yS B h t n L p d c s cs f) : (30 ≤ tkF t n p ∧ tkF t n p ≤ 34 → ∃ h', fX12_compares (B + 66) h = some (nI (tkF t n p - 23), h') ∧ mX B (wR B L) h h' ∧ yS B h' t n L (nxF t n p) d c s cs f) ∧ (¬ (30 ≤ tkF t n p ∧ tkF t n p ≤ 34) → fX12_compares (B + 66) h = some (-1, h)) := by
  have S := Y.1.2.2.1
  obtain ⟨n9, t1, t2⟩ := Y.1.1
  have hp := Y.2.1.2
  have hsg := sg_iff (t := t) hp
  have hsm : fX12_compares (B + 66) h = (if ¬ sgn t n p = (61 : Int32) then (mm_jn (fun (_u : Unit) => mm_jn (fun (v10 : Int32) => mm_lt (mm_setI h (B + 66) 18 (((mm_i h (B + 66) 18) + v10))) fun g12 => if ¬ sgn t n p = (60 : Int32) then (if (if smF t n p = true then (1 : Int32) else 0) = 0 then (some ((11 : Int32), g12)) else (some ((10 : Int32), g12))) else (if (if smF t n p = true then (1 : Int32) else 0) = 0 then (some ((7 : Int32), g12)) else (some ((8 : Int32), g12)))) (fun (q11 : Int32 → Option (Int32 × mm_H)) => if (if smF t n p = true then (1 : Int32) else 0) = 0 then (q11 (1 : Int32)) else (q11 (2 : Int32)))) (fun (q9 : Unit → Option (Int32 × mm_H)) => if sgn t n p = (60 : Int32) then (q9 ()) else (if ¬ sgn t n p = (62 : Int32) then (some ((-1 : Int32), h)) else (q9 ())))) else (mm_lt (mm_setI h (B + 66) 18 (((mm_i h (B + 66) 18) + (1 : Int32)))) fun g19 => some ((9 : Int32), g19))) := by
    unfold fX12_compares
    rw [q_ck (sk66 S), y_sgn Y, p_cl, q_ck (sk66 S)]
    refine (jn_eq (if smF t n p = true then (1 : Int32) else 0) (fun q' => ?_)).trans rfl
    rw [p_jn, t1, Y.2.1.1, nI_1]
    unfold smF
    by_cases c : n ≤ p + 1
    · rw [if_pos (nI_le c (by omega)), decide_eq_false (show ¬ p + 1 < n by omega), Bool.false_and, if_neg (by decide)]
    · have hx1 := fun (β : Type) (z : Option β) => q_ckx (show p + 1 < 400 by omega) (by decide) z
      rw [if_neg (nI_ge (by omega) (by omega)), sr66_16 S, p_rf, q_ck (sk79 S), sn79 S, hx1, nI_clamp (by omega), t2 _ (by omega), decide_eq_true (show p + 1 < n by omega), Bool.true_and]
      by_cases c2 : t (p + 1) = 61
      · rw [if_neg (not_not_intro c2), decide_eq_true c2, if_pos rfl]
      · rw [if_pos c2, decide_eq_false c2, if_neg (by decide)]
  rw [hsm]
  have nx : 30 ≤ tkF t n p ∧ tkF t n p ≤ 34 → nxF t n p = if tkF t n p = 31 ∨ tkF t n p = 33 then p + 2 else p + 1 := fun z => nx_sign (by omega) (by omega)
  obtain ⟨Y4, x4⟩ := Y.setp (p' := nxF t n p) (nx_le hp).2.1
  refine ⟨fun hc => ⟨_, ?_, x4, Y4⟩, fun hc => ?_⟩
  · have h5 : tkF t n p = 30 ∨ tkF t n p = 31 ∨ tkF t n p = 32 ∨ tkF t n p = 33 ∨ tkF t n p = 34 := by omega
    rw [nx hc, Y.2.1.1]
    rcases h5 with e | e | e | e | e
    · obtain ⟨e1, e2⟩ := hsg.2.1.1.mpr e
      rw [e, e1, e2, if_pos (show ¬ (60 : Int32) = 61 by decide), p_jn, if_pos rfl, p_jn]
      simp only [Bool.false_eq_true, if_false, if_true]
      rw [nI_1, p_lt, if_neg (by decide), if_neg (by decide)]; rfl
    · obtain ⟨e1, e2⟩ := hsg.2.1.2.1.mpr e
      rw [e, e1, e2, if_pos (show ¬ (60 : Int32) = 61 by decide), p_jn, if_pos rfl, p_jn, if_pos rfl, if_neg (by decide)]
      dsimp only
      rw [show (2 : Int32) = nI 2 by decide +kernel, nI_add, p_lt, if_neg (by decide), if_neg (by decide), if_pos (by decide)]; rfl
    · have e1 := hsg.1.2.2.2.2.2.2.2.2.mpr e
      rw [e, e1, if_neg (not_not_intro rfl), nI_1, p_lt, if_neg (by decide)]; rfl
    · obtain ⟨e1, e2⟩ := hsg.2.1.2.2.1.mpr e
      rw [e, e1, e2, if_pos (show ¬ (62 : Int32) = 61 by decide), p_jn, if_neg (show ¬ (62 : Int32) = 60 by decide), if_neg (not_not_intro rfl), p_jn, if_pos rfl, if_neg (by decide)]
      dsimp only
      rw [show (2 : Int32) = nI 2 by decide +kernel, nI_add, p_lt, if_pos (by decide), if_neg (by decide), if_pos (by decide)]; rfl
    · obtain ⟨e1, e2⟩ := hsg.2.1.2.2.2.mpr e
      rw [e, e1, e2, if_pos (show ¬ (62 : Int32) = 61 by decide), p_jn, if_neg (show ¬ (62 : Int32) = 60 by decide), if_neg (not_not_intro rfl), p_jn]
      simp only [Bool.false_eq_true, if_false, if_true]
      rw [nI_1, p_lt, if_pos (by decide), if_neg (by decide)]; rfl
  · have n61 : ¬ sgn t n p = 61 := fun z => hc (by rw [hsg.1.2.2.2.2.2.2.2.2.mp z]; omega)
    have n60 : ¬ sgn t n p = 60 := fun z => hc (by
      cases e : smF t n p with
      | true => rw [hsg.2.1.2.1.mp ⟨z, e⟩]; omega
      | false => rw [hsg.2.1.1.mp ⟨z, e⟩]; omega)
    have n62 : ¬ sgn t n p = 62 := fun z => hc (by
      cases e : smF t n p with
      | true => rw [hsg.2.1.2.2.1.mp ⟨z, e⟩]; omega
      | false => rw [hsg.2.1.2.2.2.mp ⟨z, e⟩]; omega)
    rw [if_pos n61, p_jn, if_neg n60, if_pos n62]
theorem y_isSign (hk : ∀ k, k ∈ s → k ≤ 16) : fX12_isSign (topI s) h = some (if 7 ≤ tp s ∧ tp s ≤ 11 then 1 else 0, h) := by
  unfold fX12_isSign
  cases s with
  | nil => rfl
  | cons k r =>
    have hk9 := hk k (List.mem_cons.mpr (Or.inl rfl))
    show (if nI k < (7 : Int32) then some ((0 : Int32), h) else (if (11 : Int32) < nI k then some ((0 : Int32), h) else some ((1 : Int32), h))) = some (if 7 ≤ k ∧ k ≤ 11 then 1 else 0, h)
    by_cases c1 : k < 7
    · rw [if_pos (show nI k < (7 : Int32) from nI_lt (b := 7) c1 (by omega)), if_neg (by omega)]
    · rw [if_neg (show ¬ nI k < (7 : Int32) from nI_nlt (b := 7) (by omega) (by omega))]
      by_cases c2 : 11 < k
      · rw [if_pos (show (11 : Int32) < nI k from nI_lt (a := 11) c2 (by omega)), if_neg (by omega)]
      · rw [if_neg (show ¬ (11 : Int32) < nI k from nI_nlt (a := 11) (by omega) (by omega)), if_pos (by omega)]
theorem y_sums {b : Bool} (Y : yS B h t n L p d c s cs f) (hk : ∀ k, k ∈ s → k ≤ 16) : ∃ h', fX12_sums (B + 66) (if b = true then 1 else 0) h = some ((), h') ∧ mX B (wR B L) h h' ∧ yS B h' t n L p d c (sumS b s cs).1 (sumS b s cs).2 f := by
  have hb := Y.2.2.2.2.2.2.2.2.2
  obtain ⟨h', q1, q2, q3⟩ := y_sums_L0 (b := b) (fun g => some ((), g)) s cs mm_F h hk (by unfold mm_F; omega) Y
  exact ⟨h', q1, q2, q3⟩
theorem y_ands {b : Bool} (Y : yS B h t n L p d c s cs f) (hk : ∀ k, k ∈ s → k ≤ 16) : ∃ h', fX12_ands (B + 66) (if b = true then 1 else 0) h = some ((), h') ∧ mX B (wR B L) h h' ∧ yS B h' t n L p d c (andS b s cs).1 (andS b s cs).2 f := by
  have hb := Y.2.2.2.2.2.2.2.2.2
  obtain ⟨h', q1, q2, q3⟩ := y_ands_L0 (b := b) (fun g => some ((), g)) s cs mm_F h hk (by unfold mm_F; omega) Y
  exact ⟨h', q1, q2, q3⟩
theorem tail_16 (hk : ∀ k, k ∈ s → k ≤ 16) : ∀ k, k ∈ s.tail → k ≤ 16 := fun k h => hk k (List.mem_of_mem_tail h)
theorem y_hasValue (Y : yI B h t n L i c s cs 0) (hb : tkF t n (plF t n i) ≠ 35 → s.length + cs.length < 400) (hc : c ≤ 80) : ∃ h', fX12_hasValue (B + 66) h = some (nI (rH t n i c s cs).1, h') ∧ mX B (wR B L) h h' ∧ yA B h' t n L (rH t n i c s cs) := by
  have hk := Y.2
  have S := Y.1.elim fun p z => z.1.1.2.2.1
  obtain ⟨g1, a1, a2, Y1, -⟩ := Y.bl
  have S1 := Y1.1.2.2.1
  have hp := Y1.2.1.2
  have hsg := sg_iff (t := t) hp
  have hlen := Y1.2.2.2.2.2.2.2.2.2
  have n9 := Y1.1.1.1
  have t0 : (1 : Int32) = if true = true then 1 else 0 := rfl
  have f0 : (0 : Int32) = if false = true then 1 else 0 := rfl
  have ops : ∀ (b : Bool) (o : Nat), o ≤ 16 → tkF t n (plF t n i) ≠ 35 → dc (o :: (sumS b s cs).1) = dc s → nxF t n (plF t n i) = plF t n i + 1 → (∀ q : Int32 → Option (Int32 × mm_H), (if ¬ sgn t n (plF t n i) = (42 : Int32) then (if ¬ sgn t n (plF t n i) = (43 : Int32) then q 4 else q 3) else q 5) = q (nI o)) → ∃ h', (mm_ck (mm_kd g1 (B + 66) = 13) <| mm_cl (fX12_sums (B + 66) (if b = true then 1 else 0) g1) fun _ g12 => mm_jn (fun (v14 : Int32) => mm_ck (mm_kd g12 (B + 66) = 13) <| mm_cl (fX12_opens (B + 66) v14 g12) fun _ g17 => mm_ck (mm_kd g17 (B + 66) = 13) <| mm_lt (mm_setI g17 (B + 66) 18 (((mm_i g17 (B + 66) 18) + (1 : Int32)))) fun g20 => some ((1 : Int32), g20)) (fun (q15 : Int32 → Option (Int32 × mm_H)) => if ¬ sgn t n (plF t n i) = (42 : Int32) then (if ¬ sgn t n (plF t n i) = (43 : Int32) then (q15 (4 : Int32)) else (q15 (3 : Int32))) else (q15 (5 : Int32)))) = some ((1 : Int32), h') ∧ mX B (wR B L) h h' ∧ yI B h' t n L (i + 1) c (o :: (sumS b s cs).1) (sumS b s cs).2 0 := fun b o ho h35 hd hnx hv => by
    obtain ⟨g2, b1, b2, Y2⟩ := y_sums (b := b) Y1 hk
    obtain ⟨l1, l2, l3⟩ := sumS_len (b := b) (s := s) (cs := cs)
    have S2 := Y2.1.2.2.1
    obtain ⟨g3, c1, c2, Y3⟩ := y_opens Y2 (k := o) (by have := hb h35; omega)
    have S3 := Y3.1.2.2.1
    obtain ⟨Y4, x4⟩ := Y3.setp (p' := nxF t n (plF t n i)) (nx_le hp).2.1
    rw [← hd] at Y4
    refine ⟨_, ?_, ((a2.tr b2).tr c2).tr x4, yI.nx Y4 (mem16 (fun k h => hk k (l3 k h)) ho)⟩
    rw [q_ck (sk66 S1), b1, p_cl]
    refine (jn_eq (nI o) hv).trans ?_
    rw [q_ck (sk66 S2), c1, p_cl, q_ck (sk66 S3), Y3.2.1.1, nI_1, p_lt, hnx]
  have hdo : ∀ b o, o < 14 → dc (o :: (sumS b s cs).1) = dc s := fun b o ho => by
    rw [← (sumS_len (b := b) (s := s) (cs := cs)).2.1]
    simp only [dc]; rw [if_neg (by omega)]; rfl
  unfold fX12_hasValue rH
  rw [q_ck (sk66 S), a1, p_cl, q_ck (sk66 S1), y_sgn Y1, p_cl, p_jn]
  by_cases c29 : tkF t n (plF t n i) = 29
  · rw [if_pos (hsg.1.2.2.1.mpr c29), if_pos c29]
    obtain ⟨h', q1, q2, q3⟩ := ops true 5 (by omega) (by omega) (hdo _ _ (by omega)) (by rw [nx_sign (by omega) (by omega), if_neg (by omega)]) (fun q => by rw [if_neg (not_not_intro (hsg.1.2.2.1.mpr c29))]; rfl)
    refine ⟨h', ?_, q2, q3⟩
    rw [p_jn, if_neg (not_not_intro (hsg.1.2.2.1.mpr c29))]
    exact q1
  rw [if_neg (fun z => c29 (hsg.1.2.2.1.mp z)), if_neg c29]
  by_cases c27 : tkF t n (plF t n i) = 27
  · rw [if_pos (hsg.1.2.2.2.1.mpr c27), if_pos c27]
    obtain ⟨h', q1, q2, q3⟩ := ops false 3 (by omega) (by omega) (hdo _ _ (by omega)) (by rw [nx_sign (by omega) (by omega), if_neg (by omega)]) (fun q => by rw [if_pos (fun z => c29 (hsg.1.2.2.1.mp z)), if_neg (not_not_intro (hsg.1.2.2.2.1.mpr c27))]; rfl)
    refine ⟨h', ?_, q2, q3⟩
    rw [p_jn, if_pos (fun z => c29 (hsg.1.2.2.1.mp z))]
    exact q1
  rw [if_neg (fun z => c27 (hsg.1.2.2.2.1.mp z)), if_neg c27]
  by_cases c28 : tkF t n (plF t n i) = 28
  · rw [if_neg (not_not_intro (hsg.1.2.2.2.2.1.mpr c28)), if_pos c28]
    obtain ⟨h', q1, q2, q3⟩ := ops false 4 (by omega) (by omega) (hdo _ _ (by omega)) (by rw [nx_sign (by omega) (by omega), if_neg (by omega)]) (fun q => by rw [if_pos (fun z => c29 (hsg.1.2.2.1.mp z)), if_pos (fun z => c27 (hsg.1.2.2.2.1.mp z))]; rfl)
    refine ⟨h', ?_, q2, q3⟩
    rw [p_jn, if_pos (fun z => c29 (hsg.1.2.2.1.mp z))]
    exact q1
  rw [if_pos (fun z => c28 (hsg.1.2.2.2.2.1.mp z)), if_neg c28, q_ck (sk66 S1)]
  obtain ⟨g2, b1, b2, Y2⟩ := y_sums (b := false) Y1 hk
  obtain ⟨l1, l2, l3⟩ := sumS_len (b := false) (s := s) (cs := cs)
  have S2 := Y2.1.2.2.1
  have ht := y_top Y2
  rw [← l2] at Y2
  have b1' : fX12_sums (B + 66) 0 g1 = some ((), g2) := b1
  rw [b1', p_cl]
  obtain ⟨s1, hs1⟩ : ∃ s1, s1 = (sumS false s cs).1 := ⟨_, rfl⟩
  obtain ⟨cs1, hcs1⟩ : ∃ cs1, cs1 = (sumS false s cs).2 := ⟨_, rfl⟩
  rw [← hs1, ← hcs1] at Y2 l1
  rw [← hs1] at l3 ht
  rw [← hs1, ← hcs1]
  have hk1 : ∀ k, k ∈ s1 → k ≤ 16 := fun k h => hk k (l3 k h)
  have i15 : topI s1 = (15 : Int32) ↔ tp s1 = 15 := topI_iff hk1 (v := 15) (by omega) (by omega)
  unfold rH1
  have x2 := a2.tr b2
  by_cases ca : tkF t n (plF t n i) = 25 ∧ tp s1 = 15
  · rw [if_pos ca, p_jn, if_neg (not_not_intro (hsg.1.2.1.mpr ca.1)), q_ck (sk66 S2), ht, p_cl, if_neg (not_not_intro (i15.mpr ca.2))]
    cases s1 with
    | nil => exact absurd ca.2 (by decide)
    | cons k r =>
      have hk15 : k = 15 := ca.2
      have hnx : nxF t n (plF t n i) = plF t n i + 1 := by rw [nx_sign (by omega) (by omega), if_neg (by omega)]
      obtain ⟨h', q1, q2, q3⟩ := y_pop3 Y2 (by omega) (by rw [← hnx]; exact (nx_le hp).2.1)
      rw [← hnx] at q3
      exact ⟨h', q1 _ _, x2.tr q2, yI.nx (s := r) q3 (tail_16 hk1)⟩
  · -- no closing
    have join : ∀ (cont : mm_H → Option (Int32 × mm_H)), (mm_jn cont (fun (q31 : mm_H → Option (Int32 × mm_H)) => if ¬ sgn t n (plF t n i) = (41 : Int32) then (q31 g2) else (mm_ck (mm_kd g2 (B + 66) = 13) <| mm_cl (fX12_top (B + 66) g2) fun v72 g73 => if ¬ v72 = (15 : Int32) then (q31 g73) else (mm_ck (mm_kd g73 (B + 66) = 13) <| mm_lt (mm_setI g73 (B + 66) 34 (((mm_i g73 (B + 66) 34) - (1 : Int32)))) fun g77 => mm_lt (mm_setI g77 (B + 66) 21 (((mm_i g77 (B + 66) 21) - (1 : Int32)))) fun g78 => mm_lt (mm_setI g78 (B + 66) 18 (((mm_i g78 (B + 66) 18) + (1 : Int32)))) fun g79 => some ((2 : Int32), g79))))) = cont g2 := fun cont => by
      rw [p_jn]
      by_cases z : sgn t n (plF t n i) = 41
      · rw [if_neg (not_not_intro z), q_ck (sk66 S2), ht, p_cl, if_pos (fun y => ca ⟨hsg.1.2.1.mp z, i15.mp y⟩)]
      · rw [if_pos z]
    rw [join, if_neg ca, q_ck (sk66 S2), p_lt, Y2.2.1.1, ht, p_cl]
    by_cases cb : tp s1 = 15
    · rw [if_neg (not_not_intro (i15.mpr cb)), if_pos cb]
      obtain ⟨g3, d1, d2, Y3, -⟩ := y_fails Y2 0 (plF t n i) (by omega)
      refine ⟨g3, ?_, x2.tr d2, yI.up (s := s1) Y3 (sk_id (ps_le i)) hk1⟩
      rw [q_ck (sk66 S2), ← nI_0, d1, p_cl]; rfl
    rw [if_pos (fun z => cb (i15.mp z)), if_neg cb, q_ck (sk66 S2), ht, p_cl, y_isSign hk1, p_cl]
    by_cases cc : 7 ≤ tp s1 ∧ tp s1 ≤ 11
    · rw [if_pos cc, if_pos (show ¬ (1 : Int32) = 0 by decide), if_pos cc]
      cases s1 with
      | nil => exact absurd cc.1 (by decide)
      | cons k r =>
        have ec : tp (k :: r) = k := rfl
        rw [ec] at cc ⊢
        have hdc : dc (k :: r) = dc r := by simp only [dc]; rw [if_neg (by omega)]; rfl
        rw [hdc] at Y2
        obtain ⟨h', q1, q2, q3⟩ := y_pe Y2
        exact ⟨h', q1 _ _, x2.tr q2, yI.up (s := r) q3 (sk_id (ps_le i)) (tail_16 hk1)⟩
    rw [if_neg cc, if_neg (not_not_intro rfl), if_neg cc, q_ck (sk66 S2)]
    obtain ⟨m1, m2⟩ := y_compares Y2
    by_cases cd : 30 ≤ tkF t n (plF t n i) ∧ tkF t n (plF t n i) ≤ 34
    · obtain ⟨g3, d1, d2, Y3⟩ := m1 cd
      have S3 := Y3.1.2.2.1
      rw [d1, p_cl, if_pos cd, if_pos (show ¬ nI (tkF t n (plF t n i) - 23) = -1 from nI_neg1 (by omega))]
      obtain ⟨g4, e1, e2, Y4⟩ := y_counts Y3 (plF t n i) (by omega) (by omega)
      have S4 := Y4.1.2.2.1
      obtain ⟨g5, f1, f2, Y5⟩ := y_opens Y4 (k := tkF t n (plF t n i) - 23) (by have := hb (by omega); omega)
      have hdc : dc s1 = dc ((tkF t n (plF t n i) - 23) :: s1) := by simp only [dc]; rw [if_neg (by omega)]; rfl
      rw [hdc] at Y5
      refine ⟨g5, ?_, ((x2.tr d2).tr e2).tr f2, yI.nx (s := (tkF t n (plF t n i) - 23) :: s1) Y5 (mem16 hk1 (by omega))⟩
      rw [q_ck (sk66 S3), e1, p_cl, q_ck (sk66 S4), f1, p_cl]; rfl
    · rw [m2 cd, p_cl, if_neg (not_not_intro rfl), if_neg cd]
      obtain ⟨g3, d1, d2, Y3, -⟩ := y_fails Y2 0 (plF t n i) (by omega)
      refine ⟨g3, ?_, x2.tr d2, yI.up (s := s1) Y3 (sk_id (ps_le i)) hk1⟩
      rw [q_ck (sk66 S2), ← nI_0, d1, p_cl]; rfl
end KH
