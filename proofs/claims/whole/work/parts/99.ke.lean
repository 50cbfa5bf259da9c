/-! the reference reads: what it wants, what it has -/
def yI (B : Nat) (h : mm_H) (t : Nat → Int32) (n L i c : Nat) (s : List Nat) (cs : List (Nat × Nat)) (f : Nat) : Prop := (∃ p, yS B h t n L p (dc s) c s cs f ∧ skF t n p = plF t n i) ∧ ∀ k, k ∈ s → k ≤ 16
abbrev rA : Type := Nat × Nat × Nat × List Nat × List (Nat × Nat) × Nat
def yA (B : Nat) (h : mm_H) (t : Nat → Int32) (n L : Nat) (r : rA) : Prop := yI B h t n L r.2.1 r.2.2.1 r.2.2.2.1 r.2.2.2.2.1 r.2.2.2.2.2
def rW (t : Nat → Int32) (n i c : Nat) (s : List Nat) (cs : List (Nat × Nat)) : rA := if tkF t n (plF t n i) = 20 then (0, i + 1, c, 14 :: s, cs, if dc s = 10 then fl 0 2 (plF t n i) else 0) else if tkF t n (plF t n i) = 22 then (0, i + 1, c, 16 :: s, cs, if dc s = 10 then fl 0 2 (plF t n i) else 0) else (1, i, c, s, cs, 0)
def rV1 (t : Nat → Int32) (n i : Nat) (s : List Nat) : Nat := if dc s = 10 then fl 0 2 (plF t n i) else 0
def rV2 (t : Nat → Int32) (n i : Nat) : Nat := if 5 < deF t n (plF t n i) - plF t n i then fl 0 1 (plF t n i) else 0
def rCn (t : Nat → Int32) (n i c f : Nat) : Nat := if c = 80 then fl f 3 (plF t n i) else f
def rV' (t : Nat → Int32) (n i c : Nat) (s : List Nat) (cs : List (Nat × Nat)) : rA := if tkF t n (plF t n i) = 24 then (1, i + 1, c + 1, 15 :: s, cs, rCn t n i c (rV1 t n i s)) else if tkF t n (plF t n i) = 21 then (2, i + 1, c + 1, s, (0, nvA t (plF t n i) (deF t n (plF t n i))) :: cs, rCn t n i c (rV2 t n i)) else if tkF t n (plF t n i) < 14 then (2, i + 1, c + 1, s, (1, tkF t n (plF t n i)) :: cs, rCn t n i c 0) else (2, i, c, s, cs, fl 0 0 (plF t n i))
def rH1 (t : Nat → Int32) (n i c : Nat) (s : List Nat) (cs : List (Nat × Nat)) : rA := if tkF t n (plF t n i) = 25 ∧ tp s = 15 then (2, i + 1, c, s.tail, cs, 0) else if tp s = 15 then (4, i, c, s, cs, fl 0 0 (plF t n i)) else if 7 ≤ tp s ∧ tp s ≤ 11 then (3, i, c, s.tail, (tp s, 0) :: cs, 0) else if 30 ≤ tkF t n (plF t n i) ∧ tkF t n (plF t n i) ≤ 34 then (1, i + 1, c + 1, (tkF t n (plF t n i) - 23) :: s, cs, rCn t n i c 0) else (1, i, c, s, cs, fl 0 0 (plF t n i))
def rH (t : Nat → Int32) (n i c : Nat) (s : List Nat) (cs : List (Nat × Nat)) : rA := if tkF t n (plF t n i) = 29 then (1, i + 1, c, 5 :: (sumS true s cs).1, (sumS true s cs).2, 0) else if tkF t n (plF t n i) = 27 then (1, i + 1, c, 3 :: (sumS false s cs).1, (sumS false s cs).2, 0) else if tkF t n (plF t n i) = 28 then (1, i + 1, c, 4 :: (sumS false s cs).1, (sumS false s cs).2, 0) else rH1 t n i c (sumS false s cs).1 (sumS false s cs).2
def rF1 (t : Nat → Int32) (n i c : Nat) (s : List Nat) (cs : List (Nat × Nat)) : rA := if tkF t n (plF t n i) = 23 ∧ tp s = 16 then (3, i + 1, c, s.tail, cs, 0) else if s ≠ [] ∨ (tkF t n (plF t n i) ≠ 35 ∧ tkF t n (plF t n i) ≠ 26) then (4, i, c, s, cs, fl 0 0 (plF t n i)) else (4, i, c, s, cs, 0)
def rF0 (t : Nat → Int32) (n i c : Nat) (s : List Nat) (cs : List (Nat × Nat)) : rA := if tkF t n (plF t n i) = 19 then (0, i + 1, c, 12 :: (andS false s cs).1, (andS false s cs).2, 0) else if tkF t n (plF t n i) = 18 then (0, i + 1, c, 13 :: (andS true s cs).1, (andS true s cs).2, 0) else rF1 t n i c (andS true s cs).1 (andS true s cs).2
def rF (t : Nat → Int32) (n i c : Nat) (s : List Nat) (cs : List (Nat × Nat)) : rA := rF0 t n i c (notS s cs).1 (notS s cs).2
section KG
variable {B : Nat} {h h' : mm_H} {t : Nat → Int32} {n L p d c f i q : Nat} {s : List Nat} {cs : List (Nat × Nat)}
theorem dc_le : ∀ {s : List Nat}, dc s ≤ s.length := by
  intro s
  induction s with
  | nil => exact Nat.zero_le _
  | cons k r ih =>
    simp only [dc, List.length_cons]
    split <;> omega
theorem sumS_len {b : Bool} : ∀ {s : List Nat} {cs : List (Nat × Nat)}, (sumS b s cs).1.length + (sumS b s cs).2.length = s.length + cs.length ∧ dc (sumS b s cs).1 = dc s ∧ ∀ k, k ∈ (sumS b s cs).1 → k ∈ s := by
  intro s
  induction s with
  | nil => intro cs; exact ⟨rfl, rfl, fun k hk => hk⟩
  | cons k r ih =>
    intro cs
    simp only [sumS]
    by_cases w : k = 5 ∨ (b = false ∧ (k = 3 ∨ k = 4))
    · rw [if_pos w]
      obtain ⟨h1, h2, h3⟩ := ih (cs := (k, 0) :: cs)
      refine ⟨by rw [h1, List.length_cons, List.length_cons]; omega, ?_, fun j hj => List.mem_cons.mpr (Or.inr (h3 j hj))⟩
      rw [h2]; simp only [dc]; rw [if_neg (by omega)]; rfl
    · rw [if_neg w]; exact ⟨rfl, rfl, fun k hk => hk⟩
theorem andS_len {b : Bool} : ∀ {s : List Nat} {cs : List (Nat × Nat)}, (andS b s cs).1.length + (andS b s cs).2.length = s.length + cs.length ∧ dc (andS b s cs).1 = dc s ∧ ∀ k, k ∈ (andS b s cs).1 → k ∈ s := by
  intro s
  induction s with
  | nil => intro cs; exact ⟨rfl, rfl, fun k hk => hk⟩
  | cons k r ih =>
    intro cs
    simp only [andS]
    by_cases w : k = 12 ∨ (b = true ∧ k = 13)
    · rw [if_pos w]
      obtain ⟨h1, h2, h3⟩ := ih (cs := (k, 0) :: cs)
      refine ⟨by rw [h1, List.length_cons, List.length_cons]; omega, ?_, fun j hj => List.mem_cons.mpr (Or.inr (h3 j hj))⟩
      rw [h2]; simp only [dc]; rw [if_neg (by omega)]; rfl
    · rw [if_neg w]; exact ⟨rfl, rfl, fun k hk => hk⟩
theorem notS_len : ∀ {s : List Nat} {cs : List (Nat × Nat)}, (notS s cs).1.length + (notS s cs).2.length = s.length + cs.length ∧ ∀ k, k ∈ (notS s cs).1 → k ∈ s := by
  intro s
  induction s with
  | nil => intro cs; exact ⟨rfl, fun k hk => hk⟩
  | cons k r ih =>
    intro cs
    simp only [notS]
    by_cases w : k = 14
    · rw [if_pos w]
      obtain ⟨h1, h3⟩ := ih (cs := (14, 0) :: cs)
      exact ⟨by rw [h1, List.length_cons, List.length_cons]; omega, fun j hj => List.mem_cons.mpr (Or.inr (h3 j hj))⟩
    · rw [if_neg w]; exact ⟨rfl, fun k hk => hk⟩
theorem yI.up {p : Nat} (Y : yS B h t n L p (dc s) c s cs f) (e : skF t n p = plF t n i) (hk : ∀ k, k ∈ s → k ≤ 16) : yI B h t n L i c s cs f := ⟨⟨p, Y, e⟩, hk⟩
theorem yI.nx (Y : yS B h t n L (nxF t n (plF t n i)) (dc s) c s cs f) (hk : ∀ k, k ∈ s → k ≤ 16) : yI B h t n L (i + 1) c s cs f := ⟨⟨_, Y, rfl⟩, hk⟩
theorem mem16 {k : Nat} (hk : ∀ k, k ∈ s → k ≤ 16) (h : k ≤ 16) : ∀ j, j ∈ k :: s → j ≤ 16 := fun j hj => by
  rcases List.mem_cons.mp hj with z | z
  · omega
  · exact hk j z
/-- behind the blanks -/
theorem yI.bl (Y : yI B h t n L i c s cs f) : ∃ h', fX12_blanks (B + 66) h = some ((), h') ∧ mX B (wR B L) h h' ∧ yS B h' t n L (plF t n i) (dc s) c s cs f ∧ mm_i h' (B + 66) 19 = nI (plF t n i) := by
  obtain ⟨⟨p, Y1, e⟩, -⟩ := Y
  obtain ⟨h', q1, q2, q3, q4⟩ := y_blanks Y1
  rw [e] at q3 q4
  exact ⟨h', q1, q2, q3, q4⟩
theorem y_sgn (Y : yS B h t n L p d c s cs f) : fX12_sign (B + 66) h = some (sgn t n p, h) := y_sign Y
theorem y_wantsFact (Y : yI B h t n L i c s cs 0) (hb : tkF t n (plF t n i) ≠ 35 → s.length + cs.length < 400) : ∃ h', fX12_wantsFact (B + 66) h = some (nI (rW t n i c s cs).1, h') ∧ mX B (wR B L) h h' ∧ yA B h' t n L (rW t n i c s cs) := by
  have hk := Y.2
  have S := Y.1.elim fun p z => z.1.1.2.2.1
  obtain ⟨g1, a1, a2, Y1, -⟩ := Y.bl
  have S1 := Y1.1.2.2.1
  have hp := Y1.2.1.2
  obtain ⟨p, hpp⟩ : ∃ p, p = plF t n i := ⟨_, rfl⟩
  have hwe := we_le (t := t) hp
  have hIs : fX12_is (B + 66) (mm_c g1 15) (nI (weF t n (plF t n i))) g1 = some (if rIs t (plF t n i) (weF t n (plF t n i)) 5 = true then 1 else 0, g1) := y_is (k := 5) Y1 hwe.1 hwe.2 (by omega) (by decide)
  have hi : rIs t (plF t n i) (weF t n (plF t n i)) 5 = true ↔ tkF t n (plF t n i) = 20 := rw_iff (w := 20) hp (by omega)
  have hsg := sg_iff (t := t) hp
  have hd := dc_le (s := s)
  have hlen := Y1.2.2.2.2.2.2.2.2.2
  have n9 := Y1.1.1.1
  unfold fX12_wantsFact rW
  rw [q_ck (sk66 S), a1, p_cl, q_ck (sk66 S1), y_wordEnd Y1, p_cl, q_ck (sk66 S1), hIs, p_cl]
  -- one that goes deeper
  have deep : tkF t n (plF t n i) ≠ 35 → ∀ (w : Nat) (v9 : Int32), w ≤ 16 → 14 ≤ w → (v9 = 0 → w = 16 ∧ nxF t n (plF t n i) = plF t n i + 1) → (¬ v9 = 0 → w = 14 ∧ weF t n (plF t n i) = nxF t n (plF t n i)) → ∃ h', (mm_ck (mm_kd g1 (B + 66) = 13) <| mm_cl (fX12_deeper (B + 66) ((mm_i g1 (B + 66) 18)) g1) fun _ g15 => mm_jn (fun (v17 : Int32) => mm_ck (mm_kd g15 (B + 66) = 13) <| mm_cl (fX12_opens (B + 66) v17 g15) fun _ g20 => if v9 = 0 then (mm_ck (mm_kd g20 (B + 66) = 13) <| mm_lt (mm_setI g20 (B + 66) 18 (((mm_i g20 (B + 66) 18) + (1 : Int32)))) fun g24 => some ((0 : Int32), g24)) else (mm_ck (mm_kd g20 (B + 66) = 13) <| mm_lt (mm_setI g20 (B + 66) 18 (nI (weF t n (plF t n i)))) fun g26 => some ((0 : Int32), g26))) (fun (q18 : Int32 → Option (Int32 × mm_H)) => if v9 = 0 then (q18 (16 : Int32)) else (q18 (14 : Int32)))) = some (nI 0, h') ∧ mX B (wR B L) h h' ∧ yI B h' t n L (i + 1) c (w :: s) cs (if dc s = 10 then fl 0 2 (plF t n i) else 0) := by
    intro h35 w v9 hw hw2 hz hnz
    obtain ⟨g2, b1, b2, Y2⟩ := y_deeper Y1 (plF t n i) (by omega) (by omega)
    have S2 := Y2.1.2.2.1
    obtain ⟨g3, c1, c2, Y3⟩ := y_opens Y2 (k := w) (hb h35)
    have S3 := Y3.1.2.2.1
    obtain ⟨Y4, x4⟩ := Y3.setp (p' := nxF t n (plF t n i)) (nx_le hp).2.1
    have edc : dc (w :: s) = dc s + 1 := by simp only [dc]; rw [if_pos hw2]
    rw [← edc] at Y4
    refine ⟨_, ?_, ((a2.tr b2).tr c2).tr x4, yI.nx Y4 (mem16 hk hw)⟩
    rw [q_ck (sk66 S1), Y1.2.1.1, b1, p_cl]
    refine (jn_eq (nI w) (fun q' => ?_)).trans ?_
    · by_cases z : v9 = 0
      · rw [if_pos z, (hz z).1]; rfl
      · rw [if_neg z, (hnz z).1]; rfl
    · rw [q_ck (sk66 S2), c1, p_cl]
      by_cases z : v9 = 0
      · rw [if_pos z, q_ck (sk66 S3), Y3.2.1.1, nI_1, (hz z).2, p_lt, nI_0]
      · rw [if_neg z, q_ck (sk66 S3), (hnz z).2, p_lt, nI_0]
  by_cases c1 : tkF t n (plF t n i) = 20
  · rw [if_pos (hi.mpr c1), if_pos c1]
    obtain ⟨h', q1, q2, q3⟩ := deep (by omega) 14 1 (by omega) (by omega) (fun z => absurd z (by decide)) (fun _ => ⟨rfl, nx_word (by omega)⟩)
    refine ⟨h', ?_, q2, q3⟩
    rw [p_jn, if_pos (show ¬ (1 : Int32) = 0 by decide)]
    exact q1
  · rw [if_neg (fun z => c1 (hi.mp z)), if_neg c1, p_jn, if_neg (not_not_intro rfl), q_ck (sk66 S1), y_sgn Y1, p_cl]
    by_cases c2 : tkF t n (plF t n i) = 22
    · rw [if_neg (not_not_intro (hsg.1.2.2.2.2.2.2.1.mpr c2)), if_pos c2]
      exact deep (by omega) 16 0 (by omega) (by omega) (fun _ => ⟨rfl, by rw [nx_sign (by omega) (by omega), if_neg (by omega)]⟩) (fun z => absurd rfl z)
    · rw [if_pos (fun z => c2 (hsg.1.2.2.2.2.2.2.1.mp z)), if_neg c2]
      exact ⟨g1, rfl, a2, yI.up Y1 (sk_id (ps_le i)) hk⟩
theorem y_wordOf {w : Nat} (hw : w < 14) : fX12_wordOf (nI w) h = some (some (mm_c h (10 + tx_w w)), h) := by
  unfold fX12_wordOf
  have : w = 0 ∨ w = 1 ∨ w = 2 ∨ w = 3 ∨ w = 4 ∨ w = 5 ∨ w = 6 ∨ w = 7 ∨ w = 8 ∨ w = 9 ∨ w = 10 ∨ w = 11 ∨ w = 12 ∨ w = 13 := by omega
  rcases this with rfl | rfl | rfl | rfl | rfl | rfl | rfl | rfl | rfl | rfl | rfl | rfl | rfl | rfl <;> rfl
/-- the first word of facts -/
theorem y_vl_L81 (Y : yS B h t n L p d c s cs f) {b1 : Int32} (K : Int32 → mm_H → Option (Int32 × mm_H)) : ∀ (e w fuel : Nat), w + e = 14 → e < fuel → (∀ v, v < w → tkF t n p ≠ v) → fX12_value_L81 (B + 66) b1 (nI (weF t n p)) K fuel (nI w) h = K (nI (if tkF t n p < 14 then tkF t n p else 14)) h := by
  have S := Y.1.2.2.1
  have hp := Y.2.1.2
  have hwe := we_le (t := t) hp
  intro e
  induction e with
  | zero =>
    intro w fuel hw hf hn
    obtain ⟨g, rfl⟩ : ∃ f, fuel = f + 1 := ⟨fuel - 1, by omega⟩
    show fX12_value_L81_b _ _ _ _ _ _ _ = _
    unfold fX12_value_L81_b
    rw [if_pos (show (14 : Int32) ≤ nI w from nI_le (a := 14) (by omega) (by omega)), if_neg (fun z => hn _ (by omega) rfl), show w = 14 by omega]
  | succ e ih =>
    intro w fuel hw hf hn
    obtain ⟨g, rfl⟩ : ∃ f, fuel = f + 1 := ⟨fuel - 1, by omega⟩
    have hi := rw_iff (t := t) (n := n) (w := w) hp (by omega)
    have hw22 := tx_w22 w (by omega)
    show fX12_value_L81_b _ _ _ _ _ _ _ = _
    unfold fX12_value_L81_b
    rw [if_neg (show ¬ (14 : Int32) ≤ nI w from nI_ge (b := 14) (by omega) (by omega)), y_wordOf (by omega), p_cl, q_ck (sk66 S), p_rf, y_is Y hwe.1 hwe.2 hw22.1 (by omega), p_cl]
    by_cases c1 : tkF t n p = w
    · rw [if_pos (hi.mpr c1), if_pos (show ¬ (1 : Int32) = 0 by decide), if_pos (by omega), c1]
    · rw [if_neg (fun z => c1 (hi.mp z)), if_neg (not_not_intro rfl), p_lt, nI_1]
      exact ih (w + 1) g (by omega) (by omega) (fun v hv => by
        by_cases z : v = w
        · rw [z]; exact c1
        · exact hn v (by omega))
theorem y_value (Y : yI B h t n L i c s cs 0) (hb : tkF t n (plF t n i) ≠ 35 → s.length + cs.length < 400) (hc : c ≤ 80) : ∃ h' r, fX12_value (B + 66) h = some (r, h') ∧ (r = 0 ↔ (rV' t n i c s cs).1 = 1) ∧ ((rV' t n i c s cs).1 = 1 ∨ (rV' t n i c s cs).1 = 2) ∧ mX B (wR B L) h h' ∧ yA B h' t n L (rV' t n i c s cs) := by
  have hk := Y.2
  have S := Y.1.elim fun p z => z.1.1.2.2.1
  obtain ⟨g1, a1, a2, Y1, a19⟩ := Y.bl
  have S1 := Y1.1.2.2.1
  have hp := Y1.2.1.2
  have hwe := we_le (t := t) hp
  have hsg := sg_iff (t := t) hp
  have hd := dc_le (s := s)
  have hlen := Y1.2.2.2.2.2.2.2.2.2
  have n9 := Y1.1.1.1
  have fb : ∀ k, k ≤ 4 → fl 0 k (plF t n i) < 2 ^ 30 := fun k h => by unfold fl; rw [if_pos rfl]; omega
  have fb1 : rV1 t n i s < 2 ^ 30 := by
    unfold rV1; split
    · exact fb 2 (by omega)
    · omega
  have fb2 : rV2 t n i < 2 ^ 30 := by
    unfold rV2; split
    · exact fb 1 (by omega)
    · omega
  unfold fX12_value rV'
  rw [q_ck (sk66 S), a1, p_cl, q_ck (sk66 S1), p_lt, Y1.2.1.1, y_sgn Y1, p_cl]
  by_cases c1 : tkF t n (plF t n i) = 24
  · rw [if_neg (not_not_intro (hsg.1.1.mpr c1)), if_pos c1]
    obtain ⟨g2, b1, b2, Y2⟩ := y_deeper Y1 (plF t n i) (by omega) (by omega)
    have S2 := Y2.1.2.2.1
    obtain ⟨g3, d1, d2, Y3⟩ := y_counts Y2 (plF t n i) fb1 (by omega)
    have S3 := Y3.1.2.2.1
    obtain ⟨g4, e1, e2, Y4⟩ := y_opens Y3 (k := 15) (hb (by omega))
    have S4 := Y4.1.2.2.1
    obtain ⟨Y5, x5⟩ := Y4.setp (p' := nxF t n (plF t n i)) (nx_le hp).2.1
    have hnx : nxF t n (plF t n i) = plF t n i + 1 := by rw [nx_sign (by omega) (by omega), if_neg (by omega)]
    refine ⟨_, 0, ?_, ⟨fun _ => rfl, fun _ => rfl⟩, Or.inl rfl, (((a2.tr b2).tr d2).tr e2).tr x5, yI.nx (s := 15 :: s) Y5 (mem16 hk (by omega))⟩
    rw [q_ck (sk66 S1), b1, p_cl, q_ck (sk66 S2), d1, p_cl, q_ck (sk66 S3), show (15 : Int32) = nI 15 by decide +kernel, e1, p_cl, q_ck (sk66 S4), Y4.2.1.1, nI_1, p_lt, hnx]
  · rw [if_pos (fun z => c1 (hsg.1.1.mp z)), if_neg c1, y_dig, p_cl]
    by_cases c2 : tkF t n (plF t n i) = 21
    · rw [if_pos (hsg.2.2.1.mpr c2), if_neg (show ¬ (1 : Int32) = 0 by decide), if_pos c2]
      obtain ⟨g2, b1, b2, Y2⟩ := y_number Y1 a19 (by omega)
      have S2 := Y2.1.2.2.1
      obtain ⟨g3, d1, d2, Y3⟩ := y_counts Y2 (plF t n i) fb2 (by omega)
      have S3 := Y3.1.2.2.1
      obtain ⟨g4, e1, e2, Y4⟩ := y_emits Y3 (o := 0) (v := nvA t (plF t n i) (deF t n (plF t n i))) (hb (by omega))
      refine ⟨_, 1, ?_, ⟨fun z => absurd z (by decide), fun z => absurd z (show ¬ (2 : Nat) = 1 by decide)⟩, Or.inr rfl, ((a2.tr b2).tr d2).tr e2, yI.up (s := s) (i := i + 1) Y4 (by rw [nx_num c2]; rfl) hk⟩
      rw [q_ck (sk66 S1), b1, p_cl, q_ck (sk66 S2), d1, p_cl, q_ck (sk66 S3), ← nI_0, e1, p_cl]
    · rw [if_neg (fun z => c2 (hsg.2.2.1.mp z)), if_pos rfl, if_neg c2, q_ck (sk66 S1), y_wordEnd Y1, p_cl]
      have hL := fun K => y_vl_L81 Y1 (b1 := nI (plF t n i)) K 14 0 mm_F (by omega) (by unfold mm_F; omega) (fun v hv => absurd hv (Nat.not_lt_zero _))
      simp only [nI_0] at hL
      rw [hL]
      by_cases c3 : tkF t n (plF t n i) < 14
      · rw [if_pos c3, if_pos c3, if_pos (show ¬ nI (tkF t n (plF t n i)) = (14 : Int32) from fun z => by have := (nI_eq (b := 14) (by omega) (by omega)).mp z; omega)]
        obtain ⟨g3, d1, d2, Y3⟩ := y_counts Y1 (plF t n i) (by omega) (by omega)
        have S3 := Y3.1.2.2.1
        obtain ⟨Y4, x4⟩ := Y3.setp (p' := weF t n (plF t n i)) hwe.2
        obtain ⟨g5, e1, e2, Y5⟩ := y_emits Y4 (o := 1) (v := tkF t n (plF t n i)) (hb (by omega))
        rw [nx_word (by omega)] at Y5
        refine ⟨_, 1, ?_, ⟨fun z => absurd z (by decide), fun z => absurd z (show ¬ (2 : Nat) = 1 by decide)⟩, Or.inr rfl, ((a2.tr d2).tr x4).tr e2, yI.nx (s := s) Y5 hk⟩
        rw [q_ck (sk66 S1), d1, p_cl, q_ck (sk66 S3), p_lt, show (1 : Int32) = nI 1 by decide +kernel, e1, p_cl]
      · rw [if_neg c3, if_neg c3, if_neg (not_not_intro (show nI 14 = (14 : Int32) by decide +kernel))]
        obtain ⟨g2, b1, b2, Y2, -⟩ := y_fails Y1 0 (plF t n i) (by omega)
        refine ⟨_, 1, ?_, ⟨fun z => absurd z (by decide), fun z => absurd z (show ¬ (2 : Nat) = 1 by decide)⟩, Or.inr rfl, a2.tr b2, yI.up (s := s) Y2 (sk_id (ps_le i)) hk⟩
        rw [q_ck (sk66 S1), ← nI_0, b1, p_cl]
end KG
