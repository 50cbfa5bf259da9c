/-! a clause's verb -/
def vbI (k : Nat) : Int32 := if k = 14 then 0 else if k = 15 then 1 else if k = 16 then 10 else -1
section KQ
variable {B : Nat} {h h' : mm_H} {t : Nat → Int32} {n m L p d c f i q cl : Nat} {cs : List (Nat × Nat)}
theorem z_verb (Y : yV B h t n L p 0) (e : skF t n p = plF t n i) (h83 : mm_i h (B + 83) L = nI cl) (hcl : cl ≤ 10) : (¬ (14 ≤ tkF t n (plF t n i) ∧ tkF t n (plF t n i) ≤ 16) → ∃ h' r, fX12_verb (B + 66) h = some (r, h') ∧ mX B (wV B) h h' ∧ mm_i h' (B + 66) 20 = nI (fl 0 0 (plF t n i))) ∧ (14 ≤ tkF t n (plF t n i) ∧ tkF t n (plF t n i) ≤ 16 → cl = 10 → ∃ h' r, fX12_verb (B + 66) h = some (r, h') ∧ mX B (wV B) h h' ∧ mm_i h' (B + 66) 20 = nI (fl 0 4 (plF t n i))) ∧ (14 ≤ tkF t n (plF t n i) ∧ tkF t n (plF t n i) ≤ 15 → cl < 10 → ∃ h', fX12_verb (B + 66) h = some (nI (tkF t n (plF t n i) - 14), h') ∧ mX B (wV B) h h' ∧ yV B h' t n L (nxF t n (plF t n i)) 0) ∧ (tkF t n (plF t n i) = 16 → cl < 10 → tkF t n (plF t n (i + 1)) ≠ 21 → ∃ h' r, fX12_verb (B + 66) h = some (r, h') ∧ mX B (wV B) h h' ∧ mm_i h' (B + 66) 20 = nI (fl 0 0 (plF t n (i + 1)))) ∧ (tkF t n (plF t n i) = 16 → cl < 10 → tkF t n (plF t n (i + 1)) = 21 → ∃ h', fX12_verb (B + 66) h = some (nI (10 + nvA t (plF t n (i + 1)) (deF t n (plF t n (i + 1)))), h') ∧ mX B (wV B) h h' ∧ yV B h' t n L (nxF t n (plF t n (i + 1))) (rV2 t n (i + 1))) := by
  have S := Y.1.2.2.1
  obtain ⟨g1, a1, a2, Y1, -⟩ := z_bl Y e
  have S1 := Y1.1.2.2.1
  have hL := Y1.1.2.2.2
  have hp := Y1.2.1.2
  have hwe := we_le (t := t) hp
  have n9 := Y1.1.1.1
  have hIs1 : fX12_is (B + 66) (mm_c g1 11) (nI (weF t n (plF t n i))) g1 = some (if rIs t (plF t n i) (weF t n (plF t n i)) 1 = true then 1 else 0, g1) := z_is (k := 1) Y1 hwe.1 hwe.2 (by omega) (by decide)
  have hi1 : rIs t (plF t n i) (weF t n (plF t n i)) 1 = true ↔ tkF t n (plF t n i) = 14 := rw_iff (w := 14) hp (by omega)
  have hIs2 : fX12_is (B + 66) (mm_c g1 12) (nI (weF t n (plF t n i))) g1 = some (if rIs t (plF t n i) (weF t n (plF t n i)) 2 = true then 1 else 0, g1) := z_is (k := 2) Y1 hwe.1 hwe.2 (by omega) (by decide)
  have hi2 : rIs t (plF t n i) (weF t n (plF t n i)) 2 = true ↔ tkF t n (plF t n i) = 15 := rw_iff (w := 15) hp (by omega)
  have hIs3 : fX12_is (B + 66) (mm_c g1 13) (nI (weF t n (plF t n i))) g1 = some (if rIs t (plF t n i) (weF t n (plF t n i)) 3 = true then 1 else 0, g1) := z_is (k := 3) Y1 hwe.1 hwe.2 (by omega) (by decide)
  have hi3 : rIs t (plF t n i) (weF t n (plF t n i)) 3 = true ↔ tkF t n (plF t n i) = 16 := rw_iff (w := 16) hp (by omega)
  have h83' : mm_i g1 (B + 83) L = nI cl := by rw [a2.i (by have := a2.1.2.2; omega) (by unfold wV; omega)]; exact h83
  have hq30 := fun (β : Type) (z : Option β) => q_ckx (show L < 30 from hL.2) (by decide) z
  -- the program behind the words
  have ev : fX12_verb (B + 66) h = (if ¬ vbI (tkF t n (plF t n i)) = (-1 : Int32) then (if ¬ nI cl = (10 : Int32) then (mm_lt (mm_setI g1 (B + 66) 18 (nI (weF t n (plF t n i)))) fun g21 => if ¬ vbI (tkF t n (plF t n i)) = (10 : Int32) then (some (vbI (tkF t n (plF t n i)), g21)) else (mm_cl (fX12_blanks (B + 66) g21) fun _ g23 => mm_ck (mm_kd g23 (B + 66) = 13) <| mm_cl (fX12_sign (B + 66) g23) fun v26 g27 => mm_cl (fX12_isDigit v26 g27) fun v29 g30 => if ¬ v29 = 0 then (mm_ck (mm_kd g30 (B + 66) = 13) <| mm_cl (fX12_number (B + 66) g30) fun v34 g35 => mm_lt ((vbI (tkF t n (plF t n i)) + v34)) fun v37 => some (v37, g35)) else (mm_ck (mm_kd g30 (B + 66) = 13) <| mm_cl (fX12_fails (B + 66) (0 : Int32) ((mm_i g30 (B + 66) 18)) g30) fun _ g39 => some ((-1 : Int32), g39)))) else (mm_cl (fX12_fails (B + 66) (4 : Int32) ((mm_i g1 (B + 66) 18)) g1) fun _ g41 => some ((-1 : Int32), g41))) else (mm_ck (mm_kd g1 (B + 66) = 13) <| mm_cl (fX12_fails (B + 66) (0 : Int32) ((mm_i g1 (B + 66) 18)) g1) fun _ g44 => some ((-1 : Int32), g44))) := by
    unfold fX12_verb
    rw [q_ck (sk66 S), a1, p_cl, q_ck (sk66 S1), z_wordEnd Y1, p_cl, q_ck (sk66 S1), hIs1, p_cl]
    refine (jn_eq2 (vbI (tkF t n (plF t n i))) g1 (fun q => ?_)).trans ?_
    · unfold vbI
      by_cases c1 : tkF t n (plF t n i) = 14
      · rw [if_pos (hi1.mpr c1), if_neg (show ¬ (1 : Int32) = 0 by decide), if_pos c1]
      · rw [if_neg (fun z => c1 (hi1.mp z)), if_pos rfl, q_ck (sk66 S1), hIs2, p_cl, if_neg c1]
        by_cases c2 : tkF t n (plF t n i) = 15
        · rw [if_pos (hi2.mpr c2), if_neg (show ¬ (1 : Int32) = 0 by decide), if_pos c2]
        · rw [if_neg (fun z => c2 (hi2.mp z)), if_pos rfl, q_ck (sk66 S1), hIs3, p_cl, if_neg c2]
          by_cases c3 : tkF t n (plF t n i) = 16
          · rw [if_pos (hi3.mpr c3), if_neg (show ¬ (1 : Int32) = 0 by decide), if_pos c3]
          · rw [if_neg (fun z => c3 (hi3.mp z)), if_pos rfl, if_neg c3]
    · by_cases c : vbI (tkF t n (plF t n i)) = -1
      · rw [if_neg (not_not_intro c), if_neg (not_not_intro c)]
      · rw [if_pos c, if_pos c, q_ck (sk66 S1), sr66_27 S1, p_rf, q_ck (sk83 S1), hL.1, sn83 S1, hq30, nI_clamp (by omega), h83']
  rw [ev]
  have v1 : ¬ (14 ≤ tkF t n (plF t n i) ∧ tkF t n (plF t n i) ≤ 16) → vbI (tkF t n (plF t n i)) = -1 := fun z => by
    unfold vbI; rw [if_neg (by omega), if_neg (by omega), if_neg (by omega)]
  have v2 : 14 ≤ tkF t n (plF t n i) ∧ tkF t n (plF t n i) ≤ 16 → ¬ vbI (tkF t n (plF t n i)) = -1 := fun z => by
    have : tkF t n (plF t n i) = 14 ∨ tkF t n (plF t n i) = 15 ∨ tkF t n (plF t n i) = 16 := by omega
    rcases this with e | e | e <;> rw [e] <;> decide +kernel
  have hsg2 := sg_iff (t := t) (pl_le (t := t) (n := n) (i + 1)).2
  have n10 : cl < 10 → ¬ nI cl = (10 : Int32) := fun z y => by have := (nI_eq (b := 10) (by omega) (by omega)).mp y; omega
  refine ⟨fun z => ?_, fun z zc => ?_, fun z zc => ?_, fun z zc zn => ?_, fun z zc zn => ?_⟩
  · obtain ⟨g2, b1, b2, Y2, -⟩ := z_fails Y1 0 (plF t n i) (by omega)
    refine ⟨g2, -1, ?_, a2.tr b2, Y2.2.2⟩
    rw [if_neg (not_not_intro (v1 z)), q_ck (sk66 S1), Y1.2.1.1, ← nI_0, b1, p_cl]
  · obtain ⟨g2, b1, b2, Y2, -⟩ := z_fails Y1 4 (plF t n i) (by omega)
    refine ⟨g2, -1, ?_, a2.tr b2, Y2.2.2⟩
    rw [if_pos (v2 z), if_neg (not_not_intro (by rw [zc]; rfl)), Y1.2.1.1, show (4 : Int32) = nI 4 by decide +kernel, b1, p_cl]
  · obtain ⟨Y2, x2⟩ := Y1.setp (p' := nxF t n (plF t n i)) (nx_le hp).2.1
    refine ⟨_, ?_, a2.tr x2, Y2⟩
    rw [if_pos (v2 (by omega)), if_pos (n10 zc), nx_word (by omega), p_lt]
    have : tkF t n (plF t n i) = 14 ∨ tkF t n (plF t n i) = 15 := by omega
    rcases this with e | e
    · rw [e, if_pos (by decide +kernel)]; rfl
    · rw [e, if_pos (by decide +kernel)]; rfl
  · obtain ⟨Y2, x2⟩ := Y1.setp (p' := nxF t n (plF t n i)) (nx_le hp).2.1
    obtain ⟨g3, b1, b2, Y3, -⟩ := z_bl (i := i + 1) Y2 rfl
    obtain ⟨g4, d1, d2, Y4, -⟩ := z_fails Y3 0 (plF t n (i + 1)) (by omega)
    refine ⟨g4, -1, ?_, ((a2.tr x2).tr b2).tr d2, Y4.2.2⟩
    rw [if_pos (v2 (by omega)), if_pos (n10 zc), nx_word (by omega), p_lt, z, if_neg (by decide +kernel), b1, p_cl, q_ck (sk66 Y3.1.2.2.1), z_sgn Y3, p_cl, y_dig, p_cl, if_neg (fun y => zn (hsg2.2.2.1.mp y)), if_neg (not_not_intro rfl), q_ck (sk66 Y3.1.2.2.1), Y3.2.1.1, ← nI_0, d1, p_cl]
  · obtain ⟨Y2, x2⟩ := Y1.setp (p' := nxF t n (plF t n i)) (nx_le hp).2.1
    obtain ⟨g3, b1, b2, Y3, b4⟩ := z_bl (i := i + 1) Y2 rfl
    obtain ⟨g4, d1, d2, Y4⟩ := z_number Y3 b4 (by omega)
    refine ⟨g4, ?_, ((a2.tr x2).tr b2).tr d2, ?_⟩
    · rw [if_pos (v2 (by omega)), if_pos (n10 zc), nx_word (by omega), p_lt, z, if_neg (by decide +kernel), b1, p_cl, q_ck (sk66 Y3.1.2.2.1), z_sgn Y3, p_cl, y_dig, p_cl, if_pos (hsg2.2.2.1.mpr zn), if_pos (show ¬ (1 : Int32) = 0 by decide), q_ck (sk66 Y3.1.2.2.1), d1, p_cl, p_lt]
      show some (nI 10 + nI _, g4) = _
      rw [nI_add]
    · have e2 := nx_num zn
      have : yV B g4 t n L (deF t n (plF t n (i + 1))) (rV2 t n (i + 1)) := Y4
      rw [e2] at this
      exact this
theorem xS.fr {W : Nat → Nat → Prop} (X : xS B h t n m i c cs) (x : mX B W h h') (hw : ∀ a k, (a = B + 7 ∨ a = B + 8 ∨ a = B + 9 ∨ a = B + 10 ∨ (a = B + 5 ∧ (k = 5 ∨ k = 6 ∨ k = 7 ∨ k = 8 ∨ k = 10))) → ¬ W a k) : xS B h' t n m i c cs := by
  obtain ⟨⟨a1, a2, a3, a4⟩, ⟨b1, b2⟩, b3, b4, b5⟩ := X
  have hB := x.1.2.2
  exact ⟨⟨x.S a1, fun j hj => by rw [x.i (by omega) (hw _ _ (by omega)), x.i (by omega) (hw _ _ (by omega)), x.i (by omega) (hw _ _ (by omega))]; exact a2 j hj, by rw [x.i (by omega) (hw _ _ (by omega))]; exact a3, a4⟩, ⟨by rw [x.i (by omega) (hw _ _ (by omega))]; exact b1, b2⟩, by rw [x.i (by omega) (hw _ _ (by omega))]; exact b3, by rw [x.i (by omega) (hw _ _ (by omega))]; exact b4, cdx_cg (fun k _ => x.i (by omega) (hw _ _ (by omega))) b5.1, by rw [x.i (by omega) (hw _ _ (by omega))]; exact b5.2⟩
end KQ
/-- the clauses read so far, the newest first -/
def clD (B : Nat) (hx hy : mm_H) (L : Nat) : List (List (Nat × Nat)) → Prop
  | [] => True
  | g :: r => (mm_i hy (B + 84) (10 * L + r.length) = mm_i hx (B + 11) r.length ∧ mm_i hx (B + 12) (r.length + 1) = nI (g ++ r.flatten).length ∧ mm_i hy (B + 85) (10 * L + r.length) = nI r.flatten.length ∧ mm_i hy (B + 86) (10 * L + r.length) = nI (g ++ r.flatten).length ∧ tyL g = some [true]) ∧ clD B hx hy L r
def wQy (B L : Nat) : Nat → Nat → Prop := fun x i => wR B L x i ∨ ((x = B + 84 ∨ x = B + 85 ∨ x = B + 86) ∧ 10 * L ≤ i) ∨ (x = B + 83 ∧ i = L)
section KR
variable {B : Nat} {h h' hx hy hx' hy' : mm_H} {t : Nat → Int32} {n m L i c : Nat}
theorem clD_cg : ∀ {g : List (List (Nat × Nat))}, (∀ k, k < g.length → (mm_i hx' (B + 11) k = mm_i hx (B + 11) k ∧ mm_i hx' (B + 12) (k + 1) = mm_i hx (B + 12) (k + 1)) ∧ mm_i hy' (B + 84) (10 * L + k) = mm_i hy (B + 84) (10 * L + k) ∧ mm_i hy' (B + 85) (10 * L + k) = mm_i hy (B + 85) (10 * L + k) ∧ mm_i hy' (B + 86) (10 * L + k) = mm_i hy (B + 86) (10 * L + k)) → clD B hx hy L g → clD B hx' hy' L g := by
  intro g
  induction g with
  | nil => intro _ _; trivial
  | cons x r ih =>
    intro e D
    obtain ⟨⟨d1, d2, d3, d4, d5⟩, d6⟩ := D
    obtain ⟨⟨e1, e2⟩, e3, e4, e5⟩ := e r.length (by rw [List.length_cons]; omega)
    exact ⟨⟨by rw [e3, e1]; exact d1, by rw [e2]; exact d2, by rw [e4]; exact d3, by rw [e5]; exact d4, d5⟩, ih (fun k hk => e k (by rw [List.length_cons]; omega)) d6⟩
/-- between two clauses -/
def JC (B : Nat) (hx hy : mm_H) (t : Nat → Int32) (n m L i c : Nat) (g : List (List (Nat × Nat))) : Prop := (xS B hx t n m i c g.flatten ∧ mm_i hx (B + 5) 13 = nI g.length ∧ g.length ≤ 10) ∧ (∃ p, yV B hy t n L p 0 ∧ skF t n p = plF t n i) ∧ (mm_i hy (B + 66) 22 = nI c ∧ c ≤ 80) ∧ mm_i hy (B + 66) 33 = nI g.flatten.length ∧ cdy B hy L g.flatten ∧ mm_i hy (B + 83) L = nI g.length ∧ clD B hx hy L g ∧ (∀ x, x ∈ g.flatten → okC x) ∧ g.flatten.length ≤ i
end KR
