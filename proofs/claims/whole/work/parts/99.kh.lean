/-! the reference reads: a run of steps -/
section KJ
variable {B : Nat} {h h' : mm_H} {t : Nat → Int32} {n L p d c f i q : Nat} {s : List Nat} {cs : List (Nat × Nat)}
theorem rOk_mk {st i' c' f' : Nat} {s' : List Nat} {cs' : List (Nat × Nat)} (h0 : ∀ j, j < i → plF t n j < n) (h1 : s'.length + cs'.length ≤ i') (h2 : i' = i ∨ (i' = i + 1 ∧ tkF t n (plF t n i) ≠ 35)) (h3 : f' = 0 → c' ≤ 80) (h4 : st ≤ 4) (h5 : f' ≤ 4000) : rOk t n (st, i', c', s', cs', f') := by
  refine ⟨h1, fun j hj => ?_, h3, h4, h5⟩
  have hj' : j < i' := hj
  by_cases e : j < i
  · exact h0 j e
  · have hp := (pl_le (t := t) (n := n) i).2
    have e2 : j = i := by omega
    have e3 : tkF t n (plF t n i) ≠ 35 := by omega
    have h3 : ¬ n ≤ plF t n i := fun y => e3 ((sg_iff hp).2.2.2.mp y)
    rw [e2]; omega
theorem rCn_0 {f : Nat} (hc : c ≤ 80) (h : rCn t n i c f = 0) : c + 1 ≤ 80 := by
  unfold rCn at h
  by_cases e : c = 80
  · rw [if_pos e] at h
    unfold fl at h
    split at h
    · omega
    · rename_i z; exact absurd h z
  · omega
theorem tail_len {s : List Nat} : s.tail.length ≤ s.length := by
  cases s with
  | nil => exact Nat.le_refl _
  | cons a b => rw [List.length_cons]; exact Nat.le_succ _
theorem fl_b (hn : n ≤ 400) {k : Nat} (hk : k ≤ 6) {f : Nat} (hf : f ≤ 4000) : fl f k (plF t n i) ≤ 4000 := by
  have := (pl_le (t := t) (n := n) i).2
  unfold fl
  split <;> omega
theorem rCn_b (hn : n ≤ 400) {f : Nat} (hf : f ≤ 4000) : rCn t n i c f ≤ 4000 := by
  unfold rCn
  split
  · exact fl_b hn (by omega) hf
  · exact hf
theorem rV1_b (hn : n ≤ 400) : rV1 t n i s ≤ 4000 := by
  unfold rV1
  split
  · exact fl_b hn (by omega) (by omega)
  · omega
theorem rV2_b (hn : n ≤ 400) : rV2 t n i ≤ 4000 := by
  unfold rV2
  split
  · exact fl_b hn (by omega) (by omega)
  · omega
theorem rOk_step {r : rA} (hn : n ≤ 400) (hr : rOk t n r) (h0 : r.2.2.2.2.2 = 0) (h4 : r.1 < 4) : rOk t n (rStep t n r) := by
  obtain ⟨st, i, c, s, cs, f⟩ := r
  have h0' : f = 0 := h0
  subst h0'
  obtain ⟨r1, r2, r3, r4, -⟩ := hr
  have r1' : s.length + cs.length ≤ i := r1
  have r2' : ∀ j, j < i → plF t n j < n := r2
  have hc : c ≤ 80 := r3 rfl
  have h4' : st < 4 := h4
  have tw : ∀ {s : List Nat} , tp s ≠ 0 → s.tail.length + 1 = s.length := fun {s} hz => by
    cases s with
    | nil => exact absurd rfl hz
    | cons a b => rfl
  have hcase : st = 0 ∨ st = 1 ∨ st = 2 ∨ st = 3 := by omega
  rcases hcase with rfl | rfl | rfl | rfl
  · show rOk t n (rW t n i c s cs)
    unfold rW
    split
    · exact rOk_mk r2' (by rw [List.length_cons]; omega) (Or.inr ⟨rfl, by omega⟩) (fun _ => hc) (by omega) (by split; exact fl_b hn (by omega) (by omega); omega)
    split
    · exact rOk_mk r2' (by rw [List.length_cons]; omega) (Or.inr ⟨rfl, by omega⟩) (fun _ => hc) (by omega) (by split; exact fl_b hn (by omega) (by omega); omega)
    · exact rOk_mk r2' r1' (Or.inl rfl) (fun _ => hc) (by omega) (by omega)
  · show rOk t n (rV' t n i c s cs)
    unfold rV'
    split
    · exact rOk_mk r2' (by rw [List.length_cons]; omega) (Or.inr ⟨rfl, by omega⟩) (fun z => rCn_0 hc z) (by omega) (rCn_b hn (rV1_b hn))
    split
    · exact rOk_mk r2' (by rw [List.length_cons]; omega) (Or.inr ⟨rfl, by omega⟩) (fun z => rCn_0 hc z) (by omega) (rCn_b hn (rV2_b hn))
    split
    · exact rOk_mk r2' (by rw [List.length_cons]; omega) (Or.inr ⟨rfl, by omega⟩) (fun z => rCn_0 hc z) (by omega) (rCn_b hn (by omega))
    · exact rOk_mk r2' r1' (Or.inl rfl) (fun _ => hc) (by omega) (fl_b hn (by omega) (by omega))
  · show rOk t n (rH t n i c s cs)
    unfold rH
    have l1 := (sumS_len (b := true) (s := s) (cs := cs)).1
    have l2 := (sumS_len (b := false) (s := s) (cs := cs)).1
    split
    · exact rOk_mk r2' (by rw [List.length_cons]; omega) (Or.inr ⟨rfl, by omega⟩) (fun _ => hc) (by omega) (by omega)
    split
    · exact rOk_mk r2' (by rw [List.length_cons]; omega) (Or.inr ⟨rfl, by omega⟩) (fun _ => hc) (by omega) (by omega)
    split
    · exact rOk_mk r2' (by rw [List.length_cons]; omega) (Or.inr ⟨rfl, by omega⟩) (fun _ => hc) (by omega) (by omega)
    unfold rH1
    have lt := tail_len (s := (sumS false s cs).1)
    split
    · exact rOk_mk r2' (by omega) (Or.inr ⟨rfl, by omega⟩) (fun _ => hc) (by omega) (by omega)
    split
    · exact rOk_mk r2' (by omega) (Or.inl rfl) (fun _ => hc) (by omega) (fl_b hn (by omega) (by omega))
    split
    · rename_i z
      have := tw (s := (sumS false s cs).1) (by omega)
      exact rOk_mk r2' (by rw [List.length_cons]; omega) (Or.inl rfl) (fun _ => hc) (by omega) (by omega)
    split
    · exact rOk_mk r2' (by rw [List.length_cons]; omega) (Or.inr ⟨rfl, by omega⟩) (fun z => rCn_0 hc z) (by omega) (rCn_b hn (by omega))
    · exact rOk_mk r2' (by omega) (Or.inl rfl) (fun _ => hc) (by omega) (fl_b hn (by omega) (by omega))
  · show rOk t n (rF t n i c s cs)
    unfold rF
    have l0 := (notS_len (s := s) (cs := cs)).1
    unfold rF0
    have l1 := (andS_len (b := true) (s := (notS s cs).1) (cs := (notS s cs).2)).1
    have l2 := (andS_len (b := false) (s := (notS s cs).1) (cs := (notS s cs).2)).1
    split
    · exact rOk_mk r2' (by rw [List.length_cons]; omega) (Or.inr ⟨rfl, by omega⟩) (fun _ => hc) (by omega) (by omega)
    split
    · exact rOk_mk r2' (by rw [List.length_cons]; omega) (Or.inr ⟨rfl, by omega⟩) (fun _ => hc) (by omega) (by omega)
    unfold rF1
    have lt := tail_len (s := (andS true (notS s cs).1 (notS s cs).2).1)
    split
    · exact rOk_mk r2' (by omega) (Or.inr ⟨rfl, by omega⟩) (fun _ => hc) (by omega) (by omega)
    split
    · exact rOk_mk r2' (by omega) (Or.inl rfl) (fun _ => hc) (by omega) (fl_b hn (by omega) (by omega))
    · exact rOk_mk r2' (by omega) (Or.inl rfl) (fun _ => hc) (by omega) (by omega)
theorem y_run {b1 : Int32} {r' : rA} : ∀ (fuel : Nat) (r : rA) (h : mm_H), yA B h t n L r → rOk t n r → (r.1 = 4 → r.2.2.2.2.2 = 0 → mm_i h (B + 66) 18 = nI (plF t n r.2.1)) → rRun t n fuel r = some r' → ∃ h', (∀ K, fX12_clause_L96 (B + 66) b1 K fuel (nI r.1) h = K h') ∧ mX B (wR B L) h h' ∧ yA B h' t n L r' ∧ rOk t n r' ∧ (r'.1 = 4 → r'.2.2.2.2.2 = 0 → mm_i h' (B + 66) 18 = nI (plF t n r'.2.1)) := by
  intro fuel
  induction fuel with
  | zero => intro r h _ _ _ e; cases e
  | succ g ih =>
    intro r h Y hr hp4 e
    simp only [rRun] at e
    by_cases c0 : r.1 = 4 ∨ r.2.2.2.2.2 ≠ 0
    · rw [if_pos c0] at e
      obtain rfl := Option.some.inj e
      have S : mS B h := Y.1.elim fun p z => z.1.1.2.2.1
      have hf : mm_i h (B + 66) 20 = nI r.2.2.2.2.2 := Y.1.elim fun p z => z.1.2.2.1
      refine ⟨h, fun K => ?_, mX.rf S.1, Y, hr, hp4⟩
      show fX12_clause_L96_b _ _ _ _ _ _ = _
      unfold fX12_clause_L96_b
      rcases c0 with c0 | c0
      · rw [c0, if_pos (show nI 4 = (4 : Int32) by decide +kernel)]
      · by_cases c4 : nI r.1 = (4 : Int32)
        · rw [if_pos c4]
        · have hb := hr.2.2.2.2
          rw [if_neg c4, q_ck (sk66 S), hf, if_pos (show ¬ nI r.2.2.2.2.2 = (0 : Int32) from fun z => c0 ((nI_eq (b := 0) (by omega) (by omega)).mp z))]
    · rw [if_neg c0] at e
      have h4 : r.1 < 4 := by have := hr.2.2.2.1; omega
      have n9 : n ≤ 400 := Y.1.elim fun p z => z.1.1.1.1
      have h0 : r.2.2.2.2.2 = 0 := by omega
      obtain ⟨g1, q1, q2, q3, q4⟩ := y_rstep (b1 := b1) Y hr h0 h4
      obtain ⟨h', p1, p2, p3, p4⟩ := ih _ g1 q3 (rOk_step n9 hr h0 h4) q4 e
      exact ⟨h', fun K => (q1 K _).trans (p1 K), q2.tr p2, p3, p4⟩
end KJ
