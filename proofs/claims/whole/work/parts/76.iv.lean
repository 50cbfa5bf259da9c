/-! is a clause true: both piles hold the same -/
def cmV (o : Nat) (a b : Int64) : Int64 := if o = 3 then a + b else if o = 4 then a - b else if o = 5 then a * b else if o = 7 then (if 0 ≤ lg_cmp a b then 0 else 1) else if o = 8 then (if 0 < lg_cmp a b then 0 else 1) else if o = 9 then (if ¬ lg_cmp a b = 0 then 0 else 1) else if o = 10 then (if lg_cmp a b < 0 then 0 else 1) else if o = 11 then (if lg_cmp a b ≤ 0 then 0 else 1) else if o = 12 then a &&& b else a ||| b
def evL (f g : Nat → Int64) : List Bool → Prop
  | [] => True
  | b :: r => (f r.length = g r.length ∧ (b = true → f r.length = 0 ∨ f r.length = 1)) ∧ evL f g r
theorem evL_cg {f g f' g' : Nat → Int64} : ∀ {s : List Bool}, (∀ p, p < s.length → f' p = f p ∧ g' p = g p) → evL f g s → evL f' g' s := by
  intro s
  induction s with
  | nil => intro _ _; trivial
  | cons b r ih =>
    intro h e
    obtain ⟨⟨e1, e2⟩, e3⟩ := e
    obtain ⟨h1, h2⟩ := h r.length (Nat.lt_succ_self _)
    refine ⟨⟨by rw [h1, h2]; exact e1, by rw [h1]; exact e2⟩, ih (fun p hp => h p (Nat.lt_succ_of_lt hp)) e3⟩
/-- the operators of two values -/
def isOp (o : Nat) : Prop := o = 3 ∨ o = 4 ∨ o = 5 ∨ o = 7 ∨ o = 8 ∨ o = 9 ∨ o = 10 ∨ o = 11 ∨ o = 12 ∨ o = 13
section QP
variable {α β : Type}
theorem p_lt (x : α) (k : α → Option β) : mm_lt x k = k x := Eq.trans rfl rfl
theorem p_jn (k : α) (b : α → Option β) : mm_jn k b = b k := Eq.trans rfl rfl
theorem p_rf (a : Nat) (k : Nat → Option β) : mm_rf (some a) k = k a := Eq.trans rfl rfl
theorem p_cl (v : α) (h : mm_H) (k : α → mm_H → Option β) : mm_cl (some (v, h)) k = k v h := Eq.trans rfl rfl
end QP
section IV
variable {B : Nat} {h hx hy hx' hy' : mm_H} {ow ow' : Nat → Nat × Nat} {n d nm nl nb nw a : Nat} {V Z G E : Nat → Nat → Nat}
theorem y_truth0 : fX12_truth 0 h = some (0, h) := by unfold fX12_truth; rw [if_pos rfl]
theorem y_truth1 : fX12_truth 1 h = some (1, h) := by unfold fX12_truth; rw [if_neg (by decide)]
theorem y_joins {o : Nat} (ho : isOp o) (a b : Int64) : fX12_joins (nI o) a b h = some (cmV o a b, h) := by
  unfold fX12_joins cmV
  simp only [y_truth0, y_truth1, q_cl, q_ifs]
  rcases ho with rfl | rfl | rfl | rfl | rfl | rfl | rfl | rfl | rfl | rfl <;> rfl
theorem x_combine {o : Nat} (ho : isOp o) (a b : Int64) : fX4_combine (nI (tokOf o)) a b h = some (cmV o a b, h) := by
  unfold fX4_combine fX4_compares cmV
  simp only [q_ifs]
  have e0 : ((0 : Int32) = 0) = True := eq_true rfl
  have e1 : ((1 : Int32) = 0) = False := q_10
  rcases ho with rfl | rfl | rfl | rfl | rfl | rfl | rfl | rfl | rfl | rfl
  · rfl
  · rfl
  · rfl
  · show (mm_cl (some (if 0 ≤ lg_cmp a b then (0 : Int32) else 1, h)) fun v g => some (if v = 0 then (0 : Int64) else 1, g)) = some (if 0 ≤ lg_cmp a b then (0 : Int64) else 1, h)
    rw [q_cl]; by_cases c : 0 ≤ lg_cmp a b <;> simp [c]
  · show (mm_cl (some (if 0 < lg_cmp a b then (0 : Int32) else 1, h)) fun v g => some (if v = 0 then (0 : Int64) else 1, g)) = some (if 0 < lg_cmp a b then (0 : Int64) else 1, h)
    rw [q_cl]; by_cases c : 0 < lg_cmp a b <;> simp [c]
  · show (mm_cl (some (if ¬ lg_cmp a b = 0 then (0 : Int32) else 1, h)) fun v g => some (if v = 0 then (0 : Int64) else 1, g)) = some (if ¬ lg_cmp a b = 0 then (0 : Int64) else 1, h)
    rw [q_cl]; by_cases c : lg_cmp a b = 0 <;> simp [c]
  · show (mm_cl (some (if lg_cmp a b < 0 then (0 : Int32) else 1, h)) fun v g => some (if v = 0 then (0 : Int64) else 1, g)) = some (if lg_cmp a b < 0 then (0 : Int64) else 1, h)
    rw [q_cl]; by_cases c : lg_cmp a b < 0 <;> simp [c]
  · show (mm_cl (some (if lg_cmp a b ≤ 0 then (0 : Int32) else 1, h)) fun v g => some (if v = 0 then (0 : Int64) else 1, g)) = some (if lg_cmp a b ≤ 0 then (0 : Int64) else 1, h)
    rw [q_cl]; by_cases c : lg_cmp a b ≤ 0 <;> simp [c]
  · rfl
  · rfl
theorem cm_01 {o : Nat} (h : o = 7 ∨ o = 8 ∨ o = 9 ∨ o = 10 ∨ o = 11) (a b : Int64) : cmV o a b = 0 ∨ cmV o a b = 1 := by
  rcases h with rfl | rfl | rfl | rfl | rfl
  · rw [show cmV 7 a b = if 0 ≤ lg_cmp a b then 0 else 1 from rfl]; by_cases c : 0 ≤ lg_cmp a b <;> simp [c]
  · rw [show cmV 8 a b = if 0 < lg_cmp a b then 0 else 1 from rfl]; by_cases c : 0 < lg_cmp a b <;> simp [c]
  · rw [show cmV 9 a b = if ¬ lg_cmp a b = 0 then 0 else 1 from rfl]; by_cases c : lg_cmp a b = 0 <;> simp [c]
  · rw [show cmV 10 a b = if lg_cmp a b < 0 then 0 else 1 from rfl]; by_cases c : lg_cmp a b < 0 <;> simp [c]
  · rw [show cmV 11 a b = if lg_cmp a b ≤ 0 then 0 else 1 from rfl]; by_cases c : lg_cmp a b ≤ 0 <;> simp [c]
theorem bb_01 {x y : Int64} (hx : x = 0 ∨ x = 1) (hy : y = 0 ∨ y = 1) : (x &&& y = 0 ∨ x &&& y = 1) ∧ (x ||| y = 0 ∨ x ||| y = 1) := by
  rcases hx with rfl | rfl <;> rcases hy with rfl | rfl <;> decide
/-- what a step does to the piles: top values s, v the value written -/
theorem stp_0 {v : Nat} : stp 0 v = nI v := rfl
theorem stp_1 {v : Nat} : stp 1 v = -1 - nI v := rfl
theorem neg_neg1 (x : Int32) : (-1 : Int32) - (-1 - x) = x := by
  rw [Int32.sub_eq_add_neg, Int32.neg_sub, Int32.add_comm, Int32.sub_add_cancel]
theorem neg1_lt {t : Nat} (ht : t < 2 ^ 30) : (-1 : Int32) - nI t < 0 := by
  rw [Int32.lt_iff_toInt_lt, Int32.toInt_sub, nI_toInt (by omega)]
  have e1 : (-1 : Int32).toInt = -1 := by decide
  have e0 : (0 : Int32).toInt = 0 := by decide
  rw [e1, e0, Int.bmod_eq_of_le (by omega) (by omega)]
  omega
theorem tok_rng {o : Nat} (ho : isOp o) : 14 ≤ tokOf o ∧ tokOf o ≤ 34 ∧ tokOf o ≠ 20 ∧ stp o 0 = -1 - nI (tokOf o) ∧ (∀ v, stp o v = -1 - nI (tokOf o)) ∧ ¬ o ≤ 1 ∧ o ≠ 14 ∧ o ≤ 13 := by
  rcases ho with rfl | rfl | rfl | rfl | rfl | rfl | rfl | rfl | rfl | rfl <;> exact ⟨by decide, by decide, by decide, rfl, fun _ => rfl, by decide, by decide, by decide⟩
theorem tyStep_inv {o : Nat} {s s' : List Bool} (h : tyStep o s = some s') : (o ≤ 1 ∧ s.length < 80 ∧ s' = false :: s) ∨ (o = 14 ∧ ∃ r, s = true :: r ∧ s' = true :: r) ∨ (isOp o ∧ ∃ a b q c, s = a :: b :: q ∧ s' = c :: q ∧ ((o ≤ 5 ∧ c = false) ∨ ((o = 7 ∨ o = 8 ∨ o = 9 ∨ o = 10 ∨ o = 11) ∧ c = true) ∨ ((o = 12 ∨ o = 13) ∧ a = true ∧ b = true ∧ c = true))) := by
  unfold tyStep at h
  by_cases c1 : o ≤ 1
  · rw [if_pos c1] at h
    by_cases c2 : s.length < 80
    · rw [if_pos c2] at h
      exact Or.inl ⟨c1, c2, (Option.some.inj h).symm⟩
    · rw [if_neg c2] at h; cases h
  · rw [if_neg c1] at h
    by_cases c2 : o = 14
    · rw [if_pos c2] at h
      cases s with
      | nil => cases h
      | cons a r =>
        rw [show ty1 (a :: r) = if a = true then some (true :: r) else none from rfl] at h
        by_cases c3 : a = true
        · rw [if_pos c3] at h
          exact Or.inr (Or.inl ⟨c2, r, by rw [c3], (Option.some.inj h).symm⟩)
        · rw [if_neg c3] at h; cases h
    · rw [if_neg c2] at h
      cases s with
      | nil => cases h
      | cons a r =>
        cases r with
        | nil => cases h
        | cons b q =>
          rw [show ty2 o (a :: b :: q) = if o = 3 ∨ o = 4 ∨ o = 5 then (if (a || b) = true then none else some (false :: q)) else if o = 7 ∨ o = 8 ∨ o = 9 ∨ o = 10 ∨ o = 11 then (if (a || b) = true then none else some (true :: q)) else if o = 12 ∨ o = 13 then (if (a && b) = true then some (true :: q) else none) else none from rfl] at h
          by_cases c3 : o = 3 ∨ o = 4 ∨ o = 5
          · rw [if_pos c3] at h
            by_cases c4 : (a || b) = true
            · rw [if_pos c4] at h; cases h
            · rw [if_neg c4] at h
              exact Or.inr (Or.inr ⟨by unfold isOp; omega, a, b, q, false, rfl, (Option.some.inj h).symm, Or.inl ⟨by omega, rfl⟩⟩)
          · rw [if_neg c3] at h
            by_cases c4 : o = 7 ∨ o = 8 ∨ o = 9 ∨ o = 10 ∨ o = 11
            · rw [if_pos c4] at h
              by_cases c5 : (a || b) = true
              · rw [if_pos c5] at h; cases h
              · rw [if_neg c5] at h
                exact Or.inr (Or.inr ⟨by unfold isOp; omega, a, b, q, true, rfl, (Option.some.inj h).symm, Or.inr (Or.inl ⟨c4, rfl⟩)⟩)
            · rw [if_neg c4] at h
              by_cases c5 : o = 12 ∨ o = 13
              · rw [if_pos c5] at h
                by_cases c6 : (a && b) = true
                · rw [if_pos c6] at h
                  rw [Bool.and_eq_true] at c6
                  exact Or.inr (Or.inr ⟨by unfold isOp; omega, a, b, q, true, rfl, (Option.some.inj h).symm, Or.inr (Or.inr ⟨c5, c6.1, c6.2, rfl⟩)⟩)
                · rw [if_neg c6] at h; cases h
              · rw [if_neg c5] at h; cases h
/-- what a step writes: at p the value v -/
def stW (jf js : Nat → Int64) (o e : Nat) (p : Nat) (v : Int64) : Prop := (o = 0 → v = lN e) ∧ (o = 1 → v = jf e) ∧ (o = 14 → v = 1 - js p) ∧ (isOp o → v = cmV o (js p) (js (p + 1)))
theorem stW.unique {jf js jf' js' : Nat → Int64} {o e p : Nat} {v v' : Int64} (h : stW jf js o e p v) (h' : stW jf' js' o e p v') (ho : o ≤ 1 ∨ o = 14 ∨ isOp o) (e1 : o = 1 → jf e = jf' e) (e2 : (o = 14 ∨ isOp o) → js p = js' p) (e3 : isOp o → js (p + 1) = js' (p + 1)) : v = v' := by
  rcases ho with ho | ho | ho
  · by_cases c : o = 0
    · rw [h.1 c, h'.1 c]
    · have c1 : o = 1 := by omega
      rw [h.2.1 c1, h'.2.1 c1, e1 c1]
  · rw [h.2.2.1 ho, h'.2.2.1 ho, e2 (Or.inl ho)]
  · rw [h.2.2.2 ho, h'.2.2.2 ho, e2 (Or.inr ho), e3 ho]
/-- one step of the class -/
theorem x_step {b1 : Int32} {k c j L : Nat} (S : mS B hx) (kd : mm_kd hx (V 0 k) = 5) (F : mLrf B ow hx V Z k) (hb : b1 = nI c) (hc : c < Z 0 k) (hc9 : Z 0 k ≤ 10) (e1 : mm_i hx (V 2 k) (c + 1) = nI L) (hj : j < L) (hL : L ≤ Z 1 k) (h4 : Z 1 k ≤ 400) (M : mm_i hx (V 3 k) j = stp (G k j) (E k j)) (M0 : G k j = 0 → E k j ≤ 99999) (M1 : G k j = 1 → E k j < 14) {s s' : List Bool} (ht : tyStep (G k j) s = some s') (hs : s.length ≤ 80) : ∃ p v, (∀ (K : Int32 → mm_H → Option (Int32 × mm_H)) (f : Nat), fX4_isTrue_L11 (V 0 k) b1 (B + 15) (B + 16) K (f + 1) (nI s.length) (nI j) hx = fX4_isTrue_L11 (V 0 k) b1 (B + 15) (B + 16) K f (nI s'.length) (nI (j + 1)) (mm_setJ hx (B + 16) p v)) ∧ s'.length ≤ 80 ∧ p + 1 = s'.length ∧ stW (mm_j hx (B + 15)) (mm_j hx (B + 16)) (G k j) (E k j) p v := by
  obtain ⟨⟨r1, r2, r3⟩, -, ⟨k1, k2, k3⟩, n1, n2, n3⟩ := F
  have hqc := fun (β : Type) (z : Option β) => q_ckx (show c + 1 < Z 0 k + 1 by omega) (by omega) z
  have hcc := nI_clamp (n := c + 1) (by omega)
  have hqj := fun (β : Type) (z : Option β) => q_ckx (show j < Z 1 k by omega) (by omega) z
  have hcj := nI_clamp (n := j) (by omega)
  have g1 : ¬ nI L ≤ nI j := nI_ge hj (by omega)
  have g2 : ¬ nI (Z 1 k) ≤ nI j := nI_ge (by omega) (by omega)
  obtain ⟨w, hw⟩ : ∃ w, w = stp (G k j) (E k j) := ⟨_, rfl⟩
  obtain ⟨u, hu⟩ : ∃ u, (-1 : Int32) - w = u := ⟨_, rfl⟩
  rcases tyStep_inv ht with ⟨o1, o2, rfl⟩ | ⟨o1, r, rfl, rfl⟩ | ⟨o1, a9, b9, q, c9, rfl, rfl, -⟩
  · have hlt : nI s.length < nI 80 := nI_lt o2 (by omega)
    have hqs := fun (β : Type) (z : Option β) => q_ckx o2 (by omega) z
    have hcs := nI_clamp (n := s.length) (by omega)
    by_cases o0 : G k j = 0
    · have hv : w = nI (E k j) := by rw [hw, o0]; rfl
      have v0 : 0 ≤ w := by rw [hv]; exact nI_pos' (by have := M0 o0; omega)
      have v1 : ¬ w < 0 := Int32.not_lt.mpr v0
      have v2 : w.toInt64 = lN (E k j) := by rw [hv]; exact nI_l (by have := M0 o0; omega)
      refine ⟨s.length, lN (E k j), fun K f => ?_, by simp; omega, rfl, fun _ => rfl, fun z => by omega, fun z => by omega, fun z => by have := (tok_rng z).2.2.2.2.2.1; omega⟩
      show fX4_isTrue_L11_b (V 0 k) b1 (B + 15) (B + 16) K (fX4_isTrue_L11 (V 0 k) b1 (B + 15) (B + 16) K f) _ (nI j) hx = _
      unfold fX4_isTrue_L11_b
      rw [hb, nI_1, q_ck kd, r2, q_rf, q_ck k2, n2, hqc, hcc, e1, if_neg g1, r3, q_rf, q_ck k3, n3, if_neg g2, hqj, hcj, M, ← hw]
      simp only [hu, p_jn, p_lt, q_ck, sb_xcourt S, v0, v1, v2, hlt, hqs, hcs, nI_1, if_true, if_false, List.length_cons]
    · have o0' : G k j = 1 := by omega
      have ht14 := M1 o0'
      have hv : w = -1 - nI (E k j) := by rw [hw, o0']; rfl
      have v1 : w < 0 := by rw [hv]; exact neg1_lt (t := E k j) (by omega)
      have v0 : ¬ 0 ≤ w := Int32.not_le.mpr v1
      have hu2 : u = nI (E k j) := by rw [← hu, hv, neg_neg1]
      have v3 : ¬ (14 : Int32) ≤ nI (E k j) := nI_ge (b := 14) ht14 (by omega)
      have hqt := fun (β : Type) (z : Option β) => q_ckx ht14 (by omega) z
      have hct := nI_clamp (n := E k j) (by omega)
      refine ⟨s.length, mm_j hx (B + 15) (E k j), fun K f => ?_, by simp; omega, rfl, fun z => by omega, fun _ => rfl, fun z => by omega, fun z => by have := (tok_rng z).2.2.2.2.2.1; omega⟩
      show fX4_isTrue_L11_b (V 0 k) b1 (B + 15) (B + 16) K (fX4_isTrue_L11 (V 0 k) b1 (B + 15) (B + 16) K f) _ (nI j) hx = _
      unfold fX4_isTrue_L11_b
      rw [hb, nI_1, q_ck kd, r2, q_rf, q_ck k2, n2, hqc, hcc, e1, if_neg g1, r3, q_rf, q_ck k3, n3, if_neg g2, hqj, hcj, M, ← hw]
      simp only [hu, hu2, p_jn, p_lt, q_ck, sb_xcourt S, v0, v1, v3, hlt, hqs, hcs, hqt, hct, nI_1, if_true, if_false, List.length_cons]
  · have hv : w = -1 - nI 20 := by rw [hw, o1]; rfl
    have v1 : w < 0 := by rw [hv]; exact neg1_lt (t := 20) (by omega)
    have v0 : ¬ 0 ≤ w := Int32.not_le.mpr v1
    have hu2 : u = nI 20 := by rw [← hu, hv, neg_neg1]
    have v3 : (14 : Int32) ≤ u := by rw [hu2]; exact nI_le (a := 14) (by omega) (by omega)
    have v4 : (u = 20) = True := eq_true (by rw [hu2]; decide +kernel)
    have v5 : ¬ nI (r.length + 1) < 1 := nI_nlt (b := 1) (by omega) (by simp at hs; omega)
    have hlr : r.length < 80 := by simp at hs; omega
    have hqs := fun (β : Type) (z : Option β) => q_ckx hlr (by omega) z
    have hcs := nI_clamp (n := r.length) (by omega)
    refine ⟨r.length, 1 - mm_j hx (B + 16) r.length, fun K f => ?_, hs, rfl, fun z => by omega, fun z => by omega, fun _ => rfl, fun z => by have := (tok_rng z).2.2.2.2.2.2.1; omega⟩
    show fX4_isTrue_L11_b (V 0 k) b1 (B + 15) (B + 16) K (fX4_isTrue_L11 (V 0 k) b1 (B + 15) (B + 16) K f) _ (nI j) hx = _
    unfold fX4_isTrue_L11_b
    rw [hb, nI_1, q_ck kd, r2, q_rf, q_ck k2, n2, hqc, hcc, e1, if_neg g1, r3, q_rf, q_ck k3, n3, if_neg g2, hqj, hcj, M, ← hw]
    simp only [List.length_cons, hu, p_jn, p_lt, q_ck, sb_xcourt S, v0, v3, v4, v5, hqs, hcs, nI_1, nI_pred, not_true, if_true, if_false]
  · obtain ⟨t1, t2, t3, t4, t5, t6, t7, t8⟩ := tok_rng o1
    have hv : w = -1 - nI (tokOf (G k j)) := hw.trans (t5 _)
    have v1 : w < 0 := by rw [hv]; exact neg1_lt (t := tokOf (G k j)) (by omega)
    have v0 : ¬ 0 ≤ w := Int32.not_le.mpr v1
    have hu2 : u = nI (tokOf (G k j)) := by rw [← hu, hv, neg_neg1]
    have v3 : (14 : Int32) ≤ u := by rw [hu2]; exact nI_le (a := 14) t1 (by omega)
    have v4 : ¬ u = 20 := fun z => t3 ((nI_eq (b := 20) (by omega) (by omega)).mp (hu2.symm.trans z))
    have xc := x_combine (h := hx) o1 (mm_j hx (B + 16) q.length) (mm_j hx (B + 16) (q.length + 1))
    rw [← hu2] at xc
    have hl : q.length + 2 ≤ 80 := by simp at hs; omega
    have v5 : ¬ nI (q.length + 1 + 1) < 2 := nI_nlt (b := 2) (by omega) (by omega)
    have hqs := fun (β : Type) (z : Option β) => q_ckx (show q.length < 80 by omega) (by omega) z
    have hcs := nI_clamp (n := q.length) (by omega)
    have hqs1 := fun (β : Type) (z : Option β) => q_ckx (show q.length + 1 < 80 by omega) (by omega) z
    have hcs1 := nI_clamp (n := q.length + 1) (by omega)
    refine ⟨q.length, cmV (G k j) (mm_j hx (B + 16) q.length) (mm_j hx (B + 16) (q.length + 1)), fun K f => ?_, by simp; omega, rfl, fun z => by omega, fun z => by omega, fun z => by omega, fun _ => rfl⟩
    show fX4_isTrue_L11_b (V 0 k) b1 (B + 15) (B + 16) K (fX4_isTrue_L11 (V 0 k) b1 (B + 15) (B + 16) K f) _ (nI j) hx = _
    unfold fX4_isTrue_L11_b
    rw [hb, nI_1, q_ck kd, r2, q_rf, q_ck k2, n2, hqc, hcc, e1, if_neg g1, r3, q_rf, q_ck k3, n3, if_neg g2, hqj, hcj, M, ← hw]
    simp only [List.length_cons, hu, p_jn, p_lt, q_ck, p_cl, sb_xcourt S, v0, v3, v4, v5, hqs, hcs, hqs1, hcs1, nI_1, nI_m1, nI_pred, xc, not_false_iff, if_true, if_false]

/-- one step of the reference -/
theorem y_step {b1 : Int32} {k c j L : Nat} (S : mS B hy) (hk : k < 30) (hc : c < 10) (hb : b1 = nI (10 * k + c)) (e1 : mm_i hy (B + 86) (10 * k + c) = nI L) (hj : j < L) (hL : L ≤ 400) (M : mm_i hy (B + 87) (400 * k + j) = nI (G k j)) (M2 : G k j ≤ 1 → mm_i hy (B + 88) (400 * k + j) = nI (E k j)) (M0 : G k j = 0 → E k j ≤ 99999) (M1 : G k j = 1 → E k j < 14) {s s' : List Bool} (ht : tyStep (G k j) s = some s') (hs : s.length ≤ 80) : ∃ p v, (∀ (K : mm_H → Option (Int32 × mm_H)) (f : Nat), fX12_isTrue_L15 (B + 66) b1 (nI k) K (f + 1) (nI s.length) (nI j) hy = fX12_isTrue_L15 (B + 66) b1 (nI k) K f (nI s'.length) (nI (j + 1)) (mm_setJ hy (B + 90) p v)) ∧ p + 1 = s'.length ∧ stW (mm_j hy (B + 91)) (mm_j hy (B + 90)) (G k j) (E k j) p v := by
  have hqc := fun (β : Type) (z : Option β) => q_ckx (show 10 * k + c < 300 by omega) (by omega) z
  have hcc := nI_clamp (n := 10 * k + c) (by omega)
  have hqj := fun (β : Type) (z : Option β) => q_ckx (show 400 * k + j < 12000 by omega) (by omega) z
  have hcj := nI_clamp (n := 400 * k + j) (by omega)
  have q400 : (400 : Int32) * nI k + nI j = nI (400 * k + j) := by
    rw [show (400 : Int32) = nI 400 by decide +kernel, nI_mul, nI_add]
  have g1 : ¬ nI L ≤ nI j := nI_ge hj (by omega)
  obtain ⟨z1, z2, z3, z4⟩ : (mm_kd hy (B + 66) = 13 ∧ mm_r hy (B + 66) 30 = some (B + 86) ∧ mm_kd hy (B + 86) = 14 ∧ mm_n hy (B + 86) = 300) ∧ (mm_r hy (B + 66) 31 = some (B + 87) ∧ mm_kd hy (B + 87) = 14 ∧ mm_n hy (B + 87) = 12000) ∧ (mm_r hy (B + 66) 32 = some (B + 88) ∧ mm_kd hy (B + 88) = 14 ∧ mm_n hy (B + 88) = 12000) ∧ mm_r hy (B + 66) 36 = some (B + 90) ∧ mm_kd hy (B + 90) = 15 ∧ mm_n hy (B + 90) = 400 := ⟨⟨sk66 S, sr66_30 S, sk86 S, sn86 S⟩, ⟨sr66_31 S, sk87 S, sn87 S⟩, ⟨sr66_32 S, sk88 S, sn88 S⟩, sr66_36 S, sk90 S, sn90 S⟩
  rcases tyStep_inv ht with ⟨o1, o2, rfl⟩ | ⟨o1, r, rfl, rfl⟩ | ⟨o1, a9, b9, q, c9, rfl, rfl, -⟩
  · have hqs := fun (β : Type) (z : Option β) => q_ckx (show s.length < 400 by omega) (by omega) z
    have hcs := nI_clamp (n := s.length) (by omega)
    by_cases o0 : G k j = 0
    · have v2 := nI_l (n := E k j) (by have := M0 o0; omega)
      have e0 : (nI (G k j) = 0) = True := eq_true (by rw [o0]; exact nI_0)
      refine ⟨s.length, lN (E k j), fun K f => ?_, rfl, fun _ => rfl, fun z => by omega, fun z => by omega, fun z => by have := (tok_rng z).2.2.2.2.2.1; omega⟩
      show fX12_isTrue_L15_b (B + 66) b1 (nI k) K (fX12_isTrue_L15 (B + 66) b1 (nI k) K f) _ (nI j) hy = _
      unfold fX12_isTrue_L15_b
      rw [hb, q400, q_ck z1.1, z1.2.1, q_rf, q_ck z1.2.2.1, z1.2.2.2, hqc, hcc, e1, if_neg g1, z2.1, q_rf, q_ck z2.2.1, z2.2.2, hqj]
      simp only [hcj, M, M2 o1, z3, hqj, p_jn, p_lt, q_ck, p_rf, z4, v2, e0, hqs, hcs, nI_1, not_true, if_true, if_false, List.length_cons]
    · have o0' : G k j = 1 := by omega
      have ht14 := M1 o0'
      have e0 : (nI (G k j) = 0) = False := eq_false (by rw [o0']; decide +kernel)
      have e2 : (nI (G k j) = 1) = True := eq_true (by rw [o0']; decide +kernel)
      have hqt := fun (β : Type) (z : Option β) => q_ckx ht14 (by omega) z
      have hct := nI_clamp (n := E k j) (by omega)
      refine ⟨s.length, mm_j hy (B + 91) (E k j), fun K f => ?_, rfl, fun z => by omega, fun _ => rfl, fun z => by omega, fun z => by have := (tok_rng z).2.2.2.2.2.1; omega⟩
      show fX12_isTrue_L15_b (B + 66) b1 (nI k) K (fX12_isTrue_L15 (B + 66) b1 (nI k) K f) _ (nI j) hy = _
      unfold fX12_isTrue_L15_b
      rw [hb, q400, q_ck z1.1, z1.2.1, q_rf, q_ck z1.2.2.1, z1.2.2.2, hqc, hcc, e1, if_neg g1, z2.1, q_rf, q_ck z2.2.1, z2.2.2, hqj]
      simp only [hcj, M, M2 o1, z3, hqj, p_jn, p_lt, q_ck, p_rf, z4, sr66_37 S, sk91 S, sn91 S, e0, e2, hqs, hcs, hqt, hct, nI_1, not_true, not_false_iff, if_true, if_false, List.length_cons]
  · have e0 : (nI (G k j) = 0) = False := eq_false (by rw [o1]; decide +kernel)
    have e2 : (nI (G k j) = 1) = False := eq_false (by rw [o1]; decide +kernel)
    have e3 : (nI (G k j) = 14) = True := eq_true (by rw [o1]; decide +kernel)
    have hlr : r.length < 80 := by simp at hs; omega
    have hqs := fun (β : Type) (z : Option β) => q_ckx (show r.length < 400 by omega) (by omega) z
    have hcs := nI_clamp (n := r.length) (by omega)
    refine ⟨r.length, 1 - mm_j hy (B + 90) r.length, fun K f => ?_, rfl, fun z => by omega, fun z => by omega, fun _ => rfl, fun z => by have := (tok_rng z).2.2.2.2.2.2.1; omega⟩
    show fX12_isTrue_L15_b (B + 66) b1 (nI k) K (fX12_isTrue_L15 (B + 66) b1 (nI k) K f) _ (nI j) hy = _
    unfold fX12_isTrue_L15_b
    rw [hb, q400, q_ck z1.1, z1.2.1, q_rf, q_ck z1.2.2.1, z1.2.2.2, hqc, hcc, e1, if_neg g1, z2.1, q_rf, q_ck z2.2.1, z2.2.2, hqj]
    simp only [List.length_cons, hcj, M, z3, hqj, p_jn, p_lt, q_ck, p_rf, z4, e0, e2, e3, hqs, hcs, nI_1, nI_pred, not_true, not_false_iff, if_true, if_false]
  · obtain ⟨t1, t2, t3, t4, t5, t6, t7, t8⟩ := tok_rng o1
    have e0 : (nI (G k j) = 0) = False := eq_false fun z => by have := (nI_eq (b := 0) (show G k j < 2 ^ 31 by omega) (by omega)).mp (z.trans nI_0.symm); omega
    have e2 : (nI (G k j) = 1) = False := eq_false fun z => by have := (nI_eq (b := 1) (show G k j < 2 ^ 31 by omega) (by omega)).mp z; omega
    have e3 : (nI (G k j) = 14) = False := eq_false fun z => by have := (nI_eq (b := 14) (show G k j < 2 ^ 31 by omega) (by omega)).mp z; omega
    have hl : q.length + 2 ≤ 80 := by simp at hs; omega
    have hqs := fun (β : Type) (z : Option β) => q_ckx (show q.length < 400 by omega) (by omega) z
    have hcs := nI_clamp (n := q.length) (by omega)
    have hqs1 := fun (β : Type) (z : Option β) => q_ckx (show q.length + 1 < 400 by omega) (by omega) z
    have hcs1 := nI_clamp (n := q.length + 1) (by omega)
    refine ⟨q.length, cmV (G k j) (mm_j hy (B + 90) q.length) (mm_j hy (B + 90) (q.length + 1)), fun K f => ?_, rfl, fun z => by omega, fun z => by omega, fun z => by omega, fun _ => rfl⟩
    show fX12_isTrue_L15_b (B + 66) b1 (nI k) K (fX12_isTrue_L15 (B + 66) b1 (nI k) K f) _ (nI j) hy = _
    unfold fX12_isTrue_L15_b
    rw [hb, q400, q_ck z1.1, z1.2.1, q_rf, q_ck z1.2.2.1, z1.2.2.2, hqc, hcc, e1, if_neg g1, z2.1, q_rf, q_ck z2.2.1, z2.2.2, hqj]
    simp only [List.length_cons, hcj, M, z3, hqj, p_jn, p_lt, q_ck, p_rf, p_cl, z4, e0, e2, e3, hqs, hcs, hqs1, hcs1, nI_1, nI_m1, nI_pred, y_joins o1, not_false_iff, if_true, if_false]
end IV
