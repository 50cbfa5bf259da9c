/-! a law's rows, told by place -/
def gdF (cs : List (Nat × Nat)) (j : Nat) : Nat × Nat := cs.reverse.getD j (0, 0)
def sgS : List (List (Nat × Nat)) → Nat → Nat
  | [], _ => 0
  | s :: r, c => if c ≤ r.length then sgS r c else (s ++ r.flatten).length
section KW
variable {B : Nat} {h hx hy hx' hy' : mm_H} {L : Nat}
theorem gd_old {x : Nat × Nat} {r : List (Nat × Nat)} {j : Nat} (hj : j < r.length) : gdF (x :: r) j = gdF r j := by
  unfold gdF
  rw [List.reverse_cons]
  simp only [List.getD_eq_getElem?_getD]
  rw [List.getElem?_append_left (by rw [List.length_reverse]; exact hj)]
theorem gd_new {x : Nat × Nat} {r : List (Nat × Nat)} : gdF (x :: r) r.length = x := by
  unfold gdF
  rw [List.reverse_cons]
  simp only [List.getD_eq_getElem?_getD]
  rw [List.getElem?_append_right (by rw [List.length_reverse]; exact Nat.le_refl _), List.length_reverse, Nat.sub_self]
  rfl
theorem gd_app {s r : List (Nat × Nat)} {j : Nat} (hj : j < r.length) : gdF (s ++ r) j = gdF r j := by
  induction s with
  | nil => rfl
  | cons x s ih => rw [List.cons_append, gd_old (by rw [List.length_append]; omega), ih]
theorem gd_app2 {s r : List (Nat × Nat)} : ∀ {t : Nat}, t < s.length → gdF (s ++ r) (r.length + t) = gdF s t := by
  induction s with
  | nil => intro t ht; cases ht
  | cons x s ih =>
    intro t ht
    rw [List.length_cons] at ht
    by_cases e : t = s.length
    · rw [e, gd_new, List.cons_append, show r.length + s.length = (s ++ r).length by rw [List.length_append]; omega, gd_new]
    · rw [List.cons_append, gd_old (by rw [List.length_append]; omega), ih (by omega), gd_old (by omega)]
theorem gd_mem {cs : List (Nat × Nat)} {j : Nat} (hj : j < cs.length) : gdF cs j ∈ cs := by
  induction cs with
  | nil => cases hj
  | cons x r ih =>
    rw [List.length_cons] at hj
    by_cases e : j = r.length
    · rw [e, gd_new]; exact List.mem_cons.mpr (Or.inl rfl)
    · rw [gd_old (by omega)]; exact List.mem_cons.mpr (Or.inr (ih (by omega)))
theorem cdx_at : ∀ {cs : List (Nat × Nat)}, cdx B hx cs → ∀ j, j < cs.length → mm_i hx (B + 10) j = stp (gdF cs j).1 (gdF cs j).2 := by
  intro cs
  induction cs with
  | nil => intro _ j hj; cases hj
  | cons x r ih =>
    intro h j hj
    rw [List.length_cons] at hj
    by_cases e : j = r.length
    · rw [e, gd_new]; exact h.1
    · rw [gd_old (by omega)]; exact ih h.2 j (by omega)
theorem cdy_at : ∀ {cs : List (Nat × Nat)}, cdy B hy L cs → ∀ j, j < cs.length → mm_i hy (B + 87) (400 * L + j) = nI (gdF cs j).1 ∧ ((gdF cs j).1 ≤ 1 → mm_i hy (B + 88) (400 * L + j) = nI (gdF cs j).2) := by
  intro cs
  induction cs with
  | nil => intro _ j hj; cases hj
  | cons x r ih =>
    intro h j hj
    rw [List.length_cons] at hj
    by_cases e : j = r.length
    · rw [e, gd_new]; exact h.1
    · rw [gd_old (by omega)]; exact ih h.2 j (by omega)
theorem tyRun_snoc {f : Nat → Nat} : ∀ {e i : Nat} {s : List Bool}, tyRun f (e + 1) i s = match tyRun f e i s with
    | none => none
    | some s' => tyStep (f (i + e)) s' := by
  intro e
  induction e with
  | zero =>
    intro i s
    simp only [tyRun]
    rw [Nat.add_zero]
    cases tyStep (f i) s <;> rfl
  | succ e ih =>
    intro i s
    have h1 : tyRun f (e + 1 + 1) i s = match tyStep (f i) s with
        | none => none
        | some s' => tyRun f (e + 1) (i + 1) s' := rfl
    have h2 : tyRun f (e + 1) i s = match tyStep (f i) s with
        | none => none
        | some s' => tyRun f e (i + 1) s' := rfl
    rw [h1, h2]
    cases tyStep (f i) s with
    | none => rfl
    | some s' =>
      show tyRun f (e + 1) (i + 1) s' = _
      rw [ih, show i + 1 + e = i + (e + 1) by omega]
theorem tyRun_L : ∀ {s : List (Nat × Nat)} {f : Nat → Nat} {i : Nat}, (∀ t, t < s.length → f (i + t) = (gdF s t).1) → tyRun f s.length i [] = tyL s := by
  intro s
  induction s with
  | nil => intro f i _; rfl
  | cons x r ih =>
    intro f i h
    rw [List.length_cons, tyRun_snoc, ih (fun t ht => by rw [h t (by rw [List.length_cons]; omega), gd_old ht]), h r.length (by rw [List.length_cons]; omega), gd_new]
    rfl
theorem tyRun_cg {f f' : Nat → Nat} : ∀ {e i : Nat} {s : List Bool}, (∀ t, i ≤ t → t < i + e → f t = f' t) → tyRun f e i s = tyRun f' e i s := by
  intro e
  induction e with
  | zero => intro i s _; rfl
  | succ e ih =>
    intro i s h
    simp only [tyRun]
    rw [h i (Nat.le_refl _) (by omega)]
    cases tyStep (f' i) s with
    | none => rfl
    | some s' => exact ih fun t h1 h2 => h t (by omega) (by omega)
theorem sgS_0 : ∀ {g : List (List (Nat × Nat))}, sgS g 0 = 0 := by
  intro g
  induction g with
  | nil => rfl
  | cons s r ih => simp only [sgS]; rw [if_pos (Nat.zero_le _), ih]
theorem sgS_all : ∀ {g : List (List (Nat × Nat))}, sgS g g.length = g.flatten.length := by
  intro g
  cases g with
  | nil => rfl
  | cons s r => simp only [sgS]; rw [List.length_cons, if_neg (by omega)]; rfl
theorem sgS_le : ∀ {g : List (List (Nat × Nat))} {c : Nat}, sgS g c ≤ g.flatten.length ∧ (c < g.length → sgS g c ≤ sgS g (c + 1)) := by
  intro g
  induction g with
  | nil => intro c; exact ⟨Nat.le_refl _, fun h => by cases h⟩
  | cons s r ih =>
    intro c
    have hf : (s :: r).flatten.length = s.length + r.flatten.length := by
      show (s ++ r.flatten).length = _
      exact List.length_append
    simp only [sgS]
    refine ⟨?_, fun hc => ?_⟩
    · split
      · have := (ih (c := c)).1; omega
      · rw [hf, List.length_append]; exact Nat.le_refl _
    · rw [List.length_cons] at hc
      rw [if_pos (by omega)]
      by_cases e : c + 1 ≤ r.length
      · rw [if_pos e]; exact (ih (c := c)).2 (by omega)
      · rw [if_neg e, List.length_append]
        have := (ih (c := c)).1; omega
theorem clD_at : ∀ {g : List (List (Nat × Nat))}, clD B hx hy L g → ∀ c, c < g.length → mm_i hy (B + 84) (10 * L + c) = mm_i hx (B + 11) c ∧ mm_i hx (B + 12) (c + 1) = nI (sgS g (c + 1)) ∧ mm_i hy (B + 85) (10 * L + c) = nI (sgS g c) ∧ mm_i hy (B + 86) (10 * L + c) = nI (sgS g (c + 1)) ∧ tyRun (fun j => (gdF g.flatten j).1) (sgS g (c + 1) - sgS g c) (sgS g c) [] = some [true] := by
  intro g
  induction g with
  | nil => intro _ c hc; cases hc
  | cons s r ih =>
    intro h c hc
    obtain ⟨⟨h1, h2, h3, h4, h5⟩, h6⟩ := h
    rw [List.length_cons] at hc
    have hf : (s :: r).flatten = s ++ r.flatten := rfl
    by_cases e : c = r.length
    · subst e
      have e1 : sgS (s :: r) r.length = r.flatten.length := by simp only [sgS]; rw [if_pos (Nat.le_refl _), sgS_all]
      have e2 : sgS (s :: r) (r.length + 1) = (s ++ r.flatten).length := by simp only [sgS]; rw [if_neg (by omega)]
      rw [e1, e2, hf]
      refine ⟨h1, h2, h3, h4, ?_⟩
      rw [show (s ++ r.flatten).length - r.flatten.length = s.length by rw [List.length_append]; omega, tyRun_L (fun t ht => by show (gdF (s ++ r.flatten) (r.flatten.length + t)).1 = _; rw [gd_app2 ht])]
      exact h5
    · have e1 : sgS (s :: r) c = sgS r c := by simp only [sgS]; rw [if_pos (by omega)]
      have e2 : sgS (s :: r) (c + 1) = sgS r (c + 1) := by simp only [sgS]; rw [if_pos (by omega)]
      rw [e1, e2, hf]
      obtain ⟨i1, i2, i3, i4, i5⟩ := ih h6 c (by omega)
      refine ⟨i1, i2, i3, i4, ?_⟩
      rw [← i5]
      refine tyRun_cg fun t h1 h2 => ?_
      have h3 := (sgS_le (g := r) (c := c + 1)).1
      have h4 := (sgS_le (g := r) (c := c)).2 (by omega)
      rw [gd_app (by omega)]
theorem i_cp0 {h : mm_H} {b j a0 a m : Nat} : mm_i (mm_cpI h a0 0 a 0 m) b j = if b = a ∧ j < m then mm_i h a0 j else mm_i h b j := by
  show (if b = a then va_cpy (mm_i h a0) (mm_i h a) 0 0 m j else mm_i h b j) = _
  by_cases e1 : b = a
  · subst e1
    by_cases e2 : j < m
    · rw [if_pos rfl, if_pos ⟨rfl, e2⟩]; unfold va_cpy; rw [if_pos (by omega)]; congr 1; omega
    · rw [if_pos rfl, if_neg (fun z => e2 z.2)]; unfold va_cpy; rw [if_neg (by omega)]
  · rw [if_neg e1, if_neg (fun z => e1 z.1)]
theorem mX.Cp {W : Nat → Nat → Prop} {h h' : mm_H} {a0 a m : Nat} (x : mX B W h h') (ha : mm_sz h ≤ a) : mX B W h (mm_cpI h' a0 0 a 0 m) := by
  refine ⟨x.1, x.2.1, fun b k hb => ⟨fun w => ?_, (x.2.2 b k hb).2⟩⟩
  obtain ⟨y1, y2, y3⟩ := (x.2.2 b k hb).1 w
  exact ⟨by rw [i_cp0, if_neg (fun z => by omega)]; exact y1, y2, y3⟩
end KW
