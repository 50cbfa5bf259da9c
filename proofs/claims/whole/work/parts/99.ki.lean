/-! the class reads: small steps -/
def cdx (B : Nat) (h : mm_H) : List (Nat × Nat) → Prop
  | [] => True
  | x :: r => mm_i h (B + 10) r.length = stp x.1 x.2 ∧ cdx B h r
def xS (B : Nat) (h : mm_H) (t : Nat → Int32) (n m i c : Nat) (cs : List (Nat × Nat)) : Prop := (mS B h ∧ tA B h t n (m + 1) ∧ mm_i h (B + 5) 5 = nI (m + 1) ∧ m ≤ 400 ∧ plF t n m = n ∧ (∀ j, j < m → plF t n j < n) ∧ n ≤ 400) ∧ (mm_i h (B + 5) 6 = nI i ∧ i ≤ m) ∧ mm_i h (B + 5) 7 = nI c ∧ mm_i h (B + 5) 10 = nI cs.length ∧ cdx B h cs ∧ mm_i h (B + 5) 8 = 0
def wPx (B : Nat) : Nat → Nat → Prop := fun x i => x = B + 10 ∨ (x = B + 5 ∧ (i = 6 ∨ i = 7 ∨ i = 8 ∨ i = 10))
/-- of what kind the values are that steps leave -/
def tyL : List (Nat × Nat) → Option (List Bool)
  | [] => some []
  | x :: r => match tyL r with
    | none => none
    | some s => tyStep x.1 s
def okC (x : Nat × Nat) : Prop := (x.1 = 0 → x.2 ≤ 99999) ∧ (x.1 = 1 → x.2 < 14) ∧ x.1 ≤ 14
def tyN (new : List (Nat × Nat)) (c c' : Nat) (out : Bool) : Prop := (∀ seg s, tyL seg = some s → s.length ≤ c → tyL (new ++ seg) = some (out :: s)) ∧ (∀ x, x ∈ new → okC x) ∧ c < c'
section KK
variable {B : Nat} {h h' : mm_H} {t : Nat → Int32} {n m i c : Nat} {cs : List (Nat × Nat)}
theorem cdx_cg : ∀ {cs : List (Nat × Nat)}, (∀ k, k < cs.length → mm_i h' (B + 10) k = mm_i h (B + 10) k) → cdx B h cs → cdx B h' cs := by
  intro cs
  induction cs with
  | nil => intro _ _; trivial
  | cons x r ih =>
    intro e st
    obtain ⟨s1, s3⟩ := st
    exact ⟨by rw [e r.length (by rw [List.length_cons]; omega)]; exact s1, ih (fun k hk => e k (by rw [List.length_cons]; omega)) s3⟩
theorem xS.mk' {i' c' : Nat} {cs' : List (Nat × Nat)} (X : xS B h t n m i c cs) (x : mX B (wPx B) h h') (e6 : mm_i h' (B + 5) 6 = nI i') (hi : i' ≤ m) (e7 : mm_i h' (B + 5) 7 = nI c') (e10 : mm_i h' (B + 5) 10 = nI cs'.length) (ec : cdx B h' cs') (e8 : mm_i h' (B + 5) 8 = 0) : xS B h' t n m i' c' cs' := by
  obtain ⟨⟨a1, a2, a3, a4⟩, -⟩ := X
  have hB := x.1.2.2
  exact ⟨⟨x.S a1, fun j hj => by rw [x.i (by omega) (by unfold wPx; omega), x.i (by omega) (by unfold wPx; omega), x.i (by omega) (by unfold wPx; omega)]; exact a2 j hj, by rw [x.i (by omega) (by unfold wPx; omega)]; exact a3, a4⟩, ⟨e6, hi⟩, e7, e10, ec, e8⟩
theorem x_goOn (X : xS B h t n m i c cs) (hi : i < m) : ∃ h', fX5_goOn (B + 5) h = some ((), h') ∧ mX B (wPx B) h h' ∧ xS B h' t n m (i + 1) c cs := by
  obtain ⟨⟨S, a2, a3, a4, a5⟩, ⟨b1, b2⟩, b3, b4, b5⟩ := id X
  obtain ⟨g, e⟩ : ∃ g, g = mm_setI h (B + 5) 6 (nI (i + 1)) := ⟨_, rfl⟩
  have x : mX B (wPx B) h g := by rw [e]; exact (mX.rf (W := wPx B) S.1).I (Or.inl (by unfold wPx; omega))
  have k : ∀ j, j ≠ 6 → mm_i g (B + 5) j = mm_i h (B + 5) j := fun j hj => by rw [e, i_I, if_neg (fun z => hj z.2)]
  refine ⟨g, ?_, x, X.mk' x (by rw [e, i_I_eq]) (by omega) (by rw [k _ (by omega)]; exact b3) (by rw [k _ (by omega)]; exact b4) (cdx_cg (fun j _ => by rw [e, i_I_ne (by omega)]) b5.1) (by rw [k _ (by omega)]; exact b5.2)⟩
  unfold fX5_goOn
  rw [q_ck (sk5 S), a3, b1, nI_1, if_neg (nI_ge (show i + 1 < m + 1 by omega) (by omega)), ← e, p_lt]
theorem x_emit (X : xS B h t n m i c cs) (hc : cs.length < 400) {o w : Nat} {v : Int32} (hv : v = stp o w) : ∃ h', fX5_emit (B + 5) v h = some ((), h') ∧ mX B (wPx B) h h' ∧ xS B h' t n m i c ((o, w) :: cs) := by
  obtain ⟨⟨S, a2, a3, a4, a5⟩, ⟨b1, b2⟩, b3, b4, b5⟩ := id X
  have hq := fun (β : Type) (z : Option β) => q_ckx hc (by decide) z
  obtain ⟨g1, e1⟩ : ∃ g, g = mm_setI h (B + 10) cs.length v := ⟨_, rfl⟩
  obtain ⟨g2, e2⟩ : ∃ g, g = mm_setI g1 (B + 5) 10 (nI (cs.length + 1)) := ⟨_, rfl⟩
  have x : mX B (wPx B) h g2 := by rw [e2, e1]; exact ((mX.rf (W := wPx B) S.1).I (Or.inl (by unfold wPx; omega))).I (Or.inl (by unfold wPx; omega))
  have k : ∀ j, j ≠ 10 → mm_i g2 (B + 5) j = mm_i h (B + 5) j := fun j hj => by rw [e2, i_I, if_neg (fun z => hj z.2), e1, i_I_ne (by omega)]
  refine ⟨g2, ?_, x, X.mk' x (by rw [k _ (by omega)]; exact b1) b2 (by rw [k _ (by omega)]; exact b3) (by rw [e2, i_I_eq, List.length_cons]) ⟨by rw [e2, i_I_ne (by omega), e1, i_I_eq]; exact hv, cdx_cg (fun j hj => by rw [e2, i_I_ne (by omega), e1, i_I, if_neg (fun z => by omega)]) b5.1⟩ (by rw [k _ (by omega)]; exact b5.2)⟩
  have v10 : mm_i g1 (B + 5) 10 = nI cs.length := by rw [e1, i_I_ne (by omega)]; exact b4
  unfold fX5_emit
  rw [q_ck (sk5 S), sr5_9 S, p_rf, q_ck (sk10 S), b4, sn10 S, if_neg (nI_ge hc (by omega)), hq, nI_clamp (by omega), ← e1, p_lt, v10, nI_1, ← e2, p_lt]
theorem x_fail (X : xS B h t n m i c cs) (k : Nat) : ∃ h', fX5_fail (B + 5) (nI k) h = some (0, h') ∧ mX B (wPx B) h h' ∧ mm_i h' (B + 5) 8 = nI (fl 0 k (plF t n i)) ∧ fl 0 k (plF t n i) ≠ 0 := by
  obtain ⟨⟨S, a2, a3, a4, a5⟩, ⟨b1, b2⟩, b3, b4, b5⟩ := id X
  have hq := fun (β : Type) (z : Option β) => q_ckx (show i < 401 by omega) (by decide) z
  obtain ⟨g, e⟩ : ∃ g, g = mm_setI h (B + 5) 8 (nI (1 + 8 * plF t n i + k)) := ⟨_, rfl⟩
  have x : mX B (wPx B) h g := by rw [e]; exact (mX.rf (W := wPx B) S.1).I (Or.inl (by unfold wPx; omega))
  have efl : fl 0 k (plF t n i) = 1 + 8 * plF t n i + k := by unfold fl; rw [if_pos rfl]
  refine ⟨g, ?_, x, by rw [e, i_I_eq, efl], by rw [efl]; omega⟩
  unfold fX5_fail
  rw [q_ck (sk5 S), sr5_3 S, p_rf, q_ck (sk8 S), b1, sn8 S, hq, nI_clamp (by omega), (a2 i (by omega)).2.1, show (8 : Int32) = nI 8 by decide +kernel, show (1 : Int32) = nI 1 by decide +kernel, nI_mul, nI_add, nI_add, ← e, p_lt]
theorem xS.cnt (X : xS B h t n m i c cs) : xS B (mm_setI h (B + 5) 7 (nI (c + 1))) t n m i (c + 1) cs ∧ mX B (wPx B) h (mm_setI h (B + 5) 7 (nI (c + 1))) := by
  obtain ⟨⟨S, a2, a3, a4, a5⟩, ⟨b1, b2⟩, b3, b4, b5⟩ := id X
  have x : mX B (wPx B) h (mm_setI h (B + 5) 7 (nI (c + 1))) := (mX.rf (W := wPx B) S.1).I (Or.inl (by unfold wPx; omega))
  have k : ∀ j, j ≠ 7 → mm_i (mm_setI h (B + 5) 7 (nI (c + 1))) (B + 5) j = mm_i h (B + 5) j := fun j hj => by rw [i_I, if_neg (fun z => hj z.2)]
  exact ⟨X.mk' x (by rw [k _ (by omega)]; exact b1) b2 (by rw [i_I_eq]) (by rw [k _ (by omega)]; exact b4) (cdx_cg (fun j _ => by rw [i_I_ne (by omega)]) b5.1) (by rw [k _ (by omega)]; exact b5.2), x⟩
/-- the token that is read now -/
theorem xS.tok (X : xS B h t n m i c cs) {β : Type} (k : Int32 → Option (β × mm_H)) : (mm_ck (mm_kd h (B + 5) = 6) <| mm_rf (mm_r h (B + 5) 2) fun u2 => mm_ck (mm_kd h u2 = 14) <| mm_ck (mm_ix ((mm_i h (B + 5) 6)) (mm_n h u2)) <| k (mm_i h u2 (mm_i h (B + 5) 6).toNatClampNeg)) = k (nI (tkF t n (plF t n i))) := by
  obtain ⟨⟨S, a2, a3, a4, a5⟩, ⟨b1, b2⟩, b3, b4, b5⟩ := X
  have hq := fun (β : Type) (z : Option β) => q_ckx (show i < 401 by omega) (by decide) z
  rw [q_ck (sk5 S), sr5_2 S, p_rf, q_ck (sk7 S), b1, sn7 S, hq, nI_clamp (by omega), (a2 i (by omega)).1]
theorem xS.lt (X : xS B h t n m i c cs) (h35 : tkF t n (plF t n i) ≠ 35) : i < m := by
  obtain ⟨⟨S, a2, a3, a4, a5, a6⟩, ⟨b1, b2⟩, -⟩ := X
  refine Nat.lt_of_le_of_ne b2 fun z => h35 ?_
  rw [z, a5]
  unfold tkF
  rw [if_pos (Nat.le_refl _)]
theorem rRun_s {r : rA} (f : Nat) (h4 : r.1 ≠ 4) (h0 : r.2.2.2.2.2 = 0) : rRun t n (f + 1) r = rRun t n f (rStep t n r) := by
  simp only [rRun]
  rw [if_neg (by omega)]
theorem rRun_f {r : rA} (f : Nat) (h0 : r.2.2.2.2.2 ≠ 0) : rRun t n (f + 1) r = some r := by
  simp only [rRun]
  rw [if_pos (Or.inr h0)]
theorem tyN.app {new1 new2 : List (Nat × Nat)} : new2 ++ new1 ++ cs = new2 ++ (new1 ++ cs) := List.append_assoc _ _ _
end KK
/-- what reading comes to: read, or a fault, on both sides alike -/
def okR (B : Nat) (t : Nat → Int32) (n m : Nat) (res : Option (Int32 × mm_H)) (h : mm_H) (i c : Nat) (s : List Nat) (cs : List (Nat × Nat)) (st : Nat) (Q : mm_H → Nat → Nat → List (Nat × Nat) → Nat → Prop) (out : Bool) : Prop := ∃ h' i' c' new k, res = some (1, h') ∧ mX B (wPx B) h h' ∧ xS B h' t n m i' c' (new ++ cs) ∧ i < i' ∧ c' ≤ 80 ∧ tyN new c c' out ∧ s.length + (new ++ cs).length ≤ i' ∧ k ≤ 3 * (i' - i) ∧ Q h' i' c' new k
def flR (B : Nat) (t : Nat → Int32) (n m : Nat) (res : Option (Int32 × mm_H)) (h : mm_H) (i c : Nat) (s : List Nat) (cs : List (Nat × Nat)) (st : Nat) : Prop := ∃ h' k, ∃ r : rA, res = some (0, h') ∧ mX B (wPx B) h h' ∧ r.2.2.2.2.2 ≠ 0 ∧ mm_i h' (B + 5) 8 = nI r.2.2.2.2.2 ∧ k ≤ 3 * (m - i) + 3 ∧ ∀ f, rRun t n (f + k + 1) (st, i, c, s, cs, 0) = some r
