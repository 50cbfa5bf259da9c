/-! the reference reads: what it has of a law's text -/
def tY (B : Nat) (h : mm_H) (t : Nat → Int32) (n : Nat) : Prop := n ≤ 400 ∧ mm_i h (B + 66) 17 = nI n ∧ ∀ k, k < n → mm_i h (B + 79) k = t k
def stk (B : Nat) (h : mm_H) : List Nat → Prop
  | [] => True
  | k :: r => mm_i h (B + 89) r.length = nI k ∧ stk B h r
def cdy (B : Nat) (h : mm_H) (L : Nat) : List (Nat × Nat) → Prop
  | [] => True
  | x :: r => (mm_i h (B + 87) (400 * L + r.length) = nI x.1 ∧ (x.1 ≤ 1 → mm_i h (B + 88) (400 * L + r.length) = nI x.2)) ∧ cdy B h L r
def wR (B L : Nat) : Nat → Nat → Prop := fun x i => (x = B + 66 ∧ (18 ≤ i ∧ i ≤ 22 ∨ i = 33 ∨ i = 34)) ∨ ((x = B + 87 ∨ x = B + 88) ∧ 400 * L ≤ i) ∨ x = B + 89
def yS (B : Nat) (h : mm_H) (t : Nat → Int32) (n L p d c : Nat) (s : List Nat) (cs : List (Nat × Nat)) (f : Nat) : Prop := (tY B h t n ∧ mT h ∧ mS B h ∧ mm_i h (B + 66) 23 = nI L ∧ L < 30) ∧ (mm_i h (B + 66) 18 = nI p ∧ p ≤ n) ∧ mm_i h (B + 66) 20 = nI f ∧ mm_i h (B + 66) 21 = nI d ∧ mm_i h (B + 66) 22 = nI c ∧ mm_i h (B + 66) 33 = nI cs.length ∧ mm_i h (B + 66) 34 = nI s.length ∧ stk B h s ∧ cdy B h L cs ∧ s.length + cs.length ≤ 400
def fl (f k p : Nat) : Nat := if f = 0 then 1 + 8 * p + k else f
def topI : List Nat → Int32
  | [] => -1
  | k :: _ => nI k
section KD
variable {B : Nat} {h h' : mm_H} {t : Nat → Int32} {n L p d c f i q : Nat} {s s' : List Nat} {cs cs' : List (Nat × Nat)}
theorem stk_cg : ∀ {s : List Nat}, (∀ k, k < s.length → mm_i h' (B + 89) k = mm_i h (B + 89) k) → stk B h s → stk B h' s := by
  intro s
  induction s with
  | nil => intro _ _; trivial
  | cons k r ih =>
    intro e st
    obtain ⟨s1, s2⟩ := st
    exact ⟨by rw [e _ (by rw [List.length_cons]; omega)]; exact s1, ih (fun k hk => e k (by rw [List.length_cons]; omega)) s2⟩
theorem cdy_cg : ∀ {cs : List (Nat × Nat)}, (∀ k, k < cs.length → mm_i h' (B + 87) (400 * L + k) = mm_i h (B + 87) (400 * L + k) ∧ mm_i h' (B + 88) (400 * L + k) = mm_i h (B + 88) (400 * L + k)) → cdy B h L cs → cdy B h' L cs := by
  intro cs
  induction cs with
  | nil => intro _ _; trivial
  | cons x r ih =>
    intro e st
    obtain ⟨⟨s1, s2⟩, s3⟩ := st
    have e0 := e r.length (by rw [List.length_cons]; omega)
    exact ⟨⟨by rw [e0.1]; exact s1, fun z => by rw [e0.2]; exact s2 z⟩, ih (fun k hk => e k (by rw [List.length_cons]; omega)) s3⟩
theorem yS.mk' {p' d' c' f' : Nat} (Y : yS B h t n L p d c s cs f) (x : mX B (wR B L) h h') (e18 : mm_i h' (B + 66) 18 = nI p') (hp : p' ≤ n) (e20 : mm_i h' (B + 66) 20 = nI f') (e21 : mm_i h' (B + 66) 21 = nI d') (e22 : mm_i h' (B + 66) 22 = nI c') (e33 : mm_i h' (B + 66) 33 = nI cs'.length) (e34 : mm_i h' (B + 66) 34 = nI s'.length) (es : stk B h' s') (ec : cdy B h' L cs') (eb : s'.length + cs'.length ≤ 400) : yS B h' t n L p' d' c' s' cs' f' := by
  obtain ⟨⟨⟨a1, a2, a3⟩, a4, a5, a6, a7⟩, -⟩ := Y
  have hB := x.1.2.2
  exact ⟨⟨⟨a1, by rw [x.i (by omega) (by unfold wR; omega)]; exact a2, fun k hk => by rw [x.i (by omega) (by unfold wR; omega)]; exact a3 k hk⟩, a4.up x, x.S a5, by rw [x.i (by omega) (by unfold wR; omega)]; exact a6, a7⟩, ⟨e18, hp⟩, e20, e21, e22, e33, e34, es, ec, eb⟩
/-- one of the numbers is set -/
theorem yS.setp {p' : Nat} (Y : yS B h t n L p d c s cs f) (hp : p' ≤ n) : yS B (mm_setI h (B + 66) 18 (nI p')) t n L p' d c s cs f ∧ mX B (wR B L) h (mm_setI h (B + 66) 18 (nI p')) := by
  have x : mX B (wR B L) h (mm_setI h (B + 66) 18 (nI p')) := (mX.rf (W := wR B L) Y.1.2.2.1.1).I (Or.inl (by unfold wR; omega))
  have Y' := id Y
  obtain ⟨-, b1, b2, b3, b4, b5, b6, b7, b8, b9⟩ := Y'
  have k : ∀ j, j ≠ 18 → mm_i (mm_setI h (B + 66) 18 (nI p')) (B + 66) j = mm_i h (B + 66) j := fun j hj => by rw [i_I, if_neg (fun z => hj z.2)]
  exact ⟨Y.mk' x (by rw [i_I_eq]) hp (by rw [k _ (by omega)]; exact b2) (by rw [k _ (by omega)]; exact b3) (by rw [k _ (by omega)]; exact b4) (by rw [k _ (by omega)]; exact b5) (by rw [k _ (by omega)]; exact b6) (stk_cg (fun k _ => by rw [i_I_ne (by omega)]) b7) (cdy_cg (fun k _ => by rw [i_I_ne (by omega), i_I_ne (by omega)]; exact ⟨rfl, rfl⟩) b8) b9, x⟩
theorem yS.setd {d' : Nat} (Y : yS B h t n L p d c s cs f) : yS B (mm_setI h (B + 66) 21 (nI d')) t n L p d' c s cs f ∧ mX B (wR B L) h (mm_setI h (B + 66) 21 (nI d')) := by
  have x : mX B (wR B L) h (mm_setI h (B + 66) 21 (nI d')) := (mX.rf (W := wR B L) Y.1.2.2.1.1).I (Or.inl (by unfold wR; omega))
  have Y' := id Y
  obtain ⟨-, b1, b2, b3, b4, b5, b6, b7, b8, b9⟩ := Y'
  have k : ∀ j, j ≠ 21 → mm_i (mm_setI h (B + 66) 21 (nI d')) (B + 66) j = mm_i h (B + 66) j := fun j hj => by rw [i_I, if_neg (fun z => hj z.2)]
  exact ⟨Y.mk' x (by rw [k _ (by omega)]; exact b1.1) b1.2 (by rw [k _ (by omega)]; exact b2) (by rw [i_I_eq]) (by rw [k _ (by omega)]; exact b4) (by rw [k _ (by omega)]; exact b5) (by rw [k _ (by omega)]; exact b6) (stk_cg (fun k _ => by rw [i_I_ne (by omega)]) b7) (cdy_cg (fun k _ => by rw [i_I_ne (by omega), i_I_ne (by omega)]; exact ⟨rfl, rfl⟩) b8) b9, x⟩
theorem yS.setc {c' : Nat} (Y : yS B h t n L p d c s cs f) : yS B (mm_setI h (B + 66) 22 (nI c')) t n L p d c' s cs f ∧ mX B (wR B L) h (mm_setI h (B + 66) 22 (nI c')) := by
  have x : mX B (wR B L) h (mm_setI h (B + 66) 22 (nI c')) := (mX.rf (W := wR B L) Y.1.2.2.1.1).I (Or.inl (by unfold wR; omega))
  have Y' := id Y
  obtain ⟨-, b1, b2, b3, b4, b5, b6, b7, b8, b9⟩ := Y'
  have k : ∀ j, j ≠ 22 → mm_i (mm_setI h (B + 66) 22 (nI c')) (B + 66) j = mm_i h (B + 66) j := fun j hj => by rw [i_I, if_neg (fun z => hj z.2)]
  exact ⟨Y.mk' x (by rw [k _ (by omega)]; exact b1.1) b1.2 (by rw [k _ (by omega)]; exact b2) (by rw [k _ (by omega)]; exact b3) (by rw [i_I_eq]) (by rw [k _ (by omega)]; exact b5) (by rw [k _ (by omega)]; exact b6) (stk_cg (fun k _ => by rw [i_I_ne (by omega)]) b7) (cdy_cg (fun k _ => by rw [i_I_ne (by omega), i_I_ne (by omega)]; exact ⟨rfl, rfl⟩) b8) b9, x⟩
theorem yS.setf {f' : Nat} (Y : yS B h t n L p d c s cs f) : yS B (mm_setI h (B + 66) 20 (nI f')) t n L p d c s cs f' ∧ mX B (wR B L) h (mm_setI h (B + 66) 20 (nI f')) := by
  have x : mX B (wR B L) h (mm_setI h (B + 66) 20 (nI f')) := (mX.rf (W := wR B L) Y.1.2.2.1.1).I (Or.inl (by unfold wR; omega))
  have Y' := id Y
  obtain ⟨-, b1, b2, b3, b4, b5, b6, b7, b8, b9⟩ := Y'
  have k : ∀ j, j ≠ 20 → mm_i (mm_setI h (B + 66) 20 (nI f')) (B + 66) j = mm_i h (B + 66) j := fun j hj => by rw [i_I, if_neg (fun z => hj z.2)]
  exact ⟨Y.mk' x (by rw [k _ (by omega)]; exact b1.1) b1.2 (by rw [i_I_eq]) (by rw [k _ (by omega)]; exact b3) (by rw [k _ (by omega)]; exact b4) (by rw [k _ (by omega)]; exact b5) (by rw [k _ (by omega)]; exact b6) (stk_cg (fun k _ => by rw [i_I_ne (by omega)]) b7) (cdy_cg (fun k _ => by rw [i_I_ne (by omega), i_I_ne (by omega)]; exact ⟨rfl, rfl⟩) b8) b9, x⟩
theorem yS.set19 {v : Int32} (Y : yS B h t n L p d c s cs f) : yS B (mm_setI h (B + 66) 19 v) t n L p d c s cs f ∧ mX B (wR B L) h (mm_setI h (B + 66) 19 v) := by
  have x : mX B (wR B L) h (mm_setI h (B + 66) 19 v) := (mX.rf (W := wR B L) Y.1.2.2.1.1).I (Or.inl (by unfold wR; omega))
  have Y' := id Y
  obtain ⟨-, b1, b2, b3, b4, b5, b6, b7, b8, b9⟩ := Y'
  have k : ∀ j, j ≠ 19 → mm_i (mm_setI h (B + 66) 19 v) (B + 66) j = mm_i h (B + 66) j := fun j hj => by rw [i_I, if_neg (fun z => hj z.2)]
  exact ⟨Y.mk' x (by rw [k _ (by omega)]; exact b1.1) b1.2 (by rw [k _ (by omega)]; exact b2) (by rw [k _ (by omega)]; exact b3) (by rw [k _ (by omega)]; exact b4) (by rw [k _ (by omega)]; exact b5) (by rw [k _ (by omega)]; exact b6) (stk_cg (fun k _ => by rw [i_I_ne (by omega)]) b7) (cdy_cg (fun k _ => by rw [i_I_ne (by omega), i_I_ne (by omega)]; exact ⟨rfl, rfl⟩) b8) b9, x⟩
/-- the uppermost is taken off -/
theorem yS.pop {k : Nat} (Y : yS B h t n L p d c (k :: s) cs f) : (yS B (mm_setI h (B + 66) 34 (mm_i h (B + 66) 34 - 1)) t n L p d c s cs f ∧ mX B (wR B L) h (mm_setI h (B + 66) 34 (mm_i h (B + 66) 34 - 1))) ∧ mm_i (mm_setI h (B + 66) 34 (mm_i h (B + 66) 34 - 1)) (B + 66) 34 = nI s.length ∧ mm_i (mm_setI h (B + 66) 34 (mm_i h (B + 66) 34 - 1)) (B + 89) s.length = nI k ∧ s.length < 400 := by
  have x : mX B (wR B L) h (mm_setI h (B + 66) 34 (mm_i h (B + 66) 34 - 1)) := (mX.rf (W := wR B L) Y.1.2.2.1.1).I (Or.inl (by unfold wR; omega))
  have Y' := id Y
  obtain ⟨-, b1, b2, b3, b4, b5, b6, b7, b8, b9⟩ := Y'
  have k2 : ∀ j, j ≠ 34 → mm_i (mm_setI h (B + 66) 34 (mm_i h (B + 66) 34 - 1)) (B + 66) j = mm_i h (B + 66) j := fun j hj => by rw [i_I, if_neg (fun z => hj z.2)]
  have e34 : mm_i (mm_setI h (B + 66) 34 (mm_i h (B + 66) 34 - 1)) (B + 66) 34 = nI s.length := by
    rw [i_I_eq, b6, List.length_cons, nI_pred]
  rw [List.length_cons] at b9
  refine ⟨⟨Y.mk' x (by rw [k2 _ (by omega)]; exact b1.1) b1.2 (by rw [k2 _ (by omega)]; exact b2) (by rw [k2 _ (by omega)]; exact b3) (by rw [k2 _ (by omega)]; exact b4) (by rw [k2 _ (by omega)]; exact b5) e34 (stk_cg (fun k _ => by rw [i_I_ne (by omega)]) b7.2) (cdy_cg (fun k _ => by rw [i_I_ne (by omega), i_I_ne (by omega)]; exact ⟨rfl, rfl⟩) b8) (by omega), x⟩, e34, ?_, by omega⟩
  rw [i_I_ne (by omega)]; exact b7.1
theorem y_opens (Y : yS B h t n L p d c s cs f) {k : Nat} (hb : s.length + cs.length < 400) : ∃ h', fX12_opens (B + 66) (nI k) h = some ((), h') ∧ mX B (wR B L) h h' ∧ yS B h' t n L p d c (k :: s) cs f := by
  have S := Y.1.2.2.1
  have Y' := id Y
  obtain ⟨-, b1, b2, b3, b4, b5, b6, b7, b8, b9⟩ := Y'
  have hq := fun (β : Type) (z : Option β) => q_ckx (show s.length < 400 by omega) (by decide) z
  have hcl := nI_clamp (n := s.length) (by omega)
  obtain ⟨g1, e1⟩ : ∃ g', g' = mm_setI h (B + 89) s.length (nI k) := ⟨_, rfl⟩
  obtain ⟨g2, e2⟩ : ∃ g', g' = mm_setI g1 (B + 66) 34 (nI (s.length + 1)) := ⟨_, rfl⟩
  have v1 : mm_i g1 (B + 66) 34 = nI s.length := by rw [e1, i_I_ne (by omega)]; exact b6
  have x2 : mX B (wR B L) h g2 := by
    rw [e2, e1]
    exact ((mX.rf (W := wR B L) S.1).I (Or.inl (by unfold wR; omega))).I (Or.inl (by unfold wR; omega))
  have k2 : ∀ j, j ≠ 34 → mm_i g2 (B + 66) j = mm_i h (B + 66) j := fun j hj => by rw [e2, i_I, if_neg (fun z => hj z.2), e1, i_I_ne (by omega)]
  refine ⟨g2, ?_, x2, Y.mk' x2 (by rw [k2 _ (by omega)]; exact b1.1) b1.2 (by rw [k2 _ (by omega)]; exact b2) (by rw [k2 _ (by omega)]; exact b3) (by rw [k2 _ (by omega)]; exact b4) (by rw [k2 _ (by omega)]; exact b5) (by rw [e2, i_I_eq, List.length_cons]) ⟨by rw [e2, i_I_ne (by omega), e1, i_I_eq], stk_cg (fun j hj => by rw [e2, i_I_ne (by omega), e1, i_I, if_neg (fun z => by omega)]) b7⟩ (cdy_cg (fun j _ => by rw [e2, i_I_ne (by omega), i_I_ne (by omega), e1, i_I_ne (by omega), i_I_ne (by omega)]; exact ⟨rfl, rfl⟩) b8) (by rw [List.length_cons]; omega)⟩
  unfold fX12_opens
  rw [q_ck (sk66 S), sr66_35 S, p_rf, q_ck (sk89 S), b6, sn89 S, hq, hcl, ← e1, p_lt, v1, nI_1, ← e2, p_lt]
theorem y_emits (Y : yS B h t n L p d c s cs f) {o v : Nat} (hb : s.length + cs.length < 400) : ∃ h', fX12_emits (B + 66) (nI o) (nI v) h = some ((), h') ∧ mX B (wR B L) h h' ∧ yS B h' t n L p d c s ((o, v) :: cs) f := by
  have S := Y.1.2.2.1
  have hL := Y.1.2.2.2
  have Y' := id Y
  obtain ⟨-, b1, b2, b3, b4, b5, b6, b7, b8, b9⟩ := Y'
  have hidx : (400 : Int32) * nI L + nI cs.length = nI (400 * L + cs.length) := by rw [show (400 : Int32) = nI 400 by decide +kernel, nI_mul, nI_add]
  have hq := fun (β : Type) (z : Option β) => q_ckx (show 400 * L + cs.length < 12000 by omega) (by decide) z
  have hcl := nI_clamp (n := 400 * L + cs.length) (by omega)
  obtain ⟨g1, e1⟩ : ∃ g', g' = mm_setI h (B + 87) (400 * L + cs.length) (nI o) := ⟨_, rfl⟩
  obtain ⟨g2, e2⟩ : ∃ g', g' = mm_setI g1 (B + 88) (400 * L + cs.length) (nI v) := ⟨_, rfl⟩
  obtain ⟨g3, e3⟩ : ∃ g', g' = mm_setI g2 (B + 66) 33 (nI (cs.length + 1)) := ⟨_, rfl⟩
  have S1 : mS B g1 := by rw [e1]; exact S
  have k1 : ∀ j, mm_i g1 (B + 66) j = mm_i h (B + 66) j := fun j => by rw [e1, i_I_ne (by omega)]
  have k2 : ∀ j, mm_i g2 (B + 66) j = mm_i h (B + 66) j := fun j => by rw [e2, i_I_ne (by omega), k1]
  have x3 : mX B (wR B L) h g3 := by
    rw [e3, e2, e1]
    exact (((mX.rf (W := wR B L) S.1).I (Or.inl (by unfold wR; omega))).I (Or.inl (by unfold wR; omega))).I (Or.inl (by unfold wR; omega))
  have k3 : ∀ j, j ≠ 33 → mm_i g3 (B + 66) j = mm_i h (B + 66) j := fun j hj => by rw [e3, i_I, if_neg (fun z => hj z.2), k2]
  refine ⟨g3, ?_, x3, Y.mk' x3 (by rw [k3 _ (by omega)]; exact b1.1) b1.2 (by rw [k3 _ (by omega)]; exact b2) (by rw [k3 _ (by omega)]; exact b3) (by rw [k3 _ (by omega)]; exact b4) (by rw [e3, i_I_eq, List.length_cons]) (by rw [k3 _ (by omega)]; exact b6) (stk_cg (fun j _ => by rw [e3, i_I_ne (by omega), e2, i_I_ne (by omega), e1, i_I_ne (by omega)]) b7) ⟨⟨by rw [e3, i_I_ne (by omega), e2, i_I_ne (by omega), e1, i_I_eq], fun _ => by rw [e3, i_I_ne (by omega), e2, i_I_eq]⟩, cdy_cg (fun j hj => ?_) b8⟩ (by rw [List.length_cons]; omega)⟩
  · unfold fX12_emits
    rw [q_ck (sk66 S), sr66_31 S, p_rf, q_ck (sk87 S), hL.1, b5, hidx, sn87 S, hq, hcl, ← e1, p_lt, sr66_32 S1, p_rf, q_ck (sk88 S1), k1, k1, hL.1, b5, hidx, sn88 S1, hq, hcl, ← e2, p_lt, k2, b5, nI_1, ← e3, p_lt]
  · rw [e3, i_I_ne (by omega), i_I_ne (by omega), e2, i_I_ne (by omega), i_I, if_neg (fun z => by omega), e1, i_I, if_neg (fun z => by omega), i_I_ne (by omega)]
    exact ⟨rfl, rfl⟩
theorem y_fails (Y : yS B h t n L p d c s cs f) (k a : Nat) (hf : f < 2 ^ 30) : ∃ h', fX12_fails (B + 66) (nI k) (nI a) h = some ((), h') ∧ mX B (wR B L) h h' ∧ yS B h' t n L p d c s cs (fl f k a) ∧ mm_i h' (B + 66) 19 = mm_i h (B + 66) 19 := by
  have S := Y.1.2.2.1
  have hf2 := Y.2.2.1
  unfold fX12_fails fl
  by_cases e : f = 0
  · have z : mm_i h (B + 66) 20 = 0 := by rw [hf2, e, nI_0]
    obtain ⟨Y2, x2⟩ := Y.setf (f' := 1 + 8 * a + k)
    refine ⟨_, ?_, x2, by rw [if_pos e]; exact Y2, by rw [i_I, if_neg (fun z => by omega)]⟩
    rw [q_ck (sk66 S), z, if_neg (not_not_intro rfl), show (8 : Int32) = nI 8 by decide +kernel, show (1 : Int32) = nI 1 by decide +kernel, nI_mul, nI_add, nI_add, p_lt]
  · refine ⟨h, ?_, mX.rf S.1, by rw [if_neg e]; exact Y, rfl⟩
    rw [q_ck (sk66 S), hf2, if_pos (show ¬ nI f = (0 : Int32) from fun z => e ((nI_eq (b := 0) (by omega) (by omega)).mp z))]
theorem y_deeper (Y : yS B h t n L p d c s cs f) (a : Nat) (hf : f < 2 ^ 30) (hd : d < 2 ^ 30) : ∃ h', fX12_deeper (B + 66) (nI a) h = some ((), h') ∧ mX B (wR B L) h h' ∧ yS B h' t n L p (d + 1) c s cs (if d = 10 then fl f 2 a else f) := by
  have S := Y.1.2.2.1
  have hd2 := Y.2.2.2.1
  unfold fX12_deeper
  have fin : ∀ {g : mm_H} {f'}, yS B g t n L p d c s cs f' → mX B (wR B L) h g → ∃ h', (mm_ck (mm_kd g (B + 66) = 13) <| mm_lt (mm_setI g (B + 66) 21 (((mm_i g (B + 66) 21) + (1 : Int32)))) fun g5 => some ((), g5)) = some ((), h') ∧ mX B (wR B L) h h' ∧ yS B h' t n L p (d + 1) c s cs f' := fun {g f'} Yg xg => by
    obtain ⟨Y2, x2⟩ := Yg.setd (d' := d + 1)
    refine ⟨_, ?_, xg.tr x2, Y2⟩
    rw [q_ck (sk66 Yg.1.2.2.1), Yg.2.2.2.1, nI_1, p_lt]
  by_cases e : d = 10
  · obtain ⟨g, k1, k2, k3, -⟩ := y_fails Y 2 a hf
    obtain ⟨h', q1, q2, q3⟩ := fin k3 k2
    refine ⟨h', ?_, q2, by rw [if_pos e]; exact q3⟩
    rw [q_ck (sk66 S)]
    refine (jn_eq g (fun q' => ?_)).trans q1
    rw [hd2, e, if_neg (not_not_intro (show nI 10 = (10 : Int32) by decide +kernel)), show (2 : Int32) = nI 2 by decide +kernel, k1, p_cl]
  · obtain ⟨h', q1, q2, q3⟩ := fin Y (mX.rf S.1)
    refine ⟨h', ?_, q2, by rw [if_neg e]; exact q3⟩
    rw [q_ck (sk66 S)]
    refine (jn_eq h (fun q' => ?_)).trans q1
    rw [hd2, if_pos (show ¬ nI d = (10 : Int32) from fun z => e ((nI_eq (b := 10) (by omega) (by omega)).mp z))]
theorem y_counts (Y : yS B h t n L p d c s cs f) (a : Nat) (hf : f < 2 ^ 30) (hc : c < 2 ^ 30) : ∃ h', fX12_counts (B + 66) (nI a) h = some ((), h') ∧ mX B (wR B L) h h' ∧ yS B h' t n L p d (c + 1) s cs (if c = 80 then fl f 3 a else f) := by
  have S := Y.1.2.2.1
  have hd2 := Y.2.2.2.2.1
  unfold fX12_counts
  have fin : ∀ {g : mm_H} {f'}, yS B g t n L p d c s cs f' → mX B (wR B L) h g → ∃ h', (mm_ck (mm_kd g (B + 66) = 13) <| mm_lt (mm_setI g (B + 66) 22 (((mm_i g (B + 66) 22) + (1 : Int32)))) fun g5 => some ((), g5)) = some ((), h') ∧ mX B (wR B L) h h' ∧ yS B h' t n L p d (c + 1) s cs f' := fun {g f'} Yg xg => by
    obtain ⟨Y2, x2⟩ := Yg.setc (c' := c + 1)
    refine ⟨_, ?_, xg.tr x2, Y2⟩
    rw [q_ck (sk66 Yg.1.2.2.1), Yg.2.2.2.2.1, nI_1, p_lt]
  by_cases e : c = 80
  · obtain ⟨g, k1, k2, k3, -⟩ := y_fails Y 3 a hf
    obtain ⟨h', q1, q2, q3⟩ := fin k3 k2
    refine ⟨h', ?_, q2, by rw [if_pos e]; exact q3⟩
    rw [q_ck (sk66 S)]
    refine (jn_eq g (fun q' => ?_)).trans q1
    rw [hd2, e, if_neg (not_not_intro (show nI 80 = (80 : Int32) by decide +kernel)), show (3 : Int32) = nI 3 by decide +kernel, k1, p_cl]
  · obtain ⟨h', q1, q2, q3⟩ := fin Y (mX.rf S.1)
    refine ⟨h', ?_, q2, by rw [if_neg e]; exact q3⟩
    rw [q_ck (sk66 S)]
    refine (jn_eq h (fun q' => ?_)).trans q1
    rw [hd2, if_pos (show ¬ nI c = (80 : Int32) from fun z => e ((nI_eq (b := 80) (by omega) (by omega)).mp z))]
theorem y_top (Y : yS B h t n L p d c s cs f) : fX12_top (B + 66) h = some (topI s, h) := by
  have S := Y.1.2.2.1
  obtain ⟨-, -, -, -, -, -, b6, b7, -, b9⟩ := Y
  unfold fX12_top
  cases s with
  | nil =>
    have b6' : mm_i h (B + 66) 34 = 0 := b6.trans nI_0
    rw [q_ck (sk66 S), b6', if_neg (not_not_intro rfl)]; rfl
  | cons k r =>
    rw [List.length_cons] at b6 b9
    have hq := fun (β : Type) (z : Option β) => q_ckx (show r.length < 400 by omega) (by decide) z
    rw [q_ck (sk66 S), b6, if_pos (fun z => by have := (nI_eq (b := 0) (by omega) (by omega)).mp z; omega), sr66_35 S, p_rf, q_ck (sk89 S), nI_pred, sn89 S, hq, nI_clamp (by omega), b7.1]
    rfl
theorem y_sign (Y : yS B h t n L p d c s cs f) : fX12_sign (B + 66) h = some (if p < n then t p else -1, h) := by
  have S := Y.1.2.2.1
  obtain ⟨n9, t1, t2⟩ := Y.1.1
  obtain ⟨b1, b2⟩ := Y.2.1
  unfold fX12_sign
  rw [q_ck (sk66 S), t1, b1]
  by_cases e : p < n
  · have hq := fun (β : Type) (z : Option β) => q_ckx (show p < 400 by omega) (by decide) z
    rw [if_neg (nI_ge e (by omega)), sr66_16 S, p_rf, q_ck (sk79 S), sn79 S, hq, nI_clamp (by omega), t2 p e, if_pos e]
  · rw [if_pos (nI_le (by omega) (by omega)), if_neg e]
theorem y_bl_L0 (K : mm_H → Option (Unit × mm_H)) : ∀ (e p fuel : Nat) (h : mm_H), p + e = n → e < fuel → yS B h t n L p d c s cs f → ∃ h', fX12_blanks_L0 (B + 66) K fuel h = K h' ∧ mX B (wR B L) h h' ∧ yS B h' t n L (runF isBl t e p) d c s cs f := by
  intro e
  induction e with
  | zero =>
    intro p fuel h hp hf Y
    obtain ⟨g, rfl⟩ : ∃ f, fuel = f + 1 := ⟨fuel - 1, by omega⟩
    have S := Y.1.2.2.1
    obtain ⟨n9, t1, t2⟩ := Y.1.1
    refine ⟨h, ?_, mX.rf S.1, Y⟩
    show fX12_blanks_L0_b _ _ _ _ = _
    unfold fX12_blanks_L0_b
    rw [q_ck (sk66 S), t1, Y.2.1.1, if_pos (nI_le (show n ≤ p by omega) (by omega))]
  | succ e ih =>
    intro p fuel h hp hf Y
    obtain ⟨g, rfl⟩ : ∃ f, fuel = f + 1 := ⟨fuel - 1, by omega⟩
    have S := Y.1.2.2.1
    obtain ⟨n9, t1, t2⟩ := Y.1.1
    have hq := fun (β : Type) (z : Option β) => q_ckx (show p < 400 by omega) (by decide) z
    simp only [runF]
    by_cases c1 : isBl (t p) = true
    · obtain ⟨Y2, x2⟩ := Y.setp (p' := p + 1) (by omega)
      obtain ⟨h', q1, q2, q3⟩ := ih (p + 1) g _ (by omega) (by omega) Y2
      refine ⟨h', ?_, x2.tr q2, by rw [if_pos c1]; exact q3⟩
      rw [← q1]
      show fX12_blanks_L0_b _ _ _ _ = _
      unfold fX12_blanks_L0_b
      rw [q_ck (sk66 S), t1, Y.2.1.1, if_neg (nI_ge (show p < n by omega) (by omega)), sr66_16 S, p_rf, q_ck (sk79 S), sn79 S, hq, nI_clamp (by omega), t2 p (by omega), if_neg (not_not_intro (of_decide_eq_true c1)), nI_1, p_lt]
    · refine ⟨h, ?_, mX.rf S.1, by rw [if_neg c1]; exact Y⟩
      show fX12_blanks_L0_b _ _ _ _ = _
      unfold fX12_blanks_L0_b
      rw [q_ck (sk66 S), t1, Y.2.1.1, if_neg (nI_ge (show p < n by omega) (by omega)), sr66_16 S, p_rf, q_ck (sk79 S), sn79 S, hq, nI_clamp (by omega), t2 p (by omega), if_pos (fun z => c1 (decide_eq_true z))]
theorem y_blanks (Y : yS B h t n L p d c s cs f) : ∃ h', fX12_blanks (B + 66) h = some ((), h') ∧ mX B (wR B L) h h' ∧ yS B h' t n L (skF t n p) d c s cs f ∧ mm_i h' (B + 66) 19 = nI (skF t n p) := by
  have hp := Y.2.1.2
  have n9 := Y.1.1.1
  obtain ⟨h', q1, q2, q3⟩ := y_bl_L0 (fun (g8 : mm_H) => mm_ck (mm_kd g8 (B + 66) = 13) <| mm_lt (mm_setI g8 (B + 66) 19 ((mm_i g8 (B + 66) 18))) fun g10 => some ((), g10)) (n - p) p mm_F h (by omega) (by unfold mm_F; omega) Y
  obtain ⟨Y2, x2⟩ := q3.set19 (v := mm_i h' (B + 66) 18)
  refine ⟨_, ?_, q2.tr x2, Y2, by rw [i_I_eq]; exact q3.2.1.1⟩
  unfold fX12_blanks
  rw [q1, q_ck (sk66 q3.1.2.2.1), p_lt]
theorem y_we_L5 (Y : yS B h t n L p d c s cs f) (K : Int32 → mm_H → Option (Int32 × mm_H)) : ∀ (e q fuel : Nat), q + e = n → e < fuel → fX12_wordEnd_L5 (B + 66) K fuel (nI q) h = K (nI (runF isLt t e q)) h := by
  have S := Y.1.2.2.1
  obtain ⟨n9, t1, t2⟩ := Y.1.1
  intro e
  induction e with
  | zero =>
    intro q fuel hq hf
    obtain ⟨g, rfl⟩ : ∃ f, fuel = f + 1 := ⟨fuel - 1, by omega⟩
    show fX12_wordEnd_L5_b _ _ _ _ _ = _
    unfold fX12_wordEnd_L5_b
    rw [q_ck (sk66 S), t1, if_pos (nI_le (show n ≤ q by omega) (by omega))]
    rfl
  | succ e ih =>
    intro q fuel hq hf
    obtain ⟨g, rfl⟩ : ∃ f, fuel = f + 1 := ⟨fuel - 1, by omega⟩
    have hx := fun (β : Type) (z : Option β) => q_ckx (show q < 400 by omega) (by decide) z
    have hcl := nI_clamp (n := q) (by omega)
    show fX12_wordEnd_L5_b _ _ _ _ _ = _
    unfold fX12_wordEnd_L5_b
    simp only [hcl, runF]
    rw [q_ck (sk66 S), t1, if_neg (nI_ge (show q < n by omega) (by omega)), sr66_16 S, p_rf, q_ck (sk79 S), sn79 S, hx, t2 q (by omega), hx]
    unfold isLt
    by_cases c1 : t q < 97
    · rw [if_pos c1, decide_eq_false (Int32.not_le.mpr c1), Bool.false_and, if_neg (by decide)]
    · rw [if_neg c1, decide_eq_true (Int32.not_lt.mp c1), Bool.true_and]
      by_cases c2 : 122 < t q
      · rw [if_pos c2, decide_eq_false (Int32.not_le.mpr c2), if_neg (by decide)]
      · rw [if_neg c2, decide_eq_true (Int32.not_lt.mp c2), if_pos rfl, p_lt, nI_1]
        exact ih (q + 1) g (by omega) (by omega)
theorem y_wordEnd (Y : yS B h t n L p d c s cs f) : fX12_wordEnd (B + 66) h = some (nI (weF t n p), h) := by
  have S := Y.1.2.2.1
  have n9 := Y.1.1.1
  have hp := Y.2.1.2
  unfold fX12_wordEnd
  rw [q_ck (sk66 S), Y.2.1.1, p_lt, y_we_L5 Y _ (n - p) p mm_F (by omega) (by unfold mm_F; omega)]
  rfl
theorem y_is (Y : yS B h t n L p d c s cs f) {e k : Nat} (he : p ≤ e) (hen : e ≤ n) (hk : k < 22) (hk9 : mm_sl k ≤ 126) : fX12_is (B + 66) (mm_c h (10 + k)) (nI e) h = some (if rIs t p e k = true then 1 else 0, h) := by
  have S := Y.1.2.2.1
  have M := Y.1.2.1
  obtain ⟨n9, t1, t2⟩ := Y.1.1
  have k1 := (M.1 k hk).1
  have hk2 : 20 ≤ mm_kd h (mm_c h (10 + k)) ∧ mm_kd h (mm_c h (10 + k)) < 42 := by rw [k1]; omega
  have hlen := x_tlen M hk
  have hL : ∀ K : Int32 → mm_H → Option (Int32 × mm_H), e - p = mm_sl k → ∀ (m j fuel : Nat) (ok : Bool), j + m = mm_sl k → m < fuel → fX12_is_L22 (B + 66) (mm_c h (10 + k)) K fuel (if ok = true then 1 else 0) (nI j) h = K (if (ok && !anyF (fun j => !decide (t (p + j) = mm_sb k j)) m j) = true then 1 else 0) h := by
    intro K hel m
    induction m with
    | zero =>
      intro j fuel ok hj hf
      obtain ⟨g, rfl⟩ : ∃ f, fuel = f + 1 := ⟨fuel - 1, by omega⟩
      show fX12_is_L22_b _ _ _ _ _ _ _ = _
      unfold fX12_is_L22_b
      rw [q_ck hk2, hlen, p_cl, if_pos (nI_le (show mm_sl k ≤ j by omega) (by omega))]
      show _ = K (if (ok && !false) = true then 1 else 0) h
      rw [Bool.not_false, Bool.and_true]
    | succ m ih =>
      intro j fuel ok hj hf
      obtain ⟨g, rfl⟩ : ∃ f, fuel = f + 1 := ⟨fuel - 1, by omega⟩
      show fX12_is_L22_b _ _ _ _ _ _ _ = _
      unfold fX12_is_L22_b
      rw [q_ck hk2, hlen, p_cl, if_neg (nI_ge (show j < mm_sl k by omega) (by omega))]
      cases ok with
      | false =>
        rw [if_neg (show ¬ false = true by decide), if_pos rfl, Bool.false_and, if_neg (by decide)]
      | true =>
        have hx := fun (β : Type) (z : Option β) => q_ckx (show p + j < 400 by omega) (by decide) z
        rw [if_pos rfl, if_neg (by decide), q_ck (sk66 S), sr66_16 S, p_rf, q_ck (sk79 S), Y.2.1.1, nI_add, sn79 S, hx, q_ck hk2, x_tchr M hk (show j < mm_sl k by omega) (by omega), p_cl, nI_clamp (by omega), t2 _ (by omega)]
        have ea : ∀ P : Nat → Bool, anyF P (m + 1) j = (P j || anyF P m (j + 1)) := fun _ => rfl
        rw [ea]
        refine (jn_eq (if decide (t (p + j) = mm_sb k j) = true then (1 : Int32) else 0) (fun q' => ?_)).trans ?_
        · by_cases c1 : t (p + j) = mm_sb k j
          · rw [if_neg (not_not_intro c1), decide_eq_true c1, if_pos rfl]
          · rw [if_pos c1, decide_eq_false c1, if_neg (by decide)]
        · rw [nI_1, p_lt, ih (j + 1) g (decide (t (p + j) = mm_sb k j)) (by omega) (by omega), Bool.not_or, Bool.not_not, Bool.true_and]
  unfold fX12_is
  rw [q_ck (sk66 S), q_ck hk2, hlen, p_cl, Y.2.1.1, nI_sub he]
  unfold rIs
  by_cases c1 : e - p = mm_sl k
  · refine (jn_eq (1 : Int32) (fun q' => by rw [if_neg (not_not_intro (by rw [c1]))])).trans ?_
    have := hL (fun (z26 : Int32) (g27 : mm_H) => mm_ck (z26 = 0 ∨ z26 = 1) <| some (z26, g27)) c1 (mm_sl k) 0 mm_F true (by omega) (by unfold mm_F; omega)
    rw [if_pos rfl, nI_0, Bool.true_and] at this
    rw [this, decide_eq_true c1, Bool.true_and]
    exact q_ck (by cases (!anyF (fun j => !decide (t (p + j) = mm_sb k j)) (mm_sl k) 0) <;> simp)
  · refine (jn_eq (0 : Int32) (fun q' => by rw [if_pos (fun z => c1 ((nI_eq (by omega) (by omega)).mp z))])).trans ?_
    rw [decide_eq_false c1, Bool.false_and, if_neg (by decide)]
    show fX12_is_L22_b _ _ _ _ _ _ _ = _
    unfold fX12_is_L22_b
    rw [q_ck hk2, hlen, p_cl, if_pos (show (0 : Int32) = 0 from rfl), ite_self]
    exact q_ck (Or.inl rfl)
theorem y_nu_L4 (K : Int32 → Int32 → mm_H → Option (Int32 × mm_H)) {p0 a : Nat} : ∀ (e p fuel : Nat) (h : mm_H), p + e = n → e < fuel → p0 ≤ p → yS B h t n L p d c s cs f → mm_i h (B + 66) 19 = nI a → ∃ h', fX12_number_L4 (B + 66) K fuel (nI (nvA t p0 p)) (nI (p - p0)) h = K (nI (nvA t p0 (runF isDg t e p))) (nI (runF isDg t e p - p0)) h' ∧ mX B (wR B L) h h' ∧ yS B h' t n L (runF isDg t e p) d c s cs f ∧ mm_i h' (B + 66) 19 = nI a := by
  intro e
  induction e with
  | zero =>
    intro p fuel h hp hf h0 Y ha
    obtain ⟨g, rfl⟩ : ∃ f, fuel = f + 1 := ⟨fuel - 1, by omega⟩
    have S := Y.1.2.2.1
    obtain ⟨n9, t1, t2⟩ := Y.1.1
    refine ⟨h, ?_, mX.rf S.1, Y, ha⟩
    show fX12_number_L4_b _ _ _ _ _ _ = _
    unfold fX12_number_L4_b
    rw [q_ck (sk66 S), t1, Y.2.1.1, if_pos (nI_le (show n ≤ p by omega) (by omega))]
    rfl
  | succ e ih =>
    intro p fuel h hp hf h0 Y ha
    obtain ⟨g, rfl⟩ : ∃ f, fuel = f + 1 := ⟨fuel - 1, by omega⟩
    have S := Y.1.2.2.1
    obtain ⟨n9, t1, t2⟩ := Y.1.1
    have hq := fun (β : Type) (z : Option β) => q_ckx (show p < 400 by omega) (by decide) z
    simp only [runF]
    by_cases c1 : isDg (t p) = true
    · obtain ⟨v, v1, v2, v3, v4⟩ := dg_v c1
      obtain ⟨Y2, x2⟩ := Y.setp (p' := p + 1) (by omega)
      obtain ⟨h', q1, q2, q3, q4⟩ := ih (p + 1) g _ (by omega) (by omega) (by omega) Y2 (by rw [i_I, if_neg (fun z => by omega)]; exact ha)
      refine ⟨h', ?_, x2.tr q2, by rw [if_pos c1]; exact q3, q4⟩
      rw [if_pos c1, ← q1]
      show fX12_number_L4_b _ _ _ _ _ _ = _
      unfold fX12_number_L4_b
      rw [q_ck (sk66 S), t1, Y.2.1.1, if_neg (nI_ge (show p < n by omega) (by omega)), sr66_16 S, p_rf, q_ck (sk79 S), sn79 S, hq, nI_clamp (by omega), t2 p (by omega), y_dig, p_cl, if_pos c1, if_neg (by decide)]
      refine (jn_eq (nI (nvA t p0 (p + 1))) (fun q' => ?_)).trans ?_
      · rw [nvA_s h0]
        by_cases c5 : 5 ≤ p - p0
        · rw [if_pos (show (5 : Int32) ≤ nI (p - p0) from nI_le (a := 5) c5 (by omega)), if_pos c5]
        · rw [if_neg (show ¬ (5 : Int32) ≤ nI (p - p0) from nI_ge (b := 5) (by omega) (by omega)), if_neg c5, q_ck (sk66 S), sr66_16 S, p_rf, q_ck (sk79 S), Y.2.1.1, sn79 S, hq, nI_clamp (by omega), t2 p (by omega), v2, show nI (48 + v) - 48 = nI v by rw [show (48 : Int32) = nI 48 by decide +kernel, nI_sub (by omega), Nat.add_sub_cancel_left], nI_clamp (by omega), show (10 : Int32) = nI 10 by decide +kernel, show (48 : Int32) = nI 48 by decide +kernel, nI_mul, nI_add, nI_sub (by omega), show 10 * nvA t p0 p + (48 + v) - 48 = 10 * nvA t p0 p + v by omega]
      · rw [nI_1, p_lt, q_ck (sk66 S), Y.2.1.1, nI_1, p_lt, show p - p0 + 1 = p + 1 - p0 by omega]
    · refine ⟨h, ?_, mX.rf S.1, by rw [if_neg c1]; exact Y, ha⟩
      rw [if_neg c1]
      show fX12_number_L4_b _ _ _ _ _ _ = _
      unfold fX12_number_L4_b
      rw [q_ck (sk66 S), t1, Y.2.1.1, if_neg (nI_ge (show p < n by omega) (by omega)), sr66_16 S, p_rf, q_ck (sk79 S), sn79 S, hq, nI_clamp (by omega), t2 p (by omega), y_dig, p_cl, if_neg c1, if_pos rfl]
theorem y_number (Y : yS B h t n L p d c s cs f) {a : Nat} (ha : mm_i h (B + 66) 19 = nI a) (hf : f < 2 ^ 30) : ∃ h', fX12_number (B + 66) h = some (nI (nvA t p (deF t n p)), h') ∧ mX B (wR B L) h h' ∧ yS B h' t n L (deF t n p) d c s cs (if 5 < deF t n p - p then fl f 1 a else f) := by
  have hp := Y.2.1.2
  have n9 := Y.1.1.1
  have hde := de_le (t := t) hp
  obtain ⟨h', q1, q2, q3, q4⟩ := y_nu_L4 (a := a) (p0 := p) (fun (z20 : Int32) (z21 : Int32) (g22 : mm_H) => if z21 ≤ (5 : Int32) then (some (z20, g22)) else (mm_ck (mm_kd g22 (B + 66) = 13) <| mm_cl (fX12_fails (B + 66) (1 : Int32) ((mm_i g22 (B + 66) 19)) g22) fun _ g25 => some (z20, g25))) (n - p) p mm_F h (by omega) (by unfold mm_F; omega) (Nat.le_refl _) Y ha
  rw [Nat.sub_self, nI_0, show nvA t p p = 0 by unfold nvA; rw [Nat.sub_self]; rfl, nI_0] at q1
  unfold fX12_number
  rw [q1, show runF isDg t (n - p) p = deF t n p from rfl]
  have q3' : yS B h' t n L (deF t n p) d c s cs f := q3
  by_cases e : 5 < deF t n p - p
  · obtain ⟨h2, k1, k2, k3, -⟩ := y_fails q3' 1 a hf
    refine ⟨h2, ?_, q2.tr k2, by rw [if_pos e]; exact k3⟩
    rw [if_neg (show ¬ nI (deF t n p - p) ≤ (5 : Int32) from nI_ge (a := 5) e (by omega)), q_ck (sk66 q3'.1.2.2.1), q4, show (1 : Int32) = nI 1 by decide +kernel, k1, p_cl]
  · refine ⟨h', ?_, q2, by rw [if_neg e]; exact q3'⟩
    rw [if_pos (show nI (deF t n p - p) ≤ (5 : Int32) from nI_le (b := 5) (by omega) (by omega))]
end KD
