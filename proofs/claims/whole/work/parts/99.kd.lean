/-! the reference reads: tokens -/
def sgn (t : Nat → Int32) (n p : Nat) : Int32 := if p < n then t p else -1
theorem sgF_iff (c : Int32) (s : Bool) : ((c = 40 ↔ sgF c s = 24) ∧ (c = 41 ↔ sgF c s = 25) ∧ (c = 42 ↔ sgF c s = 29) ∧ (c = 43 ↔ sgF c s = 27) ∧ (c = 45 ↔ sgF c s = 28) ∧ (c = 59 ↔ sgF c s = 26) ∧ (c = 91 ↔ sgF c s = 22) ∧ (c = 93 ↔ sgF c s = 23) ∧ (c = 61 ↔ sgF c s = 32)) ∧ ((c = 60 ∧ s = false ↔ sgF c s = 30) ∧ (c = 60 ∧ s = true ↔ sgF c s = 31) ∧ (c = 62 ∧ s = true ↔ sgF c s = 33) ∧ (c = 62 ∧ s = false ↔ sgF c s = 34)) ∧ 22 ≤ sgF c s ∧ sgF c s ≤ 36 ∧ sgF c s ≠ 35 := by
  by_cases e1 : c = 40
  · subst e1; cases s <;> decide +kernel
  by_cases e2 : c = 41
  · subst e2; cases s <;> decide +kernel
  by_cases e3 : c = 42
  · subst e3; cases s <;> decide +kernel
  by_cases e4 : c = 43
  · subst e4; cases s <;> decide +kernel
  by_cases e5 : c = 45
  · subst e5; cases s <;> decide +kernel
  by_cases e6 : c = 59
  · subst e6; cases s <;> decide +kernel
  by_cases e7 : c = 60
  · subst e7; cases s <;> decide +kernel
  by_cases e8 : c = 61
  · subst e8; cases s <;> decide +kernel
  by_cases e9 : c = 62
  · subst e9; cases s <;> decide +kernel
  by_cases e10 : c = 91
  · subst e10; cases s <;> decide +kernel
  by_cases e11 : c = 93
  · subst e11; cases s <;> decide +kernel
  have : sgF c s = 36 := by
    unfold sgF
    rw [if_neg e1, if_neg e2, if_neg e3, if_neg e4, if_neg e5, if_neg e6, if_neg e7, if_neg e8, if_neg e9, if_neg e10, if_neg e11]
  rw [this]
  simp [e1, e2, e3, e4, e5, e6, e7, e8, e9, e10, e11]
section KE
variable {t : Nat → Int32} {n p : Nat}
theorem tk_b : tkF t n p ≤ 36 := by
  unfold tkF
  by_cases c0 : n ≤ p
  · rw [if_pos c0]; omega
  rw [if_neg c0]
  by_cases c1 : isDg (t p) = true
  · rw [if_pos c1]; omega
  rw [if_neg c1]
  by_cases c2 : isLt (t p) = true
  · rw [if_pos c2]
    rcases wtk_b (t := t) (p := p) (e := weF t n p) with z | z <;> omega
  · rw [if_neg c2]; exact (sgF_iff _ _).2.2.2.1
theorem sg_iff (hp : p ≤ n) : ((sgn t n p = 40 ↔ tkF t n p = 24) ∧ (sgn t n p = 41 ↔ tkF t n p = 25) ∧ (sgn t n p = 42 ↔ tkF t n p = 29) ∧ (sgn t n p = 43 ↔ tkF t n p = 27) ∧ (sgn t n p = 45 ↔ tkF t n p = 28) ∧ (sgn t n p = 59 ↔ tkF t n p = 26) ∧ (sgn t n p = 91 ↔ tkF t n p = 22) ∧ (sgn t n p = 93 ↔ tkF t n p = 23) ∧ (sgn t n p = 61 ↔ tkF t n p = 32)) ∧ ((sgn t n p = 60 ∧ smF t n p = false ↔ tkF t n p = 30) ∧ (sgn t n p = 60 ∧ smF t n p = true ↔ tkF t n p = 31) ∧ (sgn t n p = 62 ∧ smF t n p = true ↔ tkF t n p = 33) ∧ (sgn t n p = 62 ∧ smF t n p = false ↔ tkF t n p = 34)) ∧ (isDg (sgn t n p) = true ↔ tkF t n p = 21) ∧ (n ≤ p ↔ tkF t n p = 35) := by
  unfold tkF sgn
  by_cases c0 : n ≤ p
  · rw [if_pos c0, if_neg (by omega)]
    refine ⟨by decide +kernel, ⟨⟨fun z => absurd z.1 (by decide), fun z => by omega⟩, ⟨fun z => absurd z.1 (by decide), fun z => by omega⟩, ⟨fun z => absurd z.1 (by decide), fun z => by omega⟩, fun z => absurd z.1 (by decide), fun z => by omega⟩, by decide +kernel, fun _ => rfl, fun _ => c0⟩
  rw [if_neg c0, if_pos (by omega)]
  by_cases c1 : isDg (t p) = true
  · rw [if_pos c1]
    have hne : ∀ c : Int32, isDg c = false → t p ≠ c := fun c hc z => by rw [z, hc] at c1; cases c1
    have h1 := hne 40 (by decide); have h2 := hne 41 (by decide); have h3 := hne 42 (by decide); have h4 := hne 43 (by decide); have h5 := hne 45 (by decide); have h6 := hne 59 (by decide); have h7 := hne 91 (by decide); have h8 := hne 93 (by decide); have h9 := hne 61 (by decide); have h10 := hne 60 (by decide); have h11 := hne 62 (by decide)
    simp [h1, h2, h3, h4, h5, h6, h7, h8, h9, h10, h11, c1]
    omega
  rw [if_neg c1]
  by_cases c2 : isLt (t p) = true
  · rw [if_pos c2]
    have hne : ∀ c : Int32, isLt c = false → t p ≠ c := fun c hc z => by rw [z, hc] at c2; cases c2
    have h1 := hne 40 (by decide); have h2 := hne 41 (by decide); have h3 := hne 42 (by decide); have h4 := hne 43 (by decide); have h5 := hne 45 (by decide); have h6 := hne 59 (by decide); have h7 := hne 91 (by decide); have h8 := hne 93 (by decide); have h9 := hne 61 (by decide); have h10 := hne 60 (by decide); have h11 := hne 62 (by decide)
    have w : ∀ k, 21 ≤ k → k ≠ 36 → wtk t p (weF t n p) ≠ k := fun k h1 h2 => by
      rcases wtk_b (t := t) (p := p) (e := weF t n p) with z | z <;> omega
    have c1' : isDg (t p) = false := by simpa using c1
    simp [h1, h2, h3, h4, h5, h6, h7, h8, h9, h10, h11, c1', w 24, w 25, w 29, w 27, w 28, w 26, w 22, w 23, w 32, w 30, w 31, w 33, w 34, w 21, w 35]
    omega
  · rw [if_neg c2]
    obtain ⟨a1, a2, a3, a4, a5⟩ := sgF_iff (t p) (smF t n p)
    exact ⟨a1, a2, ⟨fun z => absurd z c1, fun z => by omega⟩, fun z => absurd z c0, fun z => absurd z a5⟩
theorem rw_iff (hp : p ≤ n) {w : Nat} (hw : w < 21) : rIs t p (weF t n p) (tx_w w) = true ↔ tkF t n p = w := by
  obtain ⟨w1, w2, w3⟩ := tx_w22 w hw
  by_cases c0 : p < n ∧ isLt (t p) = true
  · have hd : ¬ isDg (t p) = true := fun z => by
      have h1 := c0.2
      unfold isDg at z
      unfold isLt at h1
      rw [Bool.and_eq_true, decide_eq_true_eq, decide_eq_true_eq] at z h1
      exact absurd (Int32.le_trans h1.1 z.2) (by decide)
    unfold tkF
    rw [if_neg (by omega), if_neg hd, if_pos c0.2]
    exact (wtk_iff hw).symm
  · have hwe : weF t n p = p := by
      by_cases c1 : p < n
      · show runF isLt t (n - p) p = p
        rw [runF_step c1, if_neg (fun z => c0 ⟨c1, z⟩)]
      · exact runF_stop (by omega)
    constructor
    · intro z
      have := (rIs_iff.mp z).1
      omega
    · intro z
      exfalso
      unfold tkF at z
      by_cases c1 : n ≤ p
      · rw [if_pos c1] at z; omega
      rw [if_neg c1] at z
      by_cases c2 : isDg (t p) = true
      · rw [if_pos c2] at z; omega
      rw [if_neg c2, if_neg (fun y => c0 ⟨by omega, y⟩)] at z
      have := (sgF_iff (t p) (smF t n p)).2.2.1
      omega
theorem nx_word (h : tkF t n p < 21) : weF t n p = nxF t n p := by
  unfold tkF at h
  unfold nxF
  by_cases c1 : n ≤ p
  · rw [if_pos c1] at h; omega
  rw [if_neg c1] at h ⊢
  by_cases c2 : isDg (t p) = true
  · rw [if_pos c2] at h; omega
  rw [if_neg c2] at h ⊢
  by_cases c3 : isLt (t p) = true
  · rw [if_pos c3]
  · rw [if_neg c3] at h
    have := (sgF_iff (t p) (smF t n p)).2.2.1
    omega
theorem nx_num (h : tkF t n p = 21) : deF t n p = nxF t n p := by
  unfold tkF at h
  unfold nxF
  by_cases c1 : n ≤ p
  · rw [if_pos c1] at h; omega
  rw [if_neg c1] at h ⊢
  by_cases c2 : isDg (t p) = true
  · rw [if_pos c2]
  rw [if_neg c2] at h
  by_cases c3 : isLt (t p) = true
  · rw [if_pos c3] at h
    rcases wtk_b (t := t) (p := p) (e := weF t n p) with z | z <;> omega
  · rw [if_neg c3] at h
    have := (sgF_iff (t p) (smF t n p)).2.2.1
    omega
theorem nx_sign (h1 : 22 ≤ tkF t n p) (h2 : tkF t n p ≤ 34) : nxF t n p = if tkF t n p = 31 ∨ tkF t n p = 33 then p + 2 else p + 1 := by
  unfold tkF at h1 h2 ⊢
  unfold nxF
  by_cases c1 : n ≤ p
  · rw [if_pos c1] at h2; omega
  rw [if_neg c1] at h1 h2 ⊢
  rw [if_neg c1]
  by_cases c2 : isDg (t p) = true
  · rw [if_pos c2] at h1; omega
  rw [if_neg c2] at h1 h2 ⊢
  rw [if_neg c2]
  by_cases c3 : isLt (t p) = true
  · rw [if_pos c3] at h1 h2
    rcases wtk_b (t := t) (p := p) (e := weF t n p) with z | z <;> omega
  · rw [if_neg c3, if_neg c3]
end KE
/-- how many that go deeper are open -/
def dc : List Nat → Nat
  | [] => 0
  | k :: r => dc r + if 14 ≤ k then 1 else 0
def tp (s : List Nat) : Nat := s.headD 0
def sumS (b : Bool) : List Nat → List (Nat × Nat) → List Nat × List (Nat × Nat)
  | [], cs => ([], cs)
  | k :: r, cs => if k = 5 ∨ (b = false ∧ (k = 3 ∨ k = 4)) then sumS b r ((k, 0) :: cs) else (k :: r, cs)
def andS (b : Bool) : List Nat → List (Nat × Nat) → List Nat × List (Nat × Nat)
  | [], cs => ([], cs)
  | k :: r, cs => if k = 12 ∨ (b = true ∧ k = 13) then andS b r ((k, 0) :: cs) else (k :: r, cs)
def notS : List Nat → List (Nat × Nat) → List Nat × List (Nat × Nat)
  | [], cs => ([], cs)
  | k :: r, cs => if k = 14 then notS r ((14, 0) :: cs) else (k :: r, cs)
section KF
variable {B : Nat} {h h' : mm_H} {t : Nat → Int32} {n L p d c f i q : Nat} {s : List Nat} {cs : List (Nat × Nat)}
theorem topI_iff {s : List Nat} (hk : ∀ k, k ∈ s → k ≤ 16) {v : Nat} (h1 : 1 ≤ v) (h2 : v ≤ 16) : topI s = nI v ↔ tp s = v := by
  cases s with
  | nil =>
    constructor
    · intro z; exact absurd z.symm (nI_neg1 (by omega))
    · intro z
      have : (0 : Nat) = v := z
      omega
  | cons k r =>
    have := hk k (List.mem_cons.mpr (Or.inl rfl))
    exact nI_eq (by omega) (by omega)
theorem y_pe {k : Nat} (Y : yS B h t n L p d c (k :: s) cs f) : ∃ h', (∀ (β : Type) (cont : mm_H → Option (β × mm_H)), (mm_ck (mm_kd h (B + 66) = 13) <| mm_lt (mm_setI h (B + 66) 34 (((mm_i h (B + 66) 34) - (1 : Int32)))) fun g8 => mm_rf (mm_r g8 (B + 66) 35) fun u9 => mm_ck (mm_kd g8 u9 = 14) <| mm_ck (mm_ix ((mm_i g8 (B + 66) 34)) (mm_n g8 u9)) <| mm_cl (fX12_emits (B + 66) ((mm_i g8 u9 (mm_i g8 (B + 66) 34).toNatClampNeg)) (0 : Int32) g8) fun _ g12 => cont g12) = cont h') ∧ mX B (wR B L) h h' ∧ yS B h' t n L p d c s ((k, 0) :: cs) f := by
  obtain ⟨⟨Y2, x2⟩, e34, e89, h4⟩ := Y.pop
  have S := Y.1.2.2.1
  have hb := Y.2.2.2.2.2.2.2.2.2
  rw [List.length_cons] at hb
  obtain ⟨g1, e1⟩ : ∃ g1, g1 = mm_setI h (B + 66) 34 (mm_i h (B + 66) 34 - 1) := ⟨_, rfl⟩
  rw [← e1] at Y2 x2 e34 e89
  have S1 := Y2.1.2.2.1
  obtain ⟨h', q1, q2, q3⟩ := y_emits Y2 (o := k) (v := 0) (by omega)
  have hq := fun (β : Type) (z : Option β) => q_ckx h4 (by decide) z
  refine ⟨h', fun β cont => ?_, x2.tr q2, q3⟩
  rw [q_ck (sk66 S), p_lt, ← e1, sr66_35 S1, p_rf, q_ck (sk89 S1), e34, sn89 S1, hq, nI_clamp (by omega), e89, ← nI_0, q1, p_cl]
theorem y_sums_L0 {b : Bool} (K : mm_H → Option (Unit × mm_H)) : ∀ (s : List Nat) (cs : List (Nat × Nat)) (fuel : Nat) (h : mm_H), (∀ k, k ∈ s → k ≤ 16) → s.length < fuel → yS B h t n L p d c s cs f → ∃ h', fX12_sums_L0 (B + 66) (if b = true then 1 else 0) K fuel h = K h' ∧ mX B (wR B L) h h' ∧ yS B h' t n L p d c (sumS b s cs).1 (sumS b s cs).2 f := by
  intro s
  induction s with
  | nil =>
    intro cs fuel h hk hf Y
    obtain ⟨g, rfl⟩ : ∃ f, fuel = f + 1 := ⟨fuel - 1, by omega⟩
    have S := Y.1.2.2.1
    have ht := y_top Y
    refine ⟨h, ?_, mX.rf S.1, Y⟩
    show fX12_sums_L0_b _ _ _ _ _ = _
    unfold fX12_sums_L0_b
    rw [q_ck (sk66 S), ht, p_cl, p_jn, if_neg (show ¬ topI [] = (5 : Int32) by decide)]
    cases b with
    | true => rw [if_pos rfl, if_pos (by decide)]
    | false => rw [if_neg (show ¬ false = true by decide), if_neg (not_not_intro rfl), q_ck (sk66 S), ht, p_cl, if_neg (show ¬ topI [] = (3 : Int32) by decide), q_ck (sk66 S), ht, p_cl, if_pos (show ¬ topI [] = (4 : Int32) by decide)]
  | cons k r ih =>
    intro cs fuel h hk hf Y
    obtain ⟨g, rfl⟩ : ∃ f, fuel = f + 1 := ⟨fuel - 1, by omega⟩
    have S := Y.1.2.2.1
    have ht := y_top Y
    have hk9 := hk k (List.mem_cons.mpr (Or.inl rfl))
    rw [List.length_cons] at hf
    have i5 : (topI (k :: r) = (5 : Int32)) ↔ k = 5 := nI_eq (b := 5) (by omega) (by omega)
    have i3 : (topI (k :: r) = (3 : Int32)) ↔ k = 3 := nI_eq (b := 3) (by omega) (by omega)
    have i4 : (topI (k :: r) = (4 : Int32)) ↔ k = 4 := nI_eq (b := 4) (by omega) (by omega)
    simp only [sumS]
    by_cases w : k = 5 ∨ (b = false ∧ (k = 3 ∨ k = 4))
    · obtain ⟨g1, p1, p2, p3⟩ := y_pe Y
      obtain ⟨h', q1, q2, q3⟩ := ih ((k, 0) :: cs) g g1 (fun k hk' => hk k (List.mem_cons.mpr (Or.inr hk'))) (by omega) p3
      refine ⟨h', ?_, p2.tr q2, by rw [if_pos w]; exact q3⟩
      rw [← q1]
      show fX12_sums_L0_b _ _ _ _ _ = _
      unfold fX12_sums_L0_b
      rw [q_ck (sk66 S), ht, p_cl]
      refine (jn_eq h (fun q' => ?_)).trans (p1 _ _)
      rcases w with w | ⟨w1, w2⟩
      · rw [if_pos (i5.mpr w)]
      · by_cases w5 : k = 5
        · rw [if_pos (i5.mpr w5)]
        · rw [if_neg (fun z => w5 (i5.mp z)), w1, if_neg (show ¬ false = true by decide), if_neg (not_not_intro rfl), q_ck (sk66 S), ht, p_cl]
          by_cases w3 : k = 3
          · rw [if_pos (i3.mpr w3)]
          · rw [if_neg (fun z => w3 (i3.mp z)), q_ck (sk66 S), ht, p_cl, if_neg (not_not_intro (i4.mpr (by omega)))]
    · refine ⟨h, ?_, mX.rf S.1, by rw [if_neg w]; exact Y⟩
      show fX12_sums_L0_b _ _ _ _ _ = _
      unfold fX12_sums_L0_b
      rw [q_ck (sk66 S), ht, p_cl, p_jn, if_neg (fun z => w (Or.inl (i5.mp z)))]
      cases b with
      | true => rw [if_pos rfl, if_pos (by decide)]
      | false => rw [if_neg (show ¬ false = true by decide), if_neg (not_not_intro rfl), q_ck (sk66 S), ht, p_cl, if_neg (fun z => w (Or.inr ⟨rfl, Or.inl (i3.mp z)⟩)), q_ck (sk66 S), ht, p_cl, if_pos (fun z => w (Or.inr ⟨rfl, Or.inr (i4.mp z)⟩))]
theorem y_ands_L0 {b : Bool} (K : mm_H → Option (Unit × mm_H)) : ∀ (s : List Nat) (cs : List (Nat × Nat)) (fuel : Nat) (h : mm_H), (∀ k, k ∈ s → k ≤ 16) → s.length < fuel → yS B h t n L p d c s cs f → ∃ h', fX12_ands_L0 (B + 66) (if b = true then 1 else 0) K fuel h = K h' ∧ mX B (wR B L) h h' ∧ yS B h' t n L p d c (andS b s cs).1 (andS b s cs).2 f := by
  intro s
  induction s with
  | nil =>
    intro cs fuel h hk hf Y
    obtain ⟨g, rfl⟩ : ∃ f, fuel = f + 1 := ⟨fuel - 1, by omega⟩
    have S := Y.1.2.2.1
    have ht := y_top Y
    refine ⟨h, ?_, mX.rf S.1, Y⟩
    show fX12_ands_L0_b _ _ _ _ _ = _
    unfold fX12_ands_L0_b
    rw [q_ck (sk66 S), ht, p_cl, p_jn, if_neg (show ¬ topI [] = (12 : Int32) by decide)]
    cases b with
    | false => rw [if_neg (show ¬ false = true by decide), if_pos rfl]
    | true => rw [if_pos rfl, if_neg (show ¬ (1 : Int32) = 0 by decide), q_ck (sk66 S), ht, p_cl, if_pos (show ¬ topI [] = (13 : Int32) by decide)]
  | cons k r ih =>
    intro cs fuel h hk hf Y
    obtain ⟨g, rfl⟩ : ∃ f, fuel = f + 1 := ⟨fuel - 1, by omega⟩
    have S := Y.1.2.2.1
    have ht := y_top Y
    have hk9 := hk k (List.mem_cons.mpr (Or.inl rfl))
    rw [List.length_cons] at hf
    have i12 : (topI (k :: r) = (12 : Int32)) ↔ k = 12 := nI_eq (b := 12) (by omega) (by omega)
    have i13 : (topI (k :: r) = (13 : Int32)) ↔ k = 13 := nI_eq (b := 13) (by omega) (by omega)
    simp only [andS]
    by_cases w : k = 12 ∨ (b = true ∧ k = 13)
    · obtain ⟨g1, p1, p2, p3⟩ := y_pe Y
      obtain ⟨h', q1, q2, q3⟩ := ih ((k, 0) :: cs) g g1 (fun k hk' => hk k (List.mem_cons.mpr (Or.inr hk'))) (by omega) p3
      refine ⟨h', ?_, p2.tr q2, by rw [if_pos w]; exact q3⟩
      rw [← q1]
      show fX12_ands_L0_b _ _ _ _ _ = _
      unfold fX12_ands_L0_b
      rw [q_ck (sk66 S), ht, p_cl]
      refine (jn_eq h (fun q' => ?_)).trans (p1 _ _)
      rcases w with w | ⟨w1, w2⟩
      · rw [if_pos (i12.mpr w)]
      · by_cases w5 : k = 12
        · rw [if_pos (i12.mpr w5)]
        · rw [if_neg (fun z => w5 (i12.mp z)), w1, if_pos rfl, if_neg (show ¬ (1 : Int32) = 0 by decide), q_ck (sk66 S), ht, p_cl, if_neg (not_not_intro (i13.mpr w2))]
    · refine ⟨h, ?_, mX.rf S.1, by rw [if_neg w]; exact Y⟩
      show fX12_ands_L0_b _ _ _ _ _ = _
      unfold fX12_ands_L0_b
      rw [q_ck (sk66 S), ht, p_cl, p_jn, if_neg (fun z => w (Or.inl (i12.mp z)))]
      cases b with
      | false => rw [if_neg (show ¬ false = true by decide), if_pos rfl]
      | true => rw [if_pos rfl, if_neg (show ¬ (1 : Int32) = 0 by decide), q_ck (sk66 S), ht, p_cl, if_pos (fun z => w (Or.inr ⟨rfl, i13.mp z⟩))]
theorem y_nots_L0 (K : mm_H → Option (Int32 × mm_H)) : ∀ (s : List Nat) (cs : List (Nat × Nat)) (fuel : Nat) (h : mm_H), (∀ k, k ∈ s → k ≤ 16) → s.length < fuel → yS B h t n L p (dc s) c s cs f → ∃ h', fX12_hasFact_L0 (B + 66) K fuel h = K h' ∧ mX B (wR B L) h h' ∧ yS B h' t n L p (dc (notS s cs).1) c (notS s cs).1 (notS s cs).2 f := by
  intro s
  induction s with
  | nil =>
    intro cs fuel h hk hf Y
    obtain ⟨g, rfl⟩ : ∃ f, fuel = f + 1 := ⟨fuel - 1, by omega⟩
    have S := Y.1.2.2.1
    refine ⟨h, ?_, mX.rf S.1, Y⟩
    show fX12_hasFact_L0_b _ _ _ _ = _
    unfold fX12_hasFact_L0_b
    rw [q_ck (sk66 S), y_top Y, p_cl, if_pos (show ¬ topI [] = (14 : Int32) by decide)]
  | cons k r ih =>
    intro cs fuel h hk hf Y
    obtain ⟨g, rfl⟩ : ∃ f, fuel = f + 1 := ⟨fuel - 1, by omega⟩
    have S := Y.1.2.2.1
    have hk9 := hk k (List.mem_cons.mpr (Or.inl rfl))
    rw [List.length_cons] at hf
    have i14 : (topI (k :: r) = (14 : Int32)) ↔ k = 14 := nI_eq (b := 14) (by omega) (by omega)
    simp only [notS]
    by_cases w : k = 14
    · subst w
      have hb := Y.2.2.2.2.2.2.2.2.2
      rw [List.length_cons] at hb
      obtain ⟨⟨Y2, x2⟩, e34, e89, h4⟩ := Y.pop
      obtain ⟨g1, e1⟩ : ∃ g1, g1 = mm_setI h (B + 66) 34 (mm_i h (B + 66) 34 - 1) := ⟨_, rfl⟩
      rw [← e1] at Y2 x2 e34 e89
      obtain ⟨Y3, x3⟩ := Y2.setd (d' := dc r)
      have e21 : mm_i g1 (B + 66) 21 - 1 = nI (dc r) := by
        rw [Y2.2.2.2.1]
        show nI (dc r + 1) - 1 = _
        rw [nI_pred]
      rw [← e21] at Y3 x3
      obtain ⟨g2, e2⟩ : ∃ g2, g2 = mm_setI g1 (B + 66) 21 (mm_i g1 (B + 66) 21 - 1) := ⟨_, rfl⟩
      rw [← e2] at Y3 x3
      obtain ⟨g3, q1, q2, q3⟩ := y_emits Y3 (o := 14) (v := 0) (by omega)
      obtain ⟨h', r1, r2, r3⟩ := ih ((14, 0) :: cs) g g3 (fun k hk' => hk k (List.mem_cons.mpr (Or.inr hk'))) (by omega) q3
      refine ⟨h', ?_, ((x2.tr x3).tr q2).tr r2, by rw [if_pos rfl]; exact r3⟩
      rw [← r1]
      show fX12_hasFact_L0_b _ _ _ _ = _
      unfold fX12_hasFact_L0_b
      rw [q_ck (sk66 S), y_top Y, p_cl, if_neg (not_not_intro (i14.mpr rfl)), q_ck (sk66 S), p_lt, ← e1, p_lt, ← e2, show (14 : Int32) = nI 14 by decide +kernel, ← nI_0, q1, p_cl]
    · refine ⟨h, ?_, mX.rf S.1, by rw [if_neg w]; exact Y⟩
      show fX12_hasFact_L0_b _ _ _ _ = _
      unfold fX12_hasFact_L0_b
      rw [q_ck (sk66 S), y_top Y, p_cl, if_pos (fun z => w (i14.mp z))]
end KF
