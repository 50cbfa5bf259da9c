/-! the books joined: the class -/
def bX (B : Nat) (h : mm_H) (n0 n1 : Nat) (m0 m1 : Nat → Int32) (c0 c1 d0 d1 : Nat → Nat) : Prop := (n0 ≤ 10 ∧ n1 ≤ 10) ∧ mm_i h (B + 53) 0 = nI n0 ∧ mm_i h (B + 53) 1 = nI n1 ∧ (∀ k, k < n0 → mm_i h (B + 58) k = m0 k ∧ (mm_i h (B + 61) k = nI (c0 k) ∧ c0 k ≤ 1000000) ∧ mm_i h (B + 55) k = nI (d0 k) ∧ d0 k ≤ 3999) ∧ ∀ k, k < n1 → mm_i h (B + 59) k = m1 k ∧ (mm_i h (B + 62) k = nI (c1 k) ∧ c1 k ≤ 1000000) ∧ mm_i h (B + 56) k = nI (d1 k) ∧ d1 k ≤ 3999
def jok (m0 m1 : Nat → Int32) (c0 c1 d0 d1 : Nat → Nat) (co da i j : Nat) : Bool := decide (m0 i = m1 j) && (decide (dst (c0 i) (c1 j) ≤ co) && decide (dst (d0 i) (d1 j) ≤ da))
def jX (m0 m1 : Nat → Int32) (c0 c1 d0 d1 : Nat → Nat) (co da i j : Nat) : Nat := if jok m0 m1 c0 c1 d0 d1 co da i j = true then (10001 - dst (c0 i) (c1 j)) * 10001 - dst (d0 i) (d1 j) else 0
def jY (m0 m1 : Nat → Int32) (c0 c1 d0 d1 : Nat → Nat) (co da i j : Nat) : Nat := if jok m0 m1 c0 c1 d0 d1 co da i j = true then 10000000000 - 100000 * dst (c0 i) (c1 j) - dst (d0 i) (d1 j) else 0
theorem jXY {m0 m1 : Nat → Int32} {c0 c1 d0 d1 : Nat → Nat} {co da : Nat} (hco : co ≤ 1000) (hda : da ≤ 1000) (i j : Nat) : Jw (jX m0 m1 c0 c1 d0 d1 co da i j) (jY m0 m1 c0 c1 d0 d1 co da i j) := by
  unfold jX jY
  by_cases c : jok m0 m1 c0 c1 d0 d1 co da i j = true
  · rw [if_pos c, if_pos c]
    unfold jok at c
    simp only [Bool.and_eq_true, decide_eq_true_eq] at c
    exact Or.inr ⟨dst (c0 i) (c1 j), dst (d0 i) (d1 j), by omega, by omega, by omega, by omega⟩
  · rw [if_neg c, if_neg c]; exact Or.inl ⟨rfl, rfl⟩
/-- where a join writes in the class -/
def wJ (B a : Nat) : Nat → Nat → Prop := fun x i => x = B + 63 ∨ x = B + 64 ∨ x = a ∨ (x = B + 52 ∧ 5 ≤ i ∧ i ≤ 7)
def xA (B : Nat) (h : mm_H) (a : Nat) : Prop := mm_r h (B + 52) 9 = some a ∧ mm_kd h a = 14 ∧ mm_n h a = 11264 ∧ B + 147 ≤ a ∧ a < mm_sz h
section JB
variable {B a : Nat} {h hx hy h' : mm_H} {n0 n1 : Nat} {m0 m1 : Nat → Int32} {c0 c1 d0 d1 : Nat → Nat} {co da : Nat} {w : Nat → Nat → Nat}
theorem wJ_no {j k : Nat} (ha : B + 147 ≤ a) (hj : j < 147) (h1 : j ≠ 63 ∧ j ≠ 64 ∧ j ≠ 52) : ¬ wJ B a (B + j) k := by
  rintro (z | z | z | z) <;> omega
theorem bX.up (X : bX B h n0 n1 m0 m1 c0 c1 d0 d1) (ha : B + 147 ≤ a) (x : mX B (wJ B a) h h') : bX B h' n0 n1 m0 m1 c0 c1 d0 d1 := by
  have hB := x.1.2.2
  have e : ∀ j k, j < 147 → j ≠ 63 ∧ j ≠ 64 ∧ j ≠ 52 → mm_i h' (B + j) k = mm_i h (B + j) k := fun j k hj h1 => x.i (by omega) (wJ_no ha hj h1)
  obtain ⟨X0, X1, X2, X3, X4⟩ := X
  refine ⟨X0, (e 53 0 (by omega) (by omega)).trans X1, (e 53 1 (by omega) (by omega)).trans X2, fun k hk => ?_, fun k hk => ?_⟩
  · rw [e 58 k (by omega) (by omega), e 61 k (by omega) (by omega), e 55 k (by omega) (by omega)]; exact X3 k hk
  · rw [e 59 k (by omega) (by omega), e 62 k (by omega) (by omega), e 56 k (by omega) (by omega)]; exact X4 k hk
theorem xA.up (X : xA B h a) (x : mX B (wJ B a) h h') : xA B h' a := by
  obtain ⟨a1, a2, a3, a4, a5⟩ := X
  have hB := x.1.2.2
  refine ⟨(x.r (by omega) ?_).trans a1, (x.kd a5).trans a2, (x.n a5).trans a3, a4, Nat.lt_of_lt_of_le a5 x.1.1⟩
  rintro (z | z | z | z) <;> omega
theorem x_coins (S : mS B h) (X : bX B h n0 n1 m0 m1 c0 c1 d0 d1) {i j : Nat} (hi : i < n0) (hj : j < n1) : fX1_coinsBetween (B + 52) (nI i) (nI j) h = some (nI (dst (c0 i) (c1 j)), h) ∧ fX1_daysBetween (B + 52) (nI i) (nI j) h = some (nI (dst (d0 i) (d1 j)), h) := by
  obtain ⟨⟨X0, X0'⟩, X1, X2, X3, X4⟩ := X
  obtain ⟨a1, ⟨a2, a2'⟩, a3, a3'⟩ := X3 i hi
  obtain ⟨b1, ⟨b2, b2'⟩, b3, b3'⟩ := X4 j hj
  have hqi := fun (β : Type) (z : Option β) => q_ckx (show i < 10 by omega) (by decide) z
  have hqj := fun (β : Type) (z : Option β) => q_ckx (show j < 10 by omega) (by decide) z
  have hci := nI_clamp (n := i) (by omega)
  have hcj := nI_clamp (n := j) (by omega)
  constructor
  · unfold fX1_coinsBetween
    rw [q_ck (sk52 S), sr52_3 S, p_rf, q_ck (sk60 S), sn60 S, q_ix0, q_c0, sr60_0 S, p_rf, q_ck (sk61 S), sn61 S, hqi, q_ix1, q_c1, sr60_1 S, p_rf, q_ck (sk62 S), sn62 S, hqj, hci, hcj, a2, b2, q_abs (by omega) (by omega), p_lt]
  · unfold fX1_daysBetween
    rw [q_ck (sk52 S), sr52_1 S, p_rf, q_ck (sk54 S), sn54 S, q_ix0, q_c0, sr54_0 S, p_rf, q_ck (sk55 S), sn55 S, hqi, q_ix1, q_c1, sr54_1 S, p_rf, q_ck (sk56 S), sn56 S, hqj, hci, hcj, a3, b3, q_abs (by omega) (by omega), p_lt]
theorem x_wp_L15 {i : Nat} (hi : i < n0) (hco : co ≤ 1000) (hda : da ≤ 1000) : ∀ (e j fuel : Nat) (h : mm_H), j + e = n1 → e < fuel → mS B h → bX B h n0 n1 m0 m1 c0 c1 d0 d1 → ∃ h', (∀ K, fX1_weighPairs_L15 (B + 52) (nI co) (nI da) (nI i) K fuel (nI j) h = K h') ∧ mX B (fun x _ => x = B + 64) h h' ∧ (∀ q, j ≤ q → q < n1 → mm_i h' (B + 64) (i * 10 + q) = nI (jX m0 m1 c0 c1 d0 d1 co da i q)) ∧ ∀ p, (p < i * 10 + j ∨ i * 10 + 10 ≤ p) → mm_i h' (B + 64) p = mm_i h (B + 64) p := by
  intro e
  induction e with
  | zero =>
    intro j fuel h hj hf S X
    obtain ⟨f, rfl⟩ : ∃ f, fuel = f + 1 := ⟨fuel - 1, by omega⟩
    have n9 := X.1
    refine ⟨h, fun K => ?_, mX.rf S.1, fun q h1 h2 => by omega, fun _ _ => rfl⟩
    show fX1_weighPairs_L15_b _ _ _ _ _ _ _ _ = _
    unfold fX1_weighPairs_L15_b
    simp only [q_c1]
    rw [q_ck (sk52 S), sr52_0 S, p_rf, q_ck (sk53 S), sn53 S, q_ix1, X.2.2.1, if_pos (nI_le (show n1 ≤ j by omega) (by omega))]
  | succ e ih =>
    intro j fuel h hj hf S X
    obtain ⟨f, rfl⟩ : ∃ f, fuel = f + 1 := ⟨fuel - 1, by omega⟩
    have n9 := X.1
    have hj2 : j < n1 := by omega
    obtain ⟨k1, k2⟩ := x_coins S X hi hj2
    have a1 := (X.2.2.2.1 i hi).1
    have b1 := (X.2.2.2.2 j hj2).1
    have hqi := fun (β : Type) (z : Option β) => q_ckx (show i < 10 by omega) (by decide) z
    have hqj := fun (β : Type) (z : Option β) => q_ckx (show j < 10 by omega) (by decide) z
    have hq64 := fun (β : Type) (z : Option β) => q_ckx (show i * 10 + j < 100 by omega) (by decide) z
    have hci := nI_clamp (n := i) (by omega)
    have hcj := nI_clamp (n := j) (by omega)
    have hc64 := nI_clamp (n := i * 10 + j) (by omega)
    have hidx : nI i * (10 : Int32) + nI j = nI (i * 10 + j) := by rw [show (10 : Int32) = nI 10 by decide +kernel, nI_mul, nI_add]
    obtain ⟨C, hC⟩ : ∃ C, C = dst (c0 i) (c1 j) := ⟨_, rfl⟩
    obtain ⟨Dd, hDd⟩ : ∃ D, D = dst (d0 i) (d1 j) := ⟨_, rfl⟩
    have hC9 : C ≤ 1000000 := by
      have x1 := (X.2.2.2.1 i hi).2.1.2
      have x2 := (X.2.2.2.2 j hj2).2.1.2
      rw [hC]; unfold dst; split <;> omega
    have hD9 : Dd ≤ 3999 := by
      have x1 := (X.2.2.2.1 i hi).2.2.2
      have x2 := (X.2.2.2.2 j hj2).2.2.2
      rw [hDd]; unfold dst; split <;> omega
    rw [← hC] at k1
    rw [← hDd] at k2
    obtain ⟨b, hb⟩ : ∃ b : Bool, b = jok m0 m1 c0 c1 d0 d1 co da i j := ⟨_, rfl⟩
    have hb2 : b = (decide (m0 i = m1 j) && (decide (C ≤ co) && decide (Dd ≤ da))) := by rw [hb, hC, hDd]; rfl
    obtain ⟨h1, e1⟩ : ∃ g, g = mm_setI h (B + 64) (i * 10 + j) (nI (jX m0 m1 c0 c1 d0 d1 co da i j)) := ⟨_, rfl⟩
    have x1 : mX B (fun x _ => x = B + 64) h h1 := by rw [e1]; exact (mX.rf S.1).I (Or.inl rfl)
    have S1 := x1.S S
    have X1 : bX B h1 n0 n1 m0 m1 c0 c1 d0 d1 := X.up (a := B + 147) (Nat.le_refl _) (x1.up fun x i _ z => Or.inr (Or.inl z))
    obtain ⟨h', q1, q2, q3, q4⟩ := ih (j + 1) f h1 (by omega) (by omega) S1 X1
    refine ⟨h', fun K => ?_, x1.tr q2, fun q h1' h2' => ?_, fun p hp => ?_⟩
    · rw [← q1 K]
      show fX1_weighPairs_L15_b _ _ _ _ _ _ _ _ = _
      unfold fX1_weighPairs_L15_b
      simp only [q_c1, q_c0, hci, hcj]
      rw [q_ck (sk52 S), sr52_0 S, p_rf, q_ck (sk53 S), sn53 S, q_ix1, X.2.2.1, if_neg (nI_ge hj2 (by omega)), k1, p_cl, q_ck (sk52 S), k2, p_cl, q_ck (sk52 S), sr52_2 S, p_rf, q_ck (sk57 S), sn57 S, q_ix0, sr57_0 S, p_rf, q_ck (sk58 S), sn58 S, hqi, q_ix1, sr57_1 S, p_rf, q_ck (sk59 S), sn59 S, hqj, a1, b1]
      refine (jn_eq (if b = true then (1 : Int32) else 0) (fun q => ?_)).trans ?_
      · rw [p_jn, hb2]
        by_cases w1 : m0 i = m1 j
        case neg => simp [w1]
        rw [if_neg (not_not_intro w1)]
        by_cases w2 : C ≤ co
        case neg => rw [if_pos (nI_lt (by omega) (by omega))]; simp [w2]
        rw [if_neg (nI_nlt w2 (by omega))]
        by_cases w3 : Dd ≤ da
        case neg => rw [if_pos (nI_lt (by omega) (by omega))]; simp [w3]
        rw [if_neg (nI_nlt w3 (by omega))]
        simp [w1, w2, w3]
      refine (jn_eq (nI (jX m0 m1 c0 c1 d0 d1 co da i j)) (fun q => ?_)).trans ?_
      · unfold jX
        rw [← hb, ← hC, ← hDd]
        cases b with
        | false => rw [if_pos (by decide), if_neg (by decide), nI_0]
        | true =>
          have w2 : C ≤ co ∧ Dd ≤ da := by
            have := hb2.symm
            simp only [Bool.and_eq_true, decide_eq_true_eq] at this
            exact this.2
          rw [if_pos rfl, if_neg (by decide), if_pos rfl, show (10001 : Int32) = nI 10001 by decide +kernel, nI_sub (by omega), nI_mul, nI_sub (by omega)]
      rw [sr52_8 S, p_rf, q_ck (sk64 S), sn64 S, hidx, hq64, hc64, ← e1, p_lt, p_lt, nI_1]
    · by_cases c : q = j
      · subst c; rw [q4 _ (by omega), e1, i_I_eq]
      · exact q3 q (by omega) h2'
    · rw [q4 p (by omega), e1, i_I, if_neg (fun z => by omega)]
theorem x_wp (hco : co ≤ 1000) (hda : da ≤ 1000) : ∀ (e i fuel : Nat) (h : mm_H), i + e = n0 → e < fuel → mS B h → bX B h n0 n1 m0 m1 c0 c1 d0 d1 → ∃ h', (∀ K, fX1_weighPairs_L2 (B + 52) (nI co) (nI da) K fuel (nI i) h = K h') ∧ mX B (fun x _ => x = B + 64) h h' ∧ (∀ p q, i ≤ p → p < n0 → q < n1 → mm_i h' (B + 64) (p * 10 + q) = nI (jX m0 m1 c0 c1 d0 d1 co da p q)) ∧ ∀ p, p < i * 10 → mm_i h' (B + 64) p = mm_i h (B + 64) p := by
  intro e
  induction e with
  | zero =>
    intro i fuel h hi hf S X
    obtain ⟨f, rfl⟩ : ∃ f, fuel = f + 1 := ⟨fuel - 1, by omega⟩
    have n9 := X.1
    refine ⟨h, fun K => ?_, mX.rf S.1, fun p q h1 h2 => by omega, fun _ _ => rfl⟩
    show fX1_weighPairs_L2_b _ _ _ _ _ _ _ = _
    unfold fX1_weighPairs_L2_b
    simp only [q_c0]
    rw [q_ck (sk52 S), sr52_0 S, p_rf, q_ck (sk53 S), sn53 S, q_ix0, X.2.1, if_pos (nI_le (show n0 ≤ i by omega) (by omega))]
  | succ e ih =>
    intro i fuel h hi hf S X
    obtain ⟨f, rfl⟩ : ∃ f, fuel = f + 1 := ⟨fuel - 1, by omega⟩
    have n9 := X.1
    have hi2 : i < n0 := by omega
    obtain ⟨h1, p1, p2, p3, p4⟩ := x_wp_L15 (B := B) hi2 hco hda n1 0 mm_F h (by omega) (by unfold mm_F; omega) S X
    simp only [nI_0] at p1
    have X1 : bX B h1 n0 n1 m0 m1 c0 c1 d0 d1 := X.up (a := B + 147) (Nat.le_refl _) (p2.up fun x i _ z => Or.inr (Or.inl z))
    obtain ⟨h', q1, q2, q3, q4⟩ := ih (i + 1) f h1 (by omega) (by omega) (p2.S S) X1
    refine ⟨h', fun K => ?_, p2.tr q2, fun p q h1' h2' h3' => ?_, fun p hp => ?_⟩
    · rw [← q1 K]
      show fX1_weighPairs_L2_b _ _ _ _ _ _ _ = _
      unfold fX1_weighPairs_L2_b
      simp only [q_c0]
      rw [q_ck (sk52 S), sr52_0 S, p_rf, q_ck (sk53 S), sn53 S, q_ix0, X.2.1, if_neg (nI_ge hi2 (by omega)), p1, p_lt, nI_1]
    · by_cases c : p = i
      · subst c; rw [q4 _ (by omega)]; exact p3 q (by omega) h3'
      · exact q3 p q (by omega) h2' h3'
    · rw [q4 p (by omega)]; exact p4 p (by omega)
theorem x_zero (S0 : n1 ≤ 10) {r : Nat} (hr : r ≤ 10) : ∀ (e s fuel : Nat) (h : mm_H), s + e = 2 ^ n1 → e < fuel → mS B h → xA B h a → ∃ h', (∀ K, fX1_findPairs_L42 (B + 52) (nI r) (nI (2 ^ n1)) K fuel (nI s) h = K h') ∧ mX B (fun x _ => x = a) h h' ∧ (∀ t, s ≤ t → t < 2 ^ n1 → mm_i h' a (r * 2 ^ n1 + t) = 0) ∧ ∀ p, p < r * 2 ^ n1 + s → mm_i h' a p = mm_i h a p := by
  have c9 := p_1024 n1 S0
  have cm : r * 2 ^ n1 ≤ 10 * 1024 := Nat.mul_le_mul hr c9
  intro e
  induction e with
  | zero =>
    intro s fuel h hs hf S X
    obtain ⟨f, rfl⟩ : ∃ f, fuel = f + 1 := ⟨fuel - 1, by omega⟩
    refine ⟨h, fun K => ?_, mX.rf S.1, fun q h1 h2 => by omega, fun _ _ => rfl⟩
    show fX1_findPairs_L42_b _ _ _ _ _ _ _ = _
    unfold fX1_findPairs_L42_b
    rw [if_pos (nI_le (show 2 ^ n1 ≤ s by omega) (by omega))]
  | succ e ih =>
    intro s fuel h hs hf S X
    obtain ⟨f, rfl⟩ : ∃ f, fuel = f + 1 := ⟨fuel - 1, by omega⟩
    obtain ⟨a1, a2, a3, a4, a5⟩ := id X
    have hidx : nI r * nI (2 ^ n1) + nI s = nI (r * 2 ^ n1 + s) := by rw [nI_mul, nI_add]
    have hq := fun (β : Type) (z : Option β) => q_ckx (show r * 2 ^ n1 + s < 11264 by omega) (by decide) z
    have hc := nI_clamp (n := r * 2 ^ n1 + s) (by omega)
    obtain ⟨h1, e1⟩ : ∃ g, g = mm_setI h a (r * 2 ^ n1 + s) 0 := ⟨_, rfl⟩
    have x1 : mX B (fun x _ => x = a) h h1 := by rw [e1]; exact (mX.rf S.1).I (Or.inl rfl)
    have X1 : xA B h1 a := X.up (x1.up fun x i _ z => Or.inr (Or.inr (Or.inl z)))
    obtain ⟨h', q1, q2, q3, q4⟩ := ih (s + 1) f h1 (by omega) (by omega) (x1.S S) X1
    refine ⟨h', fun K => ?_, x1.tr q2, fun t h1' h2' => ?_, fun p hp => ?_⟩
    · rw [← q1 K]
      show fX1_findPairs_L42_b _ _ _ _ _ _ _ = _
      unfold fX1_findPairs_L42_b
      simp only [hidx]
      rw [if_neg (nI_ge (show s < 2 ^ n1 by omega) (by omega)), q_ck (sk52 S), a1, p_rf, q_ck a2, a3, hq, hc, ← e1, p_lt, p_lt, nI_1]
    · by_cases c : t = s
      · subst c; rw [q4 _ (by omega), e1, i_I_eq]
      · exact q3 t (by omega) h2'
    · rw [q4 p (by omega), e1, i_I, if_neg (fun z => by omega)]
theorem x_best_L21 (S : mS B h) (X : bX B h n0 n1 m0 m1 c0 c1 d0 d1) (XA : xA B h a) {i s nx : Nat} (hi : i < n0) (hs : s < 2 ^ n1) (hnx : nx + 2 ^ n1 ≤ 11264) {u F : Nat → Nat} (hu : ∀ j, j < n1 → mm_i h (B + 64) (i * 10 + j) = nI (u j) ∧ u j ≤ 100020001) (hF : ∀ j, j < n1 → s.testBit j = false → mm_i h a (nx + (s ||| 2 ^ j)) = nI (F (s ||| 2 ^ j)) ∧ F (s ||| 2 ^ j) ≤ 1000200010) (K : Int32 → mm_H → Option (Int32 × mm_H)) : ∀ (e j fuel v : Nat), j + e = n1 → e < fuel → v ≤ 1100220011 → fX1_bestWorth_L21 (B + 52) (nI i) (nI s) (nI nx) K fuel (nI v) (nI j) h = K (nI (jF u F s e j v)) h := by
  obtain ⟨a1, a2, a3, a4, a5⟩ := id XA
  have n9 := X.1
  have c9 := p_1024 n1 n9.2
  intro e
  induction e with
  | zero =>
    intro j fuel v hj hf hv
    obtain ⟨f, rfl⟩ : ∃ f, fuel = f + 1 := ⟨fuel - 1, by omega⟩
    show fX1_bestWorth_L21_b _ _ _ _ _ _ _ _ _ = _
    unfold fX1_bestWorth_L21_b
    simp only [q_c1]
    rw [q_ck (sk52 S), sr52_0 S, p_rf, q_ck (sk53 S), sn53 S, q_ix1, X.2.2.1, if_pos (nI_le (show n1 ≤ j by omega) (by omega))]
    rfl
  | succ e ih =>
    intro j fuel v hj hf hv
    obtain ⟨f, rfl⟩ : ∃ f, fuel = f + 1 := ⟨fuel - 1, by omega⟩
    have hj2 : j < n1 := by omega
    obtain ⟨u1, u2⟩ := hu j hj2
    have hidx : nI i * (10 : Int32) + nI j = nI (i * 10 + j) := by rw [show (10 : Int32) = nI 10 by decide +kernel, nI_mul, nI_add]
    have hq64 := fun (β : Type) (z : Option β) => q_ckx (show i * 10 + j < 100 by omega) (by decide) z
    have hc64 := nI_clamp (n := i * 10 + j) (by omega)
    have hbit := jb_bit s (by omega) j (by omega)
    have hor := jb_or s (by omega) j (by omega)
    have hol := or_lt hs hj2
    have hqa := fun (β : Type) (z : Option β) => q_ckx (show nx + (s ||| 2 ^ j) < 11264 by omega) (by decide) z
    have hca := nI_clamp (n := nx + (s ||| 2 ^ j)) (by omega)
    show fX1_bestWorth_L21_b _ _ _ _ _ _ _ _ _ = _
    unfold fX1_bestWorth_L21_b
    simp only [q_c1, hidx, hc64]
    rw [q_ck (sk52 S), sr52_0 S, p_rf, q_ck (sk53 S), sn53 S, q_ix1, X.2.2.1, if_neg (nI_ge hj2 (by omega)), sr52_8 S, p_rf, q_ck (sk64 S), sn64 S, hq64, u1, p_lt, hbit]
    show _ = K (nI (jF u F s e (j + 1) (if 0 < u j ∧ s.testBit j = false then Nat.max v (u j + F (s ||| 2 ^ j)) else v))) h
    refine (jn_eq2 (nI (if 0 < u j ∧ s.testBit j = false then Nat.max v (u j + F (s ||| 2 ^ j)) else v)) h (fun q => ?_)).trans ?_
    · by_cases w1 : 0 < u j
      case neg =>
        rw [if_pos (by rw [← nI_0]; exact nI_le (by omega) (by omega)), if_neg (fun z => w1 z.1)]
      rw [if_neg (nI_nle w1 (by omega))]
      cases w2 : s.testBit j with
      | true => rw [if_pos (by decide), if_neg (fun z => by cases z.2)]
      | false =>
        obtain ⟨f1, f2⟩ := hF j hj2 w2
        rw [if_neg (by decide), if_pos ⟨w1, rfl⟩, a1, p_rf, q_ck a2, a3, hor, nI_add, hqa, hca, f1, nI_add, p_lt]
        by_cases w3 : v < u j + F (s ||| 2 ^ j)
        · rw [if_pos (nI_lt w3 (by omega))]
          congr 1
          congr 1
          exact (Nat.max_eq_right (Nat.le_of_lt w3)).symm
        · rw [if_neg (nI_nlt (by omega) (by omega))]
          congr 1
          congr 1
          exact (Nat.max_eq_left (by omega)).symm
    · rw [p_lt, nI_1]
      refine ih (j + 1) f _ (by omega) (by omega) ?_
      by_cases w1 : 0 < u j ∧ s.testBit j = false
      · rw [if_pos w1]
        have := (hF j hj2 w1.2).2
        exact Nat.max_le.mpr ⟨hv, by omega⟩
      · rw [if_neg w1]; exact hv
end JB
