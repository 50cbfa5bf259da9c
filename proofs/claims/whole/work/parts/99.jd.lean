/-! the books joined: the reference -/
def bY (B : Nat) (h : mm_H) (n0 n1 : Nat) (m0 m1 : Nat → Int32) (c0 c1 d0 d1 : Nat → Nat) : Prop := (n0 ≤ 10 ∧ n1 ≤ 10) ∧ mm_i h (B + 141) 0 = nI n0 ∧ mm_i h (B + 141) 1 = nI n1 ∧ (∀ k, k < n0 → mm_i h (B + 143) k = m0 k ∧ (mm_i h (B + 144) k = nI (c0 k) ∧ c0 k ≤ 1000000) ∧ mm_i h (B + 142) k = nI (d0 k) ∧ d0 k ≤ 3999) ∧ ∀ k, k < n1 → mm_i h (B + 143) (10 + k) = m1 k ∧ (mm_i h (B + 144) (10 + k) = nI (c1 k) ∧ c1 k ≤ 1000000) ∧ mm_i h (B + 142) (10 + k) = nI (d1 k) ∧ d1 k ≤ 3999
/-- where a join writes in the reference -/
def wK (B : Nat) : Nat → Nat → Prop := fun x i => x = B + 145 ∨ x = B + 146 ∨ (x = B + 66 ∧ (i = 108 ∨ i = 114 ∨ i = 115))
/-- the best worths of the rows from i on -/
def yR (B : Nat) (h : mm_H) (n0 n1 : Nat) (w : Nat → Nat → Nat) (i : Nat) : Prop := ∀ p s, i ≤ p → p ≤ n0 → s < 2 ^ n1 → mm_j h (B + 146) (p * 1024 + s) = lN (jR w n0 n1 (n0 - p) s)
theorem q_le {a b : Nat} (h : a ≤ b) (hb : b < 2 ^ 62) : lg_cmp (lN a) (lN b) ≤ 0 := by rw [lN_leB (by omega) hb]; exact h
theorem q_nle {a b : Nat} (h : b < a) (ha : a < 2 ^ 62) : ¬ lg_cmp (lN a) (lN b) ≤ 0 := by rw [lN_leB ha (by omega)]; omega
theorem q_neq {a b : Nat} (h : ¬ a = b) (ha : a < 2 ^ 62) (hb : b < 2 ^ 62) : ¬ lg_cmp (lN a) (lN b) = 0 := by rw [lN_eqB ha hb]; exact h
theorem q_eqr {a b : Nat} (h : a = b) : lg_cmp (lN a) (lN b) = 0 := by rw [h, lg_cmp_eq]
section JD
variable {B a : Nat} {h hx hy h' : mm_H} {n0 n1 : Nat} {m0 m1 : Nat → Int32} {c0 c1 d0 d1 : Nat → Nat} {co da : Nat} {w : Nat → Nat → Nat}
theorem bY.up (X : bY B h n0 n1 m0 m1 c0 c1 d0 d1) (x : mX B (wK B) h h') : bY B h' n0 n1 m0 m1 c0 c1 d0 d1 := by
  have hB := x.1.2.2
  have e : ∀ j k, j < 145 → j ≠ 66 → mm_i h' (B + j) k = mm_i h (B + j) k := fun j k hj h1 => x.i (by omega) (by rintro (z | z | z) <;> omega)
  obtain ⟨X0, X1, X2, X3, X4⟩ := X
  refine ⟨X0, (e 141 0 (by omega) (by omega)).trans X1, (e 141 1 (by omega) (by omega)).trans X2, fun k hk => ?_, fun k hk => ?_⟩
  · rw [e 143 k (by omega) (by omega), e 144 k (by omega) (by omega), e 142 k (by omega) (by omega)]; exact X3 k hk
  · rw [e 143 _ (by omega) (by omega), e 144 _ (by omega) (by omega), e 142 _ (by omega) (by omega)]; exact X4 k hk
theorem y_pairs (S : mS B h) (X : bY B h n0 n1 m0 m1 c0 c1 d0 d1) (hco : co ≤ 1000) (hda : da ≤ 1000) {i j : Nat} (hi : i < n0) (hj : j < n1) : fX12_pairs (B + 66) (nI i) (nI j) (nI co) (nI da) h = some (lN (jY m0 m1 c0 c1 d0 d1 co da i j), h) := by
  obtain ⟨⟨X0, X0'⟩, X1, X2, X3, X4⟩ := X
  obtain ⟨a1, ⟨a2, a2'⟩, a3, a3'⟩ := X3 i hi
  obtain ⟨b1, ⟨b2, b2'⟩, b3, b3'⟩ := X4 j hj
  have hqi := fun (β : Type) (z : Option β) => q_ckx (show i < 20 by omega) (by decide) z
  have hqj := fun (β : Type) (z : Option β) => q_ckx (show 10 + j < 20 by omega) (by decide) z
  have hci := nI_clamp (n := i) (by omega)
  have hcj := nI_clamp (n := 10 + j) (by omega)
  have h10 : (10 : Int32) + nI j = nI (10 + j) := by rw [show (10 : Int32) = nI 10 by decide +kernel, nI_add]
  have z0 : (0 : Int64) = lN 0 := by decide +kernel
  obtain ⟨b, hb⟩ : ∃ b : Bool, b = jok m0 m1 c0 c1 d0 d1 co da i j := ⟨_, rfl⟩
  have hb2 : b = (decide (m0 i = m1 j) && (decide (dst (c0 i) (c1 j) ≤ co) && decide (dst (d0 i) (d1 j) ≤ da))) := hb
  have hC9 : dst (c0 i) (c1 j) ≤ 1000000 := by unfold dst; split <;> omega
  have hD9 : dst (d0 i) (d1 j) ≤ 3999 := by unfold dst; split <;> omega
  unfold fX12_pairs jY
  simp only [h10, hci, hcj]
  rw [← hb, q_ck (sk66 S), sr66_112 S, p_rf, q_ck (sk144 S), sn144 S, hqi, hqj, a2, b2, q_off (by omega) (by omega), p_cl, q_ck (sk66 S), sr66_110 S, p_rf, q_ck (sk142 S), sn142 S, hqi, hqj, a3, b3, q_off (by omega) (by omega), p_cl, q_ck (sk66 S), sr66_111 S, p_rf, q_ck (sk143 S), sn143 S, hqi, hqj, a1, b1, z0]
  by_cases w1 : m0 i = m1 j
  case neg => rw [if_pos w1, hb2, decide_eq_false w1, Bool.false_and, if_neg (by decide)]
  rw [if_neg (not_not_intro w1)]
  by_cases w2 : dst (c0 i) (c1 j) ≤ co
  case neg => rw [if_pos (nI_lt (by omega) (by omega)), hb2, decide_eq_true w1, decide_eq_false w2, Bool.false_and, Bool.true_and, if_neg (by decide)]
  rw [if_neg (nI_nlt w2 (by omega))]
  by_cases w3 : dst (d0 i) (d1 j) ≤ da
  case neg => rw [if_neg (nI_ge (by omega) (by omega)), hb2, decide_eq_false w3, Bool.and_false, Bool.and_false, if_neg (by decide)]
  rw [if_pos (nI_le w3 (by omega)), hb2, decide_eq_true w1, decide_eq_true w2, decide_eq_true w3, Bool.true_and, Bool.true_and, if_pos rfl, nI_l (by omega), nI_l (by omega), show (100000 : Int64) = lN 100000 by decide +kernel, show (10000000000 : Int64) = lN 10000000000 by decide +kernel, lN_mul, lN_sub (by omega), lN_sub (by omega)]
theorem y_zero (S0 : n1 ≤ 10) {r : Nat} (hr : r ≤ 10) (b1 b2 : Int32) : ∀ (e s fuel : Nat) (h : mm_H), s + e = 2 ^ n1 → e < fuel → mS B h → ∃ h', (∀ K, fX12_join_L42 (B + 66) b1 b2 (nI r) (nI n1) K fuel (nI s) h = K h') ∧ mX B (fun x _ => x = B + 146) h h' ∧ (∀ t, s ≤ t → t < 2 ^ n1 → mm_j h' (B + 146) (r * 1024 + t) = lN 0) ∧ ∀ p, p < r * 1024 + s → mm_j h' (B + 146) p = mm_j h (B + 146) p := by
  have c9 := p_1024 n1 S0
  have z0 : (0 : Int64) = lN 0 := by decide +kernel
  intro e
  induction e with
  | zero =>
    intro s fuel h hs hf S
    obtain ⟨f, rfl⟩ : ∃ f, fuel = f + 1 := ⟨fuel - 1, by omega⟩
    refine ⟨h, fun K => ?_, mX.rf S.1, fun q h1 h2 => by omega, fun _ _ => rfl⟩
    show fX12_join_L42_b _ _ _ _ _ _ _ _ _ = _
    unfold fX12_join_L42_b
    rw [jb_p n1 S0, if_pos (nI_le (show 2 ^ n1 ≤ s by omega) (by omega))]
  | succ e ih =>
    intro s fuel h hs hf S
    obtain ⟨f, rfl⟩ : ∃ f, fuel = f + 1 := ⟨fuel - 1, by omega⟩
    have hq := fun (β : Type) (z : Option β) => q_ckx (show r * 1024 + s < 11264 by omega) (by decide) z
    have hc := nI_clamp (n := r * 1024 + s) (by omega)
    obtain ⟨h1, e1⟩ : ∃ g, g = mm_setJ h (B + 146) (r * 1024 + s) (lN 0) := ⟨_, rfl⟩
    have x1 : mX B (fun x _ => x = B + 146) h h1 := by rw [e1]; exact (mX.rf S.1).J (Or.inl rfl)
    obtain ⟨h', q1, q2, q3, q4⟩ := ih (s + 1) f h1 (by omega) (by omega) (x1.S S)
    refine ⟨h', fun K => ?_, x1.tr q2, fun t h1' h2' => ?_, fun p hp => ?_⟩
    · rw [← q1 K]
      show fX12_join_L42_b _ _ _ _ _ _ _ _ _ = _
      unfold fX12_join_L42_b
      rw [jb_p n1 S0, if_neg (nI_ge (show s < 2 ^ n1 by omega) (by omega)), q_ck (sk66 S), sr66_116 S, p_rf, q_ck (sk146 S), sn146 S, jb_sh r hr, nI_add, hq, hc, z0, ← e1, p_lt, p_lt, nI_1]
    · by_cases c : t = s
      · subst c; rw [q4 _ (by omega), e1, j_J, if_pos ⟨rfl, rfl⟩]
      · exact q3 t (by omega) h2'
    · rw [q4 p (by omega), e1, j_J, if_neg (fun z => by omega)]
theorem y_best (S : mS B h) (X : bY B h n0 n1 m0 m1 c0 c1 d0 d1) (hco : co ≤ 1000) (hda : da ≤ 1000) {i s : Nat} (hi : i < n0) (hs : s < 2 ^ n1) {F : Nat → Nat} (hF : ∀ j, j < n1 → mm_j h (B + 146) ((i + 1) * 1024 + (s ||| 2 ^ j)) = lN (F (s ||| 2 ^ j)) ∧ F (s ||| 2 ^ j) ≤ 100000000000) (b3 : Int32) (K : Int64 → mm_H → Option (Int32 × mm_H)) : ∀ (e j fuel v : Nat), j + e = n1 → e < fuel → v ≤ 110000000000 → fX12_join_L112 (B + 66) (nI co) (nI da) b3 (nI n1) (nI i) (nI s) K fuel (lN v) (nI j) h = K (lN (jF (jY m0 m1 c0 c1 d0 d1 co da i) F s e j v)) h := by
  have n9 := X.1
  have c9 := p_1024 n1 n9.2
  have z0 : (0 : Int64) = lN 0 := by decide +kernel
  intro e
  induction e with
  | zero =>
    intro j fuel v hj hf hv
    obtain ⟨f, rfl⟩ : ∃ f, fuel = f + 1 := ⟨fuel - 1, by omega⟩
    show fX12_join_L112_b _ _ _ _ _ _ _ _ _ _ _ _ = _
    unfold fX12_join_L112_b
    rw [if_pos (nI_le (show n1 ≤ j by omega) (by omega))]
    rfl
  | succ e ih =>
    intro j fuel v hj hf hv
    obtain ⟨f, rfl⟩ : ∃ f, fuel = f + 1 := ⟨fuel - 1, by omega⟩
    have hj2 : j < n1 := by omega
    obtain ⟨u, hu⟩ : ∃ u, u = jY m0 m1 c0 c1 d0 d1 co da i := ⟨_, rfl⟩
    have hu9 : u j ≤ 10000000000 := by rw [hu]; exact (jXY hco hda i j).le.2
    have hpair := y_pairs S X hco hda hi hj2
    have hpair2 : fX12_pairs (B + 66) (nI i) (nI j) (nI co) (nI da) h = some (lN (u j), h) := by rw [hu]; exact hpair
    have hbit := jb_bit s (by omega) j (by omega)
    have hor := jb_or s (by omega) j (by omega)
    have hol := or_lt hs hj2
    obtain ⟨f1, f2⟩ := hF j hj2
    have hqa := fun (β : Type) (z : Option β) => q_ckx (show (i + 1) * 1024 + (s ||| 2 ^ j) < 11264 by omega) (by decide) z
    have hca := nI_clamp (n := (i + 1) * 1024 + (s ||| 2 ^ j)) (by omega)
    rw [← hu] at ih ⊢
    show fX12_join_L112_b _ _ _ _ _ _ _ _ _ _ _ _ = _
    unfold fX12_join_L112_b
    rw [if_neg (nI_ge hj2 (by omega)), hbit]
    show _ = K (lN (jF u F s e (j + 1) (if 0 < u j ∧ s.testBit j = false then Nat.max v (u j + F (s ||| 2 ^ j)) else v))) h
    refine (jn_eq2 (lN (if s.testBit j = true then 0 else u j)) h (fun q => ?_)).trans ?_
    · cases w2 : s.testBit j with
      | true => rw [if_neg (by decide), if_pos rfl, z0]
      | false => rw [if_pos (by decide), q_ck (sk66 S), hpair2, p_cl, if_neg (by decide)]
    refine (jn_eq (lN (if 0 < u j ∧ s.testBit j = false then u j + F (s ||| 2 ^ j) else 0)) (fun q => ?_)).trans ?_
    · rw [z0]
      by_cases w1 : 0 < u j ∧ s.testBit j = false
      · have e0 : (if s.testBit j = true then 0 else u j) = u j := if_neg (by rw [w1.2]; decide)
        rw [if_pos w1, e0, if_pos (q_neq (show ¬ u j = 0 by omega) (by omega) (by omega)), q_ck (sk66 S), sr66_116 S, p_rf, q_ck (sk146 S), sn146 S, nI_1, jb_sh (i + 1) (by omega), hor, nI_add, hqa, hca, f1, lN_add]
      · rw [if_neg w1]
        have : (if s.testBit j = true then 0 else u j) = 0 := by
          cases w2 : s.testBit j with
          | true => rw [if_pos rfl]
          | false =>
            rw [if_neg (by decide)]
            exact Nat.eq_zero_of_not_pos fun z => w1 ⟨z, w2⟩
        rw [this, if_neg (not_not_intro (q_eqr rfl))]
    have hb9 : (if 0 < u j ∧ s.testBit j = false then u j + F (s ||| 2 ^ j) else 0) ≤ 110000000000 := by split <;> omega
    refine (jn_eq (lN (if 0 < u j ∧ s.testBit j = false then Nat.max v (u j + F (s ||| 2 ^ j)) else v)) (fun q => ?_)).trans ?_
    · by_cases w1 : 0 < u j ∧ s.testBit j = false
      · rw [if_pos w1, if_pos w1]
        by_cases w3 : u j + F (s ||| 2 ^ j) ≤ v
        · rw [if_pos (q_le w3 (by omega))]
          congr 1
          congr 1
          exact (Nat.max_eq_left w3).symm
        · rw [if_neg (q_nle (show v < u j + F (s ||| 2 ^ j) by omega) (by omega))]
          congr 1
          congr 1
          exact (Nat.max_eq_right (by omega)).symm
      · rw [if_neg w1, if_neg w1, if_pos (q_le (Nat.zero_le v) (by omega))]
    · rw [p_lt, nI_1]
      refine ih (j + 1) f _ (by omega) (by omega) ?_
      by_cases w1 : 0 < u j ∧ s.testBit j = false
      · rw [if_pos w1]; exact Nat.max_le.mpr ⟨hv, by omega⟩
      · rw [if_neg w1]; exact hv
theorem y_row (hw : w = jY m0 m1 c0 c1 d0 d1 co da) (hco : co ≤ 1000) (hda : da ≤ 1000) (hb : ∀ r s, r ≤ n0 → jR w n0 n1 r s ≤ 100000000000) (b3 : Int32) {i : Nat} (hi : i < n0) : ∀ (e s fuel : Nat) (h : mm_H), s + e = 2 ^ n1 → e < fuel → mS B h → bY B h n0 n1 m0 m1 c0 c1 d0 d1 → yR B h n0 n1 w (i + 1) → ∃ h', (∀ K, fX12_join_L83 (B + 66) (nI co) (nI da) b3 (nI n1) (nI i) K fuel (nI s) h = K h') ∧ mX B (fun x _ => x = B + 146) h h' ∧ (∀ t, s ≤ t → t < 2 ^ n1 → mm_j h' (B + 146) (i * 1024 + t) = lN (jR w n0 n1 (n0 - i) t)) ∧ ∀ p, (p < i * 1024 + s ∨ (i + 1) * 1024 ≤ p) → mm_j h' (B + 146) p = mm_j h (B + 146) p := by
  intro e
  induction e with
  | zero =>
    intro s fuel h hs hf S X XR
    obtain ⟨f, rfl⟩ : ∃ f, fuel = f + 1 := ⟨fuel - 1, by omega⟩
    have c9 := p_1024 n1 X.1.2
    refine ⟨h, fun K => ?_, mX.rf S.1, fun q h1 h2 => by omega, fun _ _ => rfl⟩
    show fX12_join_L83_b _ _ _ _ _ _ _ _ _ _ = _
    unfold fX12_join_L83_b
    rw [jb_p n1 X.1.2, if_pos (nI_le (show 2 ^ n1 ≤ s by omega) (by omega))]
  | succ e ih =>
    intro s fuel h hs hf S X XR
    obtain ⟨f, rfl⟩ : ∃ f, fuel = f + 1 := ⟨fuel - 1, by omega⟩
    have n9 := X.1
    have c9 := p_1024 n1 n9.2
    have hs2 : s < 2 ^ n1 := by omega
    have hq1 := fun (β : Type) (z : Option β) => q_ckx (show (i + 1) * 1024 + s < 11264 by omega) (by decide) z
    have hc1 := nI_clamp (n := (i + 1) * 1024 + s) (by omega)
    have hq := fun (β : Type) (z : Option β) => q_ckx (show i * 1024 + s < 11264 by omega) (by decide) z
    have hc := nI_clamp (n := i * 1024 + s) (by omega)
    have cell := XR (i + 1) s (Nat.le_refl _) (by omega) hs2
    have hbest := fun K => y_best (F := jR w n0 n1 (n0 - (i + 1))) S X hco hda hi hs2 (fun j hj => ⟨XR (i + 1) _ (Nat.le_refl _) (by omega) (or_lt hs2 hj), hb _ _ (by omega)⟩) b3 K n1 0 mm_F (jR w n0 n1 (n0 - (i + 1)) s) (by omega) (by unfold mm_F; omega) (by have := hb (n0 - (i + 1)) s (by omega); omega)
    have er : jF (jY m0 m1 c0 c1 d0 d1 co da i) (jR w n0 n1 (n0 - (i + 1))) s n1 0 (jR w n0 n1 (n0 - (i + 1)) s) = jR w n0 n1 (n0 - i) s := by
      have e1 : n0 - i = (n0 - (i + 1)) + 1 := by omega
      have e2 : n0 - ((n0 - (i + 1)) + 1) = i := by omega
      rw [e1]
      show _ = jF (w (n0 - ((n0 - (i + 1)) + 1))) (jR w n0 n1 (n0 - (i + 1))) s n1 0 (jR w n0 n1 (n0 - (i + 1)) s)
      rw [e2, hw]
    simp only [nI_0, er] at hbest
    obtain ⟨h1, e1⟩ : ∃ g, g = mm_setJ h (B + 146) (i * 1024 + s) (lN (jR w n0 n1 (n0 - i) s)) := ⟨_, rfl⟩
    have x1 : mX B (fun x _ => x = B + 146) h h1 := by rw [e1]; exact (mX.rf S.1).J (Or.inl rfl)
    have XR1 : yR B h1 n0 n1 w (i + 1) := fun p t h1' h2' h3' => by
      rw [e1, j_J, if_neg (fun z => by omega)]; exact XR p t h1' h2' h3'
    obtain ⟨h', q1, q2, q3, q4⟩ := ih (s + 1) f h1 (by omega) (by omega) (x1.S S) (X.up (x1.up fun x i _ z => Or.inr (Or.inl z))) XR1
    refine ⟨h', fun K => ?_, x1.tr q2, fun t h1' h2' => ?_, fun p hp => ?_⟩
    · rw [← q1 K]
      show fX12_join_L83_b _ _ _ _ _ _ _ _ _ _ = _
      unfold fX12_join_L83_b
      rw [jb_p n1 n9.2, if_neg (nI_ge hs2 (by omega)), q_ck (sk66 S), sr66_116 S, p_rf, q_ck (sk146 S), sn146 S, nI_1, jb_sh (i + 1) (by omega), nI_add, hq1, hc1, cell, p_lt, hbest, q_ck (sk66 S), sr66_116 S, p_rf, q_ck (sk146 S), sn146 S, jb_sh i (by omega), nI_add, hq, hc, ← e1, p_lt, p_lt, nI_1]
    · by_cases c : t = s
      · subst c; rw [q4 _ (by omega), e1, j_J, if_pos ⟨rfl, rfl⟩]
      · exact q3 t (by omega) h2'
    · rw [q4 p (by omega), e1, j_J, if_neg (fun z => by omega)]
theorem y_rows (hw : w = jY m0 m1 c0 c1 d0 d1 co da) (hco : co ≤ 1000) (hda : da ≤ 1000) (hb : ∀ r s, r ≤ n0 → jR w n0 n1 r s ≤ 100000000000) (b3 : Int32) : ∀ (q fuel : Nat) (h : mm_H), q ≤ n0 → q < fuel → mS B h → bY B h n0 n1 m0 m1 c0 c1 d0 d1 → yR B h n0 n1 w q → ∃ h', (∀ K, fX12_join_L75 (B + 66) (nI co) (nI da) b3 (nI n1) K fuel (nI q - 1) h = K h') ∧ mX B (fun x _ => x = B + 146) h h' ∧ yR B h' n0 n1 w 0 := by
  intro q
  induction q with
  | zero =>
    intro fuel h hq hf S X XR
    obtain ⟨f, rfl⟩ : ∃ f, fuel = f + 1 := ⟨fuel - 1, by omega⟩
    refine ⟨h, fun K => ?_, mX.rf S.1, XR⟩
    show fX12_join_L75_b _ _ _ _ _ _ _ _ _ = _
    unfold fX12_join_L75_b
    rw [if_pos (by rw [nI_0]; decide)]
  | succ q ih =>
    intro fuel h hq hf S X XR
    obtain ⟨f, rfl⟩ : ∃ f, fuel = f + 1 := ⟨fuel - 1, by omega⟩
    have n9 := X.1
    have c9 := p_1024 n1 n9.2
    obtain ⟨h1, p1, p2, p3, p4⟩ := y_row (B := B) hw hco hda hb b3 (show q < n0 by omega) (2 ^ n1) 0 mm_F h (by omega) (by unfold mm_F; omega) S X XR
    simp only [nI_0] at p1
    have XR1 : yR B h1 n0 n1 w q := fun p t h1' h2' h3' => by
      by_cases c : p = q
      · subst c; exact p3 t (Nat.zero_le _) h3'
      · rw [p4 _ (by omega)]; exact XR p t (by omega) h2' h3'
    obtain ⟨h', q1, q2, q3⟩ := ih f h1 (by omega) (by omega) (p2.S S) (X.up (p2.up fun x i _ z => Or.inr (Or.inl z))) XR1
    refine ⟨h', fun K => ?_, p2.tr q2, q3⟩
    rw [← q1 K]
    show fX12_join_L75_b _ _ _ _ _ _ _ _ _ = _
    unfold fX12_join_L75_b
    rw [nI_pred, if_neg (nI_pos (by omega)), p1, p_lt, nI_m1]
theorem y_part (hw : w = jY m0 m1 c0 c1 d0 d1 co da) (hco : co ≤ 1000) (hda : da ≤ 1000) (hb : ∀ r s, r ≤ n0 → jR w n0 n1 r s ≤ 100000000000) (S : mS B h) (X : bY B h n0 n1 m0 m1 c0 c1 d0 d1) (XR : yR B h n0 n1 w 0) {i s : Nat} (hi : i < n0) (hs : s < 2 ^ n1) (h145 : mm_i h (B + 145) i = -1) (b3 b6 : Int32) (K : mm_H → Option (Int32 × mm_H)) : ∀ (e j fuel : Nat), j + e = n1 → e + 1 < fuel → fX12_join_L268 (B + 66) (nI co) (nI da) b3 (nI n1) (nI s) b6 (nI i) K fuel (nI j) h = K (mm_setI h (B + 145) i (fstF (jP w n0 n1 i s) e j)) := by
  have n9 := X.1
  have c9 := p_1024 n1 n9.2
  have z0 : (0 : Int64) = lN 0 := by decide +kernel
  have hqi := fun (β : Type) (z : Option β) => q_ckx (show i < 10 by omega) (by decide) z
  have hci := nI_clamp (n := i) (by omega)
  intro e
  induction e with
  | zero =>
    intro j fuel hj hf
    obtain ⟨f, rfl⟩ : ∃ f, fuel = f + 1 := ⟨fuel - 1, by omega⟩
    show fX12_join_L268_b _ _ _ _ _ _ _ _ _ _ _ _ = _
    unfold fX12_join_L268_b
    rw [if_pos (nI_le (show n1 ≤ j by omega) (by omega)), show fstF (jP w n0 n1 i s) 0 j = -1 from rfl, setI_same h145]
  | succ e ih =>
    intro j fuel hj hf
    obtain ⟨f, rfl⟩ : ∃ f, fuel = f + 1 + 1 := ⟨fuel - 2, by omega⟩
    have hj2 : j < n1 := by omega
    obtain ⟨u, hu⟩ : ∃ u, u = jY m0 m1 c0 c1 d0 d1 co da i := ⟨_, rfl⟩
    have hwu : w i = u := by rw [hu, hw]
    have hu9 : u j ≤ 10000000000 := by rw [hu]; exact (jXY hco hda i j).le.2
    have hpair := y_pairs S X hco hda hi hj2
    have hpair2 : fX12_pairs (B + 66) (nI i) (nI j) (nI co) (nI da) h = some (lN (u j), h) := by rw [hu]; exact hpair
    have hbit := jb_bit s (by omega) j (by omega)
    have hor := jb_or s (by omega) j (by omega)
    have hol := or_lt hs hj2
    have ih1 := ih (j + 1) (f + 1) (by omega) (by omega)
    have hno : jP w n0 n1 i s j = false → fX12_join_L268 (B + 66) (nI co) (nI da) b3 (nI n1) (nI s) b6 (nI i) K (f + 1) (nI (j + 1)) h = K (mm_setI h (B + 145) i (fstF (jP w n0 n1 i s) (e + 1) j)) := fun z => by
      have : fstF (jP w n0 n1 i s) (e + 1) j = fstF (jP w n0 n1 i s) e (j + 1) := by
        simp only [fstF, z]; rfl
      rw [this]; exact ih1
    show fX12_join_L268_b _ _ _ _ _ _ _ _ _ _ _ _ = _
    unfold fX12_join_L268_b
    simp only [hci]
    rw [if_neg (nI_ge hj2 (by omega)), q_ck (sk66 S), sr66_113 S, p_rf, q_ck (sk145 S), sn145 S, hqi, h145, if_neg (not_not_intro rfl), hbit]
    refine (jn_eq2 (lN (if s.testBit j = true then 0 else u j)) h (fun q => ?_)).trans ?_
    · cases w2 : s.testBit j with
      | true => rw [if_neg (by decide), if_pos rfl, z0]
      | false => rw [if_pos (by decide), hpair2, p_cl, if_neg (by decide)]
    by_cases w1 : 0 < u j ∧ s.testBit j = false
    case neg =>
      have e0 : (if s.testBit j = true then 0 else u j) = 0 := by
        cases w2 : s.testBit j with
        | true => rw [if_pos rfl]
        | false =>
          rw [if_neg (by decide)]
          exact Nat.eq_zero_of_not_pos fun z => w1 ⟨z, w2⟩
      refine (jn_eq h (fun q => ?_)).trans ?_
      · rw [e0, z0, if_pos (q_le (Nat.le_refl 0) (by omega))]
      · rw [p_lt, nI_1]
        refine hno ?_
        unfold jP
        rw [hwu]
        by_cases w4 : 0 < u j
        · cases w2 : s.testBit j with
          | true => simp
          | false => exact absurd ⟨w4, w2⟩ w1
        · rw [decide_eq_false w4]; rfl
    obtain ⟨w4, w2⟩ := w1
    have e0 : (if s.testBit j = true then 0 else u j) = u j := by rw [w2, if_neg (by decide)]
    have f1 := XR (i + 1) (s ||| 2 ^ j) (Nat.zero_le _) (by omega) hol
    have f2 := hb (n0 - (i + 1)) (s ||| 2 ^ j) (by omega)
    have f3 := hb (n0 - i) s (by omega)
    have f4 := XR i s (Nat.zero_le _) (by omega) hs
    have hqa := fun (β : Type) (z : Option β) => q_ckx (show (i + 1) * 1024 + (s ||| 2 ^ j) < 11264 by omega) (by decide) z
    have hca := nI_clamp (n := (i + 1) * 1024 + (s ||| 2 ^ j)) (by omega)
    have hqb := fun (β : Type) (z : Option β) => q_ckx (show i * 1024 + s < 11264 by omega) (by decide) z
    have hcb := nI_clamp (n := i * 1024 + s) (by omega)
    rw [e0]
    by_cases w3 : u j + jR w n0 n1 (n0 - (i + 1)) (s ||| 2 ^ j) = jR w n0 n1 (n0 - i) s
    · obtain ⟨h1, e1⟩ : ∃ g, g = mm_setI h (B + 145) i (nI j) := ⟨_, rfl⟩
      have S1 : mS B h1 := by rw [e1]; exact S
      have hf' : fstF (jP w n0 n1 i s) (e + 1) j = nI j := by
        have z : jP w n0 n1 i s j = true := by unfold jP; rw [hwu, w2, decide_eq_true w4, decide_eq_true w3]; rfl
        simp only [fstF, z]; rfl
      refine (jn_eq h1 (fun q => ?_)).trans ?_
      · rw [z0, if_neg (q_nle (show 0 < u j from w4) (by omega)), q_ck (sk66 S), sr66_116 S, p_rf, q_ck (sk146 S), sn146 S, nI_1, jb_sh (i + 1) (by omega), hor, nI_add, hqa, jb_sh i (by omega), nI_add, hqb, hca, hcb, f1, f4, lN_add, if_neg (not_not_intro (q_eqr w3)), sr66_113 S, p_rf, q_ck (sk145 S), sn145 S, hqi, ← e1, p_lt]
      · rw [p_lt, nI_1, hf', ← e1]
        show fX12_join_L268_b _ _ _ _ _ _ _ _ _ _ _ _ = _
        unfold fX12_join_L268_b
        by_cases c : n1 ≤ j + 1
        · rw [if_pos (nI_le c (by omega))]
        · have v145 : mm_i h1 (B + 145) (nI i).toNatClampNeg = nI j := by rw [hci, e1, i_I_eq]
          rw [if_neg (nI_ge (by omega) (by omega)), q_ck (sk66 S1), sr66_113 S1, p_rf, q_ck (sk145 S1), sn145 S1, hqi, v145, if_pos (nI_neg1 (by omega))]
    · refine (jn_eq h (fun q => ?_)).trans ?_
      · rw [z0, if_neg (q_nle (show 0 < u j from w4) (by omega)), q_ck (sk66 S), sr66_116 S, p_rf, q_ck (sk146 S), sn146 S, nI_1, jb_sh (i + 1) (by omega), hor, nI_add, hqa, jb_sh i (by omega), nI_add, hqb, hca, hcb, f1, f4, lN_add, if_pos (q_neq w3 (by omega) (by omega))]
      · rw [p_lt, nI_1]
        refine hno ?_
        unfold jP
        rw [hwu, decide_eq_false w3]; simp
end JD
