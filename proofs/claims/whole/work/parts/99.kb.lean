/-! the class cuts the tape -/
def tC (B : Nat) (h : mm_H) (t : Nat → Int32) (n : Nat) : Prop := n ≤ 400 ∧ mm_i h (B + 5) 1 = nI n ∧ ∀ k, k < n → mm_i h (B + 6) k = t k
def tA (B : Nat) (h : mm_H) (t : Nat → Int32) (n i : Nat) : Prop := ∀ j, j < i → mm_i h (B + 7) j = nI (tkF t n (plF t n j)) ∧ mm_i h (B + 8) j = nI (plF t n j) ∧ mm_i h (B + 9) j = nuF t n (plF t n j)
def wC (B : Nat) : Nat → Nat → Prop := fun x i => x = B + 7 ∨ x = B + 8 ∨ x = B + 9 ∨ x = B + 10 ∨ x = B + 11 ∨ (x = B + 12 ∧ i ≠ 0) ∨ (x = B + 5 ∧ 5 ≤ i)
def ptH (h : mm_H) (B i : Nat) (a b c : Int32) : mm_H := mm_setI (mm_setI (mm_setI (mm_setI h (B + 7) i a) (B + 8) i b) (B + 9) i c) (B + 5) 5 (nI (i + 1))
theorem q_ifm {P : Prop} [Decidable P] {X Y : Option (Int32 × mm_H)} {h : mm_H} {a b : Nat} (h1 : X = some (nI a, h)) (h2 : Y = some (nI b, h)) : (if P then X else Y) = some (nI (if P then a else b), h) := by
  by_cases c : P
  · rw [if_pos c, if_pos c]; exact h1
  · rw [if_neg c, if_neg c]; exact h2
section KC
variable {B : Nat} {h h' : mm_H} {t : Nat → Int32} {n p i q : Nat}
theorem tC.up (T : tC B h t n) (x : mX B (wC B) h h') : tC B h' t n := by
  have hB := x.1.2.2
  refine ⟨T.1, by rw [x.i (by omega) (by unfold wC; omega)]; exact T.2.1, fun k hk => by rw [x.i (by omega) (by unfold wC; omega)]; exact T.2.2 k hk⟩
theorem x_dig (c : Int32) : fX5_isDigit c h = some (if isDg c = true then 1 else 0, h) := by
  unfold fX5_isDigit isDg
  by_cases c1 : c < 48
  · rw [if_pos c1, decide_eq_false (Int32.not_le.mpr c1), Bool.false_and, if_neg (by decide)]
  · rw [if_neg c1, decide_eq_true (Int32.not_lt.mp c1), Bool.true_and]
    by_cases c2 : 57 < c
    · rw [if_pos c2, decide_eq_false (Int32.not_le.mpr c2), if_neg (by decide)]
    · rw [if_neg c2, decide_eq_true (Int32.not_lt.mp c2), if_pos rfl]
theorem y_dig (c : Int32) : fX12_isDigit c h = some (if isDg c = true then 1 else 0, h) := by
  have := x_dig (h := h) c
  unfold fX5_isDigit at this
  unfold fX12_isDigit
  exact this
theorem x_let (c : Int32) : fX5_isLetter c h = some (if isLt c = true then 1 else 0, h) := by
  unfold fX5_isLetter isLt
  by_cases c1 : c < 97
  · rw [if_pos c1, decide_eq_false (Int32.not_le.mpr c1), Bool.false_and, if_neg (by decide)]
  · rw [if_neg c1, decide_eq_true (Int32.not_lt.mp c1), Bool.true_and]
    by_cases c2 : 122 < c
    · rw [if_pos c2, decide_eq_false (Int32.not_le.mpr c2), if_neg (by decide)]
    · rw [if_neg c2, decide_eq_true (Int32.not_lt.mp c2), if_pos rfl]
theorem x_putTok (S : mS B h) (hi : i < 401) (h5 : mm_i h (B + 5) 5 = nI i) (a b c : Int32) : fX5_putToken (B + 5) a b c h = some ((), ptH h B i a b c) := by
  have hq := fun (β : Type) (z : Option β) => q_ckx hi (by decide) z
  have hcl := nI_clamp (n := i) (by omega)
  obtain ⟨g1, e1⟩ : ∃ g', g' = mm_setI h (B + 7) i a := ⟨_, rfl⟩
  obtain ⟨g2, e2⟩ : ∃ g', g' = mm_setI g1 (B + 8) i b := ⟨_, rfl⟩
  obtain ⟨g3, e3⟩ : ∃ g', g' = mm_setI g2 (B + 9) i c := ⟨_, rfl⟩
  have S1 : mS B g1 := by rw [e1]; exact S
  have S2 : mS B g2 := by rw [e2]; exact S1
  have v1 : mm_i g1 (B + 5) 5 = nI i := by rw [e1, i_I_ne (by omega)]; exact h5
  have v2 : mm_i g2 (B + 5) 5 = nI i := by rw [e2, i_I_ne (by omega)]; exact v1
  have v3 : mm_i g3 (B + 5) 5 = nI i := by rw [e3, i_I_ne (by omega)]; exact v2
  unfold fX5_putToken
  rw [q_ck (sk5 S), sr5_2 S, p_rf, q_ck (sk7 S), h5, sn7 S, if_neg (nI_ge hi (by omega)), hq, hcl, ← e1, p_lt, sr5_3 S1, p_rf, q_ck (sk8 S1), v1, sn8 S1, hq, hcl, ← e2, p_lt, sr5_4 S2, p_rf, q_ck (sk9 S2), v2, sn9 S2, hq, hcl, ← e3, p_lt, v3, nI_1, p_lt]
  unfold ptH
  rw [e3, e2, e1]
theorem ptH_x (S : mS B h) {a b c : Int32} : mX B (wC B) h (ptH h B i a b c) := by
  unfold ptH
  exact ((((mX.rf (W := wC B) S.1).I (Or.inl (by unfold wC; omega))).I (Or.inl (by unfold wC; omega))).I (Or.inl (by unfold wC; omega))).I (Or.inl (by unfold wC; omega))
theorem ptH_5 {a b c : Int32} : mm_i (ptH h B i a b c) (B + 5) 5 = nI (i + 1) := by unfold ptH; rw [i_I_eq]
theorem tA.put (A : tA B h t n i) : tA B (ptH h B i (nI (tkF t n (plF t n i))) (nI (plF t n i)) (nuF t n (plF t n i))) t n (i + 1) := by
  intro j hj
  unfold ptH
  refine ⟨?_, ?_, ?_⟩
  · rw [i_I_ne (by omega), i_I_ne (by omega), i_I_ne (by omega), i_I]
    by_cases c : j = i
    · rw [if_pos ⟨rfl, c⟩, c]
    · rw [if_neg (fun z => c z.2)]; exact (A j (by omega)).1
  · rw [i_I_ne (by omega), i_I_ne (by omega), i_I]
    by_cases c : j = i
    · rw [if_pos ⟨rfl, c⟩, c]
    · rw [if_neg (fun z => c z.2), i_I_ne (by omega)]; exact (A j (by omega)).2.1
  · rw [i_I_ne (by omega), i_I]
    by_cases c : j = i
    · rw [if_pos ⟨rfl, c⟩, c]
    · rw [if_neg (fun z => c z.2), i_I_ne (by omega), i_I_ne (by omega)]; exact (A j (by omega)).2.2
theorem nvF_snoc {t : Nat → Int32} : ∀ {d p v : Nat}, nvF t (d + 1) p v = 10 * nvF t d p v + (t (p + d) - 48).toNatClampNeg := by
  intro d
  induction d with
  | zero => intro p v; rfl
  | succ d ih =>
    intro p v
    have h1 : nvF t (d + 1 + 1) p v = nvF t (d + 1) (p + 1) (10 * v + (t p - 48).toNatClampNeg) := rfl
    have h2 : nvF t (d + 1) p v = nvF t d (p + 1) (10 * v + (t p - 48).toNatClampNeg) := rfl
    rw [h1, h2, ih, show p + 1 + d = p + (d + 1) by omega]
theorem nvA_s {t : Nat → Int32} (hpq : p ≤ q) : nvA t p (q + 1) = if 5 ≤ q - p then nvA t p q else 10 * nvA t p q + (t q - 48).toNatClampNeg := by
  unfold nvA
  by_cases c : 5 ≤ q - p
  · rw [if_pos c, show min 5 (q + 1 - p) = 5 by omega, show min 5 (q - p) = 5 by omega]
  · rw [if_neg c, show min 5 (q + 1 - p) = (q - p) + 1 by omega, show min 5 (q - p) = q - p by omega, nvF_snoc, show p + (q - p) = q by omega]
theorem x_cutNum_L4 (S : mS B h) (T : tC B h t n) (K : Int32 → Int32 → mm_H → Option (Int32 × mm_H)) : ∀ (e q fuel : Nat), q + e = n → e < fuel → p ≤ q → fX5_cutNumber_L4 (B + 5) (nI p) K fuel (nI q) (nI (nvA t p q)) h = K (nI (runF isDg t e q)) (nI (nvA t p (runF isDg t e q))) h := by
  obtain ⟨n9, t1, t2⟩ := T
  intro e
  induction e with
  | zero =>
    intro q fuel hq hf hp
    obtain ⟨f, rfl⟩ : ∃ f, fuel = f + 1 := ⟨fuel - 1, by omega⟩
    show fX5_cutNumber_L4_b _ _ _ _ _ _ _ = _
    unfold fX5_cutNumber_L4_b
    rw [q_ck (sk5 S), t1, if_pos (nI_le (show n ≤ q by omega) (by omega))]
    rfl
  | succ e ih =>
    intro q fuel hq hf hp
    obtain ⟨f, rfl⟩ : ∃ f, fuel = f + 1 := ⟨fuel - 1, by omega⟩
    have hx := fun (β : Type) (z : Option β) => q_ckx (show q < 400 by omega) (by decide) z
    have hcl := nI_clamp (n := q) (by omega)
    have htq := t2 q (by omega)
    show fX5_cutNumber_L4_b _ _ _ _ _ _ _ = _
    unfold fX5_cutNumber_L4_b
    simp only [hcl]
    rw [q_ck (sk5 S), t1, if_neg (nI_ge (show q < n by omega) (by omega)), sr5_0 S, p_rf, q_ck (sk6 S), sn6 S, hx, htq, x_dig, p_cl]
    simp only [runF]
    by_cases c : isDg (t q) = true
    · rw [if_pos c, if_neg (by decide), if_pos c]
      obtain ⟨v, v1, -, v3, v4⟩ := dg_v c
      refine (jn_eq (nI (nvA t p (q + 1))) (fun q' => ?_)).trans ?_
      · rw [nI_sub hp, nvA_s hp]
        by_cases c5 : 5 ≤ q - p
        · rw [if_pos (show (5 : Int32) ≤ nI (q - p) from nI_le (a := 5) c5 (by omega)), if_pos c5]
        · rw [if_neg (show ¬ (5 : Int32) ≤ nI (q - p) from nI_ge (b := 5) (by omega) (by omega)), if_neg c5, q_ck (sk5 S), sr5_0 S, p_rf, q_ck (sk6 S), sn6 S, hx, htq, v4, nI_clamp (show v < 2 ^ 31 by omega), show (10 : Int32) = nI 10 by decide +kernel, nI_mul, nI_add, p_lt, Nat.mul_comm]
      · rw [nI_1, p_lt]
        exact ih (q + 1) f (by omega) (by omega) (by omega)
    · rw [if_neg c, if_pos rfl, if_neg c]
theorem x_cutNum (S : mS B h) (T : tC B h t n) (hi : i < 401) (h5 : mm_i h (B + 5) 5 = nI i) (hp : p < n) (hd : isDg (t p) = true) : fX5_cutNumber (B + 5) (nI p) h = some (nI (nxF t n p), ptH h B i (nI (tkF t n p)) (nI p) (nuF t n p)) := by
  have n9 := T.1
  have htk : tkF t n p = 21 := by unfold tkF; rw [if_neg (by omega), if_pos hd]
  have hnx : nxF t n p = deF t n p := by unfold nxF; rw [if_neg (by omega), if_pos hd]
  have hnu : nuF t n p = if 5 < deF t n p - p then -1 else nI (nvA t p (deF t n p)) := by unfold nuF; rw [if_pos htk]
  have hde := de_le (t := t) (n := n) (p := p) (by omega)
  have h0 : (0 : Int32) = nI (nvA t p p) := by unfold nvA; rw [Nat.sub_self]; exact nI_0.symm
  unfold fX5_cutNumber
  rw [h0, x_cutNum_L4 S T _ (n - p) p mm_F (by omega) (by unfold mm_F; omega) (Nat.le_refl _), htk, hnx, hnu]
  rw [show runF isDg t (n - p) p = deF t n p from rfl, nI_sub hde.1]
  by_cases c : 5 < deF t n p - p
  · rw [if_pos c, if_neg (show ¬ nI (deF t n p - p) ≤ (5 : Int32) from nI_ge (a := 5) c (by omega)), q_ck (sk5 S), x_putTok S hi h5, p_cl]
    rfl
  · rw [if_neg c, if_pos (show nI (deF t n p - p) ≤ (5 : Int32) from nI_le (b := 5) (by omega) (by omega)), q_ck (sk5 S), x_putTok S hi h5, p_cl]
    rfl
theorem x_isWord_L3 (S : mS B h) (T : tC B h t n) (M : mT h) {w : Nat} (hw : w < 21) (hpq : p ≤ q) (hq : q ≤ n) (K : mm_H → Option (Int32 × mm_H)) : ∀ (e j fuel : Nat), j + e = 6 → e < fuel → fX5_isWord_L3 (B + 5) (nI w) (nI p) (nI q) K fuel (nI j) h = if anyF (fun j => !decide (mm_sb 0 (w * 6 + j) = if q ≤ p + j then 32 else t (p + j))) e j = true then some (0, h) else K h := by
  obtain ⟨n9, t1, t2⟩ := T
  intro e
  induction e with
  | zero =>
    intro j fuel hj hf
    obtain ⟨f, rfl⟩ : ∃ f, fuel = f + 1 := ⟨fuel - 1, by omega⟩
    show fX5_isWord_L3_b _ _ _ _ _ _ _ _ = _
    unfold fX5_isWord_L3_b
    rw [if_pos (show (6 : Int32) ≤ nI j from nI_le (a := 6) (by omega) (by omega))]
    rfl
  | succ e ih =>
    intro j fuel hj hf
    obtain ⟨f, rfl⟩ : ∃ f, fuel = f + 1 := ⟨fuel - 1, by omega⟩
    have k10 := (M.1 0 (by omega)).1
    have hk : 20 ≤ mm_kd h (mm_c h 10) ∧ mm_kd h (mm_c h 10) < 42 := by
      rw [show mm_kd h (mm_c h 10) = 20 from k10]; omega
    have hch : fJ0_charAt_5068e (mm_c h 10) (nI (w * 6 + j)) h = some (mm_sb 0 (w * 6 + j), h) := x_tchr M (i := 0) (by omega) (show w * 6 + j < 126 by omega) (by decide)
    show fX5_isWord_L3_b _ _ _ _ _ _ _ _ = _
    unfold fX5_isWord_L3_b
    rw [if_neg (show ¬ (6 : Int32) ≤ nI j from nI_ge (b := 6) (by omega) (by omega)), nI_add]
    refine (jn_eq (if q ≤ p + j then 32 else t (p + j)) (fun q' => ?_)).trans ?_
    · by_cases c : q ≤ p + j
      · rw [if_pos (nI_le c (by omega)), if_pos c]
      · have hx := fun (β : Type) (z : Option β) => q_ckx (show p + j < 400 by omega) (by decide) z
        rw [if_neg (nI_ge (by omega) (by omega)), if_neg c, q_ck (sk5 S), sr5_0 S, p_rf, q_ck (sk6 S), sn6 S, hx, nI_clamp (by omega), t2 _ (by omega)]
    · rw [q_ck hk, show (6 : Int32) = nI 6 by decide +kernel, nI_mul, nI_add, hch, p_cl]
      have ea : ∀ P : Nat → Bool, anyF P (e + 1) j = (P j || anyF P e (j + 1)) := fun _ => rfl
      rw [ea]
      by_cases c : mm_sb 0 (w * 6 + j) = if q ≤ p + j then 32 else t (p + j)
      · rw [if_pos c, p_lt, nI_1, ih (j + 1) f (by omega) (by omega), decide_eq_true c, Bool.not_true, Bool.false_or]
      · rw [if_neg c, decide_eq_false c, Bool.not_false, Bool.true_or, if_pos rfl]
theorem isW_iff {w : Nat} (hw : w < 21) (hpq : p ≤ q) (h6 : q - p ≤ 6) (hl : ∀ k, p ≤ k → k < q → isLt (t k) = true) : anyF (fun j => !decide (mm_sb 0 (w * 6 + j) = if q ≤ p + j then 32 else t (p + j))) 6 0 = !rIs t p q (tx_w w) := by
  obtain ⟨w1, w2, w3⟩ := tx_w22 w hw
  have key : rIs t p q (tx_w w) = true ↔ ∀ j, j < 6 → mm_sb 0 (w * 6 + j) = if q ≤ p + j then 32 else t (p + j) := by
    rw [rIs_iff]
    constructor
    · rintro ⟨h1, h2⟩ j hj
      rw [tx_pad w hw j hj]
      by_cases c : j < mm_sl (tx_w w)
      · rw [if_pos c, if_neg (by omega), h2 j c]
      · rw [if_neg c, if_pos (by omega)]
    · intro h1
      have ne : ∀ c : Int32, (97 : Int32) ≤ c → c ≠ 32 := fun c hc z => by rw [z] at hc; exact absurd hc (by decide)
      have hlen : q - p = mm_sl (tx_w w) := by
        rcases Nat.lt_trichotomy (q - p) (mm_sl (tx_w w)) with c | c | c
        · have := h1 (q - p) (by omega)
          rw [tx_pad w hw _ (by omega), if_pos c, if_pos (by omega)] at this
          exact absurd this (ne _ (tx_ltr w hw _ c).1)
        · exact c
        · have := h1 (mm_sl (tx_w w)) (by omega)
          rw [tx_pad w hw _ (by omega), if_neg (by omega), if_neg (by omega)] at this
          have h3 := hl (p + mm_sl (tx_w w)) (by omega) (by omega)
          unfold isLt at h3
          rw [Bool.and_eq_true, decide_eq_true_eq] at h3
          exact absurd this.symm (ne _ h3.1)
      refine ⟨hlen, fun j hj => ?_⟩
      have := h1 j (by omega)
      rw [tx_pad w hw _ (by omega), if_pos hj, if_neg (by omega)] at this
      exact this.symm
  cases c : rIs t p q (tx_w w) with
  | true =>
    have k := key.mp c
    rw [Bool.not_true]
    cases z : anyF (fun j => !decide (mm_sb 0 (w * 6 + j) = if q ≤ p + j then 32 else t (p + j))) 6 0 with
    | false => rfl
    | true =>
      obtain ⟨j, -, j2, j3⟩ := anyF_iff.mp z
      have k2 := k j (by omega)
      have j4 : (!decide (mm_sb 0 (w * 6 + j) = if q ≤ p + j then 32 else t (p + j))) = true := j3
      rw [decide_eq_true k2] at j4; cases j4
  | false =>
    rw [Bool.not_false]
    refine anyF_iff.mpr ?_
    by_cases z : ∃ j, 0 ≤ j ∧ j < 0 + 6 ∧ (fun j => !decide (mm_sb 0 (w * 6 + j) = if q ≤ p + j then 32 else t (p + j))) j = true
    · exact z
    · have : rIs t p q (tx_w w) = true := key.mpr fun j hj => by
        by_cases c2 : mm_sb 0 (w * 6 + j) = if q ≤ p + j then 32 else t (p + j)
        · exact c2
        · exact absurd ⟨j, Nat.zero_le _, by omega, by show (!decide _) = true; rw [decide_eq_false c2]; rfl⟩ z
      rw [c] at this; cases this
theorem x_wordTok (S : mS B h) (T : tC B h t n) (M : mT h) (hpq : p ≤ q) (hq : q ≤ n) (hl : ∀ k, p ≤ k → k < q → isLt (t k) = true) : fX5_wordToken (B + 5) (nI p) (nI q) h = some (nI (wtk t p q), h) := by
  have n9 := T.1
  unfold fX5_wordToken
  rw [nI_sub hpq]
  by_cases c : q - p ≤ 6
  · rw [if_pos (show nI (q - p) ≤ (6 : Int32) from nI_le (b := 6) c (by omega))]
    have hW : ∀ w, w < 21 → fX5_isWord (B + 5) (nI w) (nI p) (nI q) h = some (if rIs t p q (tx_w w) = true then 1 else 0, h) := fun w hw => by
      have := x_isWord_L3 S T M hw hpq hq (fun g => some (1, g)) 6 0 mm_F (by omega) (by unfold mm_F; omega)
      rw [isW_iff hw hpq c hl, nI_0] at this
      unfold fX5_isWord
      rw [this]
      cases rIs t p q (tx_w w) with
      | true => rw [if_neg (by decide), if_pos rfl]
      | false => rw [if_pos (by decide), if_neg (by decide)]
    have hL : ∀ (e w fuel : Nat), w + e = 21 → e < fuel → fX5_wordToken_L13 (B + 5) (nI p) (nI q) (fun g => some ((36 : Int32), g)) fuel (nI w) h = some (nI (wtF (fun w => rIs t p q (tx_w w)) e w), h) := by
      intro e
      induction e with
      | zero =>
        intro w fuel hw hf
        obtain ⟨f, rfl⟩ : ∃ f, fuel = f + 1 := ⟨fuel - 1, by omega⟩
        show fX5_wordToken_L13_b _ _ _ _ _ _ _ = _
        unfold fX5_wordToken_L13_b
        rw [if_pos (show (21 : Int32) ≤ nI w from nI_le (a := 21) (by omega) (by omega))]
        rfl
      | succ e ih =>
        intro w fuel hw hf
        obtain ⟨f, rfl⟩ : ∃ f, fuel = f + 1 := ⟨fuel - 1, by omega⟩
        show fX5_wordToken_L13_b _ _ _ _ _ _ _ = _
        unfold fX5_wordToken_L13_b
        rw [if_neg (show ¬ (21 : Int32) ≤ nI w from nI_ge (b := 21) (by omega) (by omega)), q_ck (sk5 S), hW w (by omega), p_cl]
        simp only [wtF]
        by_cases c2 : rIs t p q (tx_w w) = true
        · rw [if_pos c2, if_neg (by decide), if_pos c2]
        · rw [if_neg c2, if_pos rfl, if_neg c2, p_lt, nI_1]
          exact ih (w + 1) f (by omega) (by omega)
    have := hL 21 0 mm_F (by omega) (by unfold mm_F; omega)
    rw [nI_0] at this
    exact this
  · rw [if_neg (show ¬ nI (q - p) ≤ (6 : Int32) from nI_ge (a := 6) (by omega) (by omega))]
    have : wtk t p q = 36 := by
      rcases wtk_b (t := t) (p := p) (e := q) with z | z
      · have h1 := rIs_iff.mp ((wtk_iff z).mp rfl)
        have h2 := (tx_w22 _ z).2.1
        omega
      · exact z
    rw [this]; rfl
theorem x_cutWord_L2 (S : mS B h) (T : tC B h t n) {b1 : Int32} (K : Int32 → mm_H → Option (Int32 × mm_H)) : ∀ (e q fuel : Nat), q + e = n → e < fuel → fX5_cutWord_L2 (B + 5) b1 K fuel (nI q) h = K (nI (runF isLt t e q)) h := by
  obtain ⟨n9, t1, t2⟩ := T
  intro e
  induction e with
  | zero =>
    intro q fuel hq hf
    obtain ⟨f, rfl⟩ : ∃ f, fuel = f + 1 := ⟨fuel - 1, by omega⟩
    show fX5_cutWord_L2_b _ _ _ _ _ _ = _
    unfold fX5_cutWord_L2_b
    rw [q_ck (sk5 S), t1, if_pos (nI_le (show n ≤ q by omega) (by omega))]
    rfl
  | succ e ih =>
    intro q fuel hq hf
    obtain ⟨f, rfl⟩ : ∃ f, fuel = f + 1 := ⟨fuel - 1, by omega⟩
    have hx := fun (β : Type) (z : Option β) => q_ckx (show q < 400 by omega) (by decide) z
    have hcl := nI_clamp (n := q) (by omega)
    show fX5_cutWord_L2_b _ _ _ _ _ _ = _
    unfold fX5_cutWord_L2_b
    simp only [hcl]
    rw [q_ck (sk5 S), t1, if_neg (nI_ge (show q < n by omega) (by omega)), sr5_0 S, p_rf, q_ck (sk6 S), sn6 S, hx, t2 q (by omega), x_let, p_cl]
    simp only [runF]
    by_cases c : isLt (t q) = true
    · rw [if_pos c, if_neg (by decide), if_pos c, p_lt, nI_1]
      exact ih (q + 1) f (by omega) (by omega)
    · rw [if_neg c, if_pos rfl, if_neg c]
theorem x_cutWord (S : mS B h) (T : tC B h t n) (M : mT h) (hi : i < 401) (h5 : mm_i h (B + 5) 5 = nI i) (hp : p < n) (hd : ¬ isDg (t p) = true) (hl : isLt (t p) = true) : fX5_cutWord (B + 5) (nI p) h = some (nI (nxF t n p), ptH h B i (nI (tkF t n p)) (nI p) (nuF t n p)) := by
  have htk : tkF t n p = wtk t p (weF t n p) := by unfold tkF; rw [if_neg (by omega), if_neg hd, if_pos hl]
  have hnx : nxF t n p = weF t n p := by unfold nxF; rw [if_neg (by omega), if_neg hd, if_pos hl]
  have hnu : nuF t n p = 0 := by
    unfold nuF
    rw [if_neg (by
      rw [htk]
      rcases wtk_b (t := t) (p := p) (e := weF t n p) with z | z <;> omega)]
  have hwe := we_le (t := t) (n := n) (p := p) (by omega)
  unfold fX5_cutWord
  rw [x_cutWord_L2 S T _ (n - p) p mm_F (by omega) (by unfold mm_F; have := T.1; omega), show runF isLt t (n - p) p = weF t n p from rfl, q_ck (sk5 S), x_wordTok S T M hwe.1 hwe.2 (fun k h1 h2 => runF_in h1 h2), p_cl, q_ck (sk5 S), x_putTok S hi h5, p_cl, htk, hnx, hnu]
theorem x_sgTok (c : Int32) (s : Bool) : fX5_signToken c (if s = true then 1 else 0) h = some (nI (sgF c s), h) := by
  unfold fX5_signToken sgF
  refine q_ifm rfl (q_ifm rfl (q_ifm rfl (q_ifm rfl (q_ifm rfl (q_ifm rfl (q_ifm ?_ (q_ifm rfl (q_ifm ?_ (q_ifm rfl (q_ifm rfl rfl))))))))))
  · cases s with
    | true => rw [if_pos rfl, if_neg (by decide), if_pos rfl]; rfl
    | false => rw [if_neg (show ¬ false = true by decide), if_pos rfl, if_neg (by decide)]; rfl
  · cases s with
    | true => rw [if_pos rfl, if_neg (by decide), if_pos rfl]; rfl
    | false => rw [if_neg (show ¬ false = true by decide), if_pos rfl, if_neg (by decide)]; rfl
theorem x_cutSign (S : mS B h) (T : tC B h t n) (hi : i < 401) (h5 : mm_i h (B + 5) 5 = nI i) (hp : p < n) (hd : ¬ isDg (t p) = true) (hl : ¬ isLt (t p) = true) : fX5_cutSign (B + 5) (nI p) h = some (nI (nxF t n p), ptH h B i (nI (tkF t n p)) (nI p) (nuF t n p)) := by
  obtain ⟨n9, t1, t2⟩ := id T
  have htk : tkF t n p = sgF (t p) (smF t n p) := by unfold tkF; rw [if_neg (by omega), if_neg hd, if_neg hl]
  have hnx : nxF t n p = if sgF (t p) (smF t n p) = 31 ∨ sgF (t p) (smF t n p) = 33 then p + 2 else p + 1 := by unfold nxF; rw [if_neg (by omega), if_neg hd, if_neg hl]
  have s21 : ∀ (c : Int32) (s : Bool), sgF c s ≠ 21 ∧ sgF c s ≤ 36 := fun c s => by
    unfold sgF
    repeat' (split)
    all_goals omega
  have hnu : nuF t n p = 0 := by
    unfold nuF
    rw [if_neg (by rw [htk]; exact (s21 _ _).1)]
  have hb := (s21 (t p) (smF t n p)).2
  have hx := fun (β : Type) (z : Option β) => q_ckx (show p < 400 by omega) (by decide) z
  have hcl := nI_clamp (n := p) (by omega)
  unfold fX5_cutSign
  rw [q_ck (sk5 S)]
  refine (jn_eq (if smF t n p = true then (1 : Int32) else 0) (fun q' => ?_)).trans ?_
  · rw [p_jn, t1, nI_1]
    unfold smF
    by_cases c : n ≤ p + 1
    · rw [if_pos (nI_le c (by omega)), decide_eq_false (show ¬ p + 1 < n by omega), Bool.false_and, if_neg (by decide)]
    · have hx1 := fun (β : Type) (z : Option β) => q_ckx (show p + 1 < 400 by omega) (by decide) z
      rw [if_neg (nI_ge (by omega) (by omega)), sr5_0 S, p_rf, q_ck (sk6 S), sn6 S, hx1, nI_clamp (by omega), t2 _ (by omega), decide_eq_true (show p + 1 < n by omega), Bool.true_and]
      by_cases c2 : t (p + 1) = 61
      · rw [if_neg (not_not_intro c2), decide_eq_true c2, if_pos rfl]
      · rw [if_pos c2, decide_eq_false c2, if_neg (by decide)]
  · rw [sr5_0 S, p_rf, q_ck (sk6 S), sn6 S, hx, hcl, t2 p hp, x_sgTok, p_cl, q_ck (sk5 S), x_putTok S hi h5, p_cl, p_jn, hnu, hnx, htk]
    have e31 : (nI (sgF (t p) (smF t n p)) = (31 : Int32)) ↔ sgF (t p) (smF t n p) = 31 := nI_eq (b := 31) (by omega) (by omega)
    have e33 : (nI (sgF (t p) (smF t n p)) = (33 : Int32)) ↔ sgF (t p) (smF t n p) = 33 := nI_eq (b := 33) (by omega) (by omega)
    by_cases c1 : sgF (t p) (smF t n p) = 31
    · rw [if_pos (e31.mpr c1), if_pos (Or.inl c1), show (2 : Int32) = nI 2 by decide +kernel, nI_add]
    · rw [if_neg (fun z => c1 (e31.mp z))]
      by_cases c2 : sgF (t p) (smF t n p) = 33
      · rw [if_neg (not_not_intro (e33.mpr c2)), if_pos (Or.inr c2), show (2 : Int32) = nI 2 by decide +kernel, nI_add]
      · rw [if_pos (fun z => c2 (e33.mp z)), if_neg (by omega), nI_1]
theorem x_cut_L9 : ∀ (e p u i fuel : Nat) (h : mm_H), n - p ≤ e → e < fuel → p ≤ n → u ≤ p → i ≤ p → mS B h → mT h → tC B h t n → tA B h t n i → mm_i h (B + 5) 5 = nI i → skF t n p = plF t n i → (∀ j, j < i → plF t n j < n) → ∃ h' m, (∀ K, fX5_cutTokens_L9 (B + 5) K fuel (nI p) (nI u) h = K h') ∧ mX B (wC B) h h' ∧ tA B h' t n m ∧ mm_i h' (B + 5) 5 = nI m ∧ plF t n m = n ∧ (∀ j, j < m → plF t n j < n) ∧ m ≤ n := by
  intro e
  induction e with
  | zero =>
    intro p u i fuel h he hf hp hu hi S M T A h5 hsk hlt
    obtain ⟨f, rfl⟩ : ∃ f, fuel = f + 1 := ⟨fuel - 1, by omega⟩
    have n9 := T.1
    obtain rfl : p = n := by omega
    refine ⟨h, i, fun K => ?_, mX.rf S.1, A, h5, by rw [← hsk]; exact runF_stop (Nat.le_refl _), hlt, hi⟩
    show fX5_cutTokens_L9_b _ _ _ _ _ _ = _
    unfold fX5_cutTokens_L9_b
    by_cases c : 400 ≤ u
    · rw [if_pos (show (400 : Int32) ≤ nI u from nI_le (a := 400) c (by omega))]
    · rw [if_neg (show ¬ (400 : Int32) ≤ nI u from nI_ge (b := 400) (by omega) (by omega)), q_ck (sk5 S), T.2.1, if_pos (Int32.le_refl _)]
  | succ e ih =>
    intro p u i fuel h he hf hp hu hi S M T A h5 hsk hlt
    obtain ⟨f, rfl⟩ : ∃ f, fuel = f + 1 := ⟨fuel - 1, by omega⟩
    obtain ⟨n9, t1, t2⟩ := id T
    by_cases c0 : n ≤ p
    · obtain rfl : p = n := by omega
      refine ⟨h, i, fun K => ?_, mX.rf S.1, A, h5, by rw [← hsk]; exact runF_stop (Nat.le_refl _), hlt, hi⟩
      show fX5_cutTokens_L9_b _ _ _ _ _ _ = _
      unfold fX5_cutTokens_L9_b
      by_cases c : 400 ≤ u
      · rw [if_pos (show (400 : Int32) ≤ nI u from nI_le (a := 400) c (by omega))]
      · rw [if_neg (show ¬ (400 : Int32) ≤ nI u from nI_ge (b := 400) (by omega) (by omega)), q_ck (sk5 S), T.2.1, if_pos (Int32.le_refl _)]
    have hx := fun (β : Type) (z : Option β) => q_ckx (show p < 400 by omega) (by decide) z
    have hcl := nI_clamp (n := p) (by omega)
    have hpn : p < n := by omega
    have step : ∀ (p' : Nat) (g : mm_H) K, (∀ q' : Int32 → mm_H → Option (Unit × mm_H), (if ¬ t p = (32 : Int32) then (mm_cl (fX5_isDigit (t p) h) fun v15 g16 => if v15 = 0 then (mm_cl (fX5_isLetter (t p) g16) fun v19 g20 => if v19 = 0 then (mm_ck (mm_kd g20 (B + 5) = 6) <| mm_cl (fX5_cutSign (B + 5) (nI p) g20) fun v24 g25 => q' v24 g25) else (mm_ck (mm_kd g20 (B + 5) = 6) <| mm_cl (fX5_cutWord (B + 5) (nI p) g20) fun v28 g29 => q' v28 g29)) else (mm_ck (mm_kd g16 (B + 5) = 6) <| mm_cl (fX5_cutNumber (B + 5) (nI p) g16) fun v32 g33 => q' v32 g33)) else (mm_lt (nI p + (1 : Int32)) fun v35 => q' v35 h)) = q' (nI p') g) → fX5_cutTokens_L9 (B + 5) K (f + 1) (nI p) (nI u) h = fX5_cutTokens_L9 (B + 5) K f (nI p') (nI (u + 1)) g := fun p' g K hk => by
      show fX5_cutTokens_L9_b _ _ _ _ _ _ = _
      unfold fX5_cutTokens_L9_b
      rw [if_neg (show ¬ (400 : Int32) ≤ nI u from nI_ge (b := 400) (by omega) (by omega)), q_ck (sk5 S), t1, if_neg (nI_ge hpn (by omega)), sr5_0 S, p_rf, q_ck (sk6 S), sn6 S, hx, hcl, t2 p hpn, p_lt]
      refine (jn_eq2 (nI p') g hk).trans ?_
      rw [nI_1, p_lt]
    by_cases c1 : t p = 32
    · have hb : isBl (t p) = true := decide_eq_true c1
      have hsk2 : skF t n (p + 1) = plF t n i := by
        rw [← hsk]
        show _ = runF isBl t (n - p) p
        rw [runF_step hpn, if_pos hb]; rfl
      obtain ⟨h', m, q1, q2⟩ := ih (p + 1) (u + 1) i f h (by omega) (by omega) (by omega) (by omega) (by omega) S M T A h5 hsk2 hlt
      refine ⟨h', m, fun K => ?_, q2⟩
      rw [step (p + 1) h K (fun q' => by rw [if_neg (not_not_intro c1), p_lt, nI_1])]
      exact q1 K
    · have hb : ¬ isBl (t p) = true := fun z => c1 (of_decide_eq_true z)
      have hpl : plF t n i = p := by
        rw [← hsk]
        show runF isBl t (n - p) p = p
        rw [runF_step hpn, if_neg hb]
      have hps : psF t n (i + 1) = nxF t n p := by
        show nxF t n (plF t n i) = _
        rw [hpl]
      have hnx := nx_le (t := t) hp
      have hgo : ∀ K, fX5_cutTokens_L9 (B + 5) K (f + 1) (nI p) (nI u) h = fX5_cutTokens_L9 (B + 5) K f (nI (nxF t n p)) (nI (u + 1)) (ptH h B i (nI (tkF t n p)) (nI p) (nuF t n p)) := fun K => step _ _ K fun q' => by
        rw [if_pos c1, x_dig, p_cl]
        by_cases c2 : isDg (t p) = true
        · rw [if_pos c2, if_neg (by decide), q_ck (sk5 S), x_cutNum S T (by omega) h5 hpn c2, p_cl]
        · rw [if_neg c2, if_pos rfl, x_let, p_cl]
          by_cases c3 : isLt (t p) = true
          · rw [if_pos c3, if_neg (by decide), q_ck (sk5 S), x_cutWord S T M (by omega) h5 hpn c2 c3, p_cl]
          · rw [if_neg c3, if_pos rfl, q_ck (sk5 S), x_cutSign S T (by omega) h5 hpn c2 c3, p_cl]
      have A2 := A.put
      rw [hpl] at A2
      have x1 : mX B (wC B) h (ptH h B i (nI (tkF t n p)) (nI p) (nuF t n p)) := ptH_x S
      obtain ⟨h', m, q1, q2, q3⟩ := ih (nxF t n p) (u + 1) (i + 1) f _ (by omega) (by omega) hnx.2.1 (by omega) (by omega) (x1.S S) (M.up x1) (T.up x1) A2 ptH_5 (by rw [← hps]; rfl) (fun j hj => by
        by_cases e : j = i
        · rw [e, hpl]; exact hpn
        · exact hlt j (by omega))
      exact ⟨h', m, fun K => (hgo K).trans (q1 K), x1.tr q2, q3⟩
theorem x_cutTokens (S : mS B h) (M : mT h) (T : tC B h t n) : ∃ h' m, fX5_cutTokens (B + 5) h = some ((), h') ∧ mX B (wC B) h h' ∧ tA B h' t n (m + 1) ∧ mm_i h' (B + 5) 5 = nI (m + 1) ∧ plF t n m = n ∧ (∀ j, j < m → plF t n j < n) ∧ m ≤ n := by
  obtain ⟨g1, e1⟩ : ∃ g', g' = mm_setI h (B + 5) 5 0 := ⟨_, rfl⟩
  have x1 : mX B (wC B) h g1 := by rw [e1]; exact (mX.rf (W := wC B) S.1).I (Or.inl (by unfold wC; omega))
  have S1 := x1.S S
  have n9 := T.1
  obtain ⟨h', m, q1, q2, q3, q4, q5, q6, q7⟩ := x_cut_L9 (t := t) (n := n) n 0 0 0 mm_F g1 (by omega) (by unfold mm_F; omega) (Nat.zero_le _) (Nat.le_refl _) (Nat.le_refl _) S1 (M.up x1) (T.up x1) (fun j hj => absurd hj (Nat.not_lt_zero _)) (by rw [e1, i_I_eq, nI_0]) rfl (fun j hj => absurd hj (Nat.not_lt_zero _))
  have x2 := x1.tr q2
  have S2 := x2.S S
  have T2 := T.up x2
  have A2 := q3.put
  have htk : tkF t n n = 35 := by unfold tkF; rw [if_pos (Nat.le_refl _)]
  have hnu : nuF t n n = 0 := by unfold nuF; rw [htk, if_neg (by decide)]
  rw [q5, htk, hnu] at A2
  refine ⟨ptH h' B m (nI 35) (nI n) 0, m, ?_, x2.tr (ptH_x S2), A2, ptH_5, q5, q6, q7⟩
  rw [nI_0] at q1
  unfold fX5_cutTokens
  rw [q_ck (sk5 S), p_lt, ← e1, q1, q_ck (sk5 S2), T2.2.1, show (35 : Int32) = nI 35 by decide +kernel, x_putTok S2 (by omega) q4, p_cl]
end KC
