/-! the texts; how a tape is cut -/
def mT (h : mm_H) : Prop := (∀ i, i < 22 → mm_kd h (mm_c h (10 + i)) = 20 + i ∧ mm_c h (10 + i) < mm_sz h) ∧ ∀ i, i < 22 → mm_fb h (mm_c h (40 + i)) = some i
theorem tx_sh : ∀ i, i < 22 → (nI (mm_sl i)) >>> ((0 : Int32) &&& 31) = nI (mm_sl i) := by decide +kernel
theorem tx_ch : ∀ i, i < 22 → ∀ k, k < mm_sl i → UInt32.toInt32 (Int32.toUInt32 ((mm_sb i k) &&& (255 : Int32)) % 65536) = mm_sb i k := by decide +kernel
theorem tx_ch2 : ∀ i, i < 22 → ∀ k, k < mm_sl i → UInt32.toInt32 (Int32.toUInt32 (mm_sb i k) % 65536) = mm_sb i k := by decide +kernel
def tx_w (w : Nat) : Nat := [6, 7, 8, 9, 10, 11, 12, 13, 14, 15, 16, 17, 18, 19, 1, 2, 3, 4, 21, 20, 5].getD w 0
theorem tx_w22 : ∀ w, w < 21 → tx_w w < 22 ∧ mm_sl (tx_w w) ≤ 6 ∧ 1 ≤ mm_sl (tx_w w) := by decide +kernel
theorem tx_pad : ∀ w, w < 21 → ∀ j, j < 6 → mm_sb 0 (w * 6 + j) = if j < mm_sl (tx_w w) then mm_sb (tx_w w) j else 32 := by decide +kernel
theorem tx_ltr : ∀ w, w < 21 → ∀ j, j < mm_sl (tx_w w) → (97 : Int32) ≤ mm_sb (tx_w w) j ∧ mm_sb (tx_w w) j ≤ 122 := by decide +kernel
theorem tx_one : ∀ w, w < 21 → ∀ v, v < 21 → mm_sl (tx_w w) = mm_sl (tx_w v) → (∀ j, j < mm_sl (tx_w w) → mm_sb (tx_w w) j = mm_sb (tx_w v) j) → w = v := by decide +kernel
section KA
variable {B : Nat} {h h' : mm_H} {W : Nat → Nat → Prop}
theorem mT.up (T : mT h) (x : mX B W h h') : mT h' := by
  have ec := x.1.2.1
  refine ⟨fun i hi => ?_, fun i hi => ?_⟩
  · obtain ⟨t1, t2⟩ := T.1 i hi
    rw [ec, (x.2.1 _ t2).1]
    exact ⟨t1, Nat.lt_of_lt_of_le t2 x.1.1⟩
  · have := T.2 i hi
    unfold mm_fb at *
    rw [ec]; exact this
theorem x_tlen (T : mT h) {i : Nat} (hi : i < 22) : fJ0_length_8abf5 (mm_c h (10 + i)) h = some (nI (mm_sl i), h) := by
  have k := (T.1 i hi).1
  have f := T.2 i hi
  have hk : 20 ≤ mm_kd h (mm_c h (10 + i)) ∧ mm_kd h (mm_c h (10 + i)) < 42 := by rw [k]; omega
  unfold fJ0_length_8abf5 fJ0_coder_7d493
  rw [q_ck hk, p_lt, k, show 40 + (20 + i - 20) = 40 + i by omega, f, p_rf, if_neg (by decide), q_ck (by omega), p_cl, tx_sh i hi]
theorem x_tchr (T : mT h) {i k : Nat} (hi : i < 22) (hk : k < mm_sl i) (h9 : mm_sl i < 2 ^ 31) : fJ0_charAt_5068e (mm_c h (10 + i)) (nI k) h = some (mm_sb i k, h) := by
  have k1 := (T.1 i hi).1
  have f := T.2 i hi
  have hk2 : 20 ≤ mm_kd h (mm_c h (10 + i)) ∧ mm_kd h (mm_c h (10 + i)) < 42 := by rw [k1]; omega
  have c1 : fJ3_checkIndex_8e157 (nI k) (nI (mm_sl i)) none h = some (nI k, h) := by
    unfold fJ3_checkIndex_8e157
    rw [p_jn, if_neg (nI_pos (by omega)), if_pos (nI_lt hk h9)]
  have c2 : fJ0_checkIndex_df160 (nI k) (nI (mm_sl i)) h = some ((), h) := by
    unfold fJ0_checkIndex_df160
    rw [c1, p_cl]
  have c3 : fJ1_charAt_3b067 (mm_c h (40 + i)) (nI k) h = some (mm_sb i k, h) := by
    unfold fJ1_charAt_3b067
    rw [f, p_rf, c2, p_cl, f, p_rf, q_ck (q_ix hk h9), nI_clamp (by omega), tx_ch i hi k hk, q_ck (tx_ch2 i hi k hk)]
  unfold fJ0_charAt_5068e fJ0_isLatin1_aae02
  rw [q_ck hk2, if_neg (by decide), q_ck hk2, if_neg (by decide), p_cl, if_neg (by decide), q_ck hk2, p_lt, k1, show 40 + (20 + i - 20) = 40 + i by omega, c3, p_cl, q_ck (tx_ch2 i hi k hk)]
end KA
/-- a run of signs with P from p on, at most d -/
def runF (P : Int32 → Bool) (t : Nat → Int32) : Nat → Nat → Nat
  | 0, p => p
  | d + 1, p => if P (t p) = true then runF P t d (p + 1) else p
def isBl (c : Int32) : Bool := decide (c = 32)
def isLt (c : Int32) : Bool := decide (97 ≤ c) && decide (c ≤ 122)
def isDg (c : Int32) : Bool := decide (48 ≤ c) && decide (c ≤ 57)
def skF (t : Nat → Int32) (n p : Nat) : Nat := runF isBl t (n - p) p
def weF (t : Nat → Int32) (n p : Nat) : Nat := runF isLt t (n - p) p
def deF (t : Nat → Int32) (n p : Nat) : Nat := runF isDg t (n - p) p
theorem runF_le {P : Int32 → Bool} {t : Nat → Int32} : ∀ {d p : Nat}, p ≤ runF P t d p ∧ runF P t d p ≤ p + d := by
  intro d
  induction d with
  | zero => intro p; exact ⟨Nat.le_refl _, Nat.le_refl _⟩
  | succ d ih =>
    intro p
    simp only [runF]
    split
    · have := ih (p := p + 1); omega
    · omega
theorem runF_in {P : Int32 → Bool} {t : Nat → Int32} : ∀ {d p q : Nat}, p ≤ q → q < runF P t d p → P (t q) = true := by
  intro d
  induction d with
  | zero => intro p q h1 h2; simp only [runF] at h2; omega
  | succ d ih =>
    intro p q h1 h2
    simp only [runF] at h2
    by_cases c : P (t p) = true
    · rw [if_pos c] at h2
      by_cases e : q = p
      · rw [e]; exact c
      · exact ih (by omega) h2
    · rw [if_neg c] at h2; omega
theorem runF_end {P : Int32 → Bool} {t : Nat → Int32} : ∀ {d p : Nat}, runF P t d p < p + d → P (t (runF P t d p)) = false := by
  intro d
  induction d with
  | zero => intro p h; simp only [runF] at h; omega
  | succ d ih =>
    intro p h
    simp only [runF] at h ⊢
    by_cases c : P (t p) = true
    · rw [if_pos c] at h ⊢
      exact ih (by omega)
    · rw [if_neg c]; simpa using c
/-- a run's step -/
theorem runF_step {P : Int32 → Bool} {t : Nat → Int32} {n p : Nat} (hp : p < n) : runF P t (n - p) p = if P (t p) = true then runF P t (n - (p + 1)) (p + 1) else p := by
  rw [show n - p = (n - (p + 1)) + 1 by omega]
  rfl
theorem runF_stop {P : Int32 → Bool} {t : Nat → Int32} {n p : Nat} (hp : n ≤ p) : runF P t (n - p) p = p := by
  rw [show n - p = 0 by omega]; rfl
/-- the text of word w from p to e -/
def rIs (t : Nat → Int32) (p e i : Nat) : Bool := decide (e - p = mm_sl i) && !anyF (fun j => !decide (t (p + j) = mm_sb i j)) (mm_sl i) 0
theorem rIs_iff {t : Nat → Int32} {p e i : Nat} : rIs t p e i = true ↔ e - p = mm_sl i ∧ ∀ j, j < mm_sl i → t (p + j) = mm_sb i j := by
  unfold rIs
  rw [Bool.and_eq_true, decide_eq_true_eq, Bool.not_eq_true']
  constructor
  · rintro ⟨h1, h2⟩
    refine ⟨h1, fun j hj => ?_⟩
    by_cases c : t (p + j) = mm_sb i j
    · exact c
    · have : anyF (fun j => !decide (t (p + j) = mm_sb i j)) (mm_sl i) 0 = true := anyF_iff.mpr ⟨j, Nat.zero_le _, by omega, by simp [c]⟩
      rw [h2] at this; cases this
  · rintro ⟨h1, h2⟩
    refine ⟨h1, ?_⟩
    cases z : anyF (fun j => !decide (t (p + j) = mm_sb i j)) (mm_sl i) 0 with
    | false => rfl
    | true =>
      obtain ⟨j, -, j2, j3⟩ := anyF_iff.mp z
      have := h2 j (by omega)
      simp [this] at j3
/-- the first word from w on, d of them, with P -/
def wtF (P : Nat → Bool) : Nat → Nat → Nat
  | 0, _ => 36
  | d + 1, w => if P w = true then w else wtF P d (w + 1)
theorem wtF_spec {P : Nat → Bool} : ∀ {d w : Nat}, (wtF P d w = 36 ∧ ∀ v, w ≤ v → v < w + d → P v = false) ∨ (w ≤ wtF P d w ∧ wtF P d w < w + d ∧ P (wtF P d w) = true) := by
  intro d
  induction d with
  | zero => intro w; exact Or.inl ⟨rfl, fun v h1 h2 => by omega⟩
  | succ d ih =>
    intro w
    simp only [wtF]
    by_cases c : P w = true
    · rw [if_pos c]; exact Or.inr ⟨Nat.le_refl _, by omega, c⟩
    · rw [if_neg c]
      rcases ih (w := w + 1) with ⟨h1, h2⟩ | ⟨h1, h2, h3⟩
      · refine Or.inl ⟨h1, fun v k1 k2 => ?_⟩
        by_cases e : v = w
        · rw [e]; simpa using c
        · exact h2 v (by omega) (by omega)
      · exact Or.inr ⟨by omega, by omega, h3⟩
def wtk (t : Nat → Int32) (p e : Nat) : Nat := wtF (fun w => rIs t p e (tx_w w)) 21 0
theorem wtk_iff {t : Nat → Int32} {p e w : Nat} (hw : w < 21) : wtk t p e = w ↔ rIs t p e (tx_w w) = true := by
  unfold wtk
  rcases wtF_spec (P := fun w => rIs t p e (tx_w w)) (d := 21) (w := 0) with ⟨h1, h2⟩ | ⟨h1, h2, h3⟩
  · rw [h1]
    constructor
    · intro z; omega
    · intro z
      have := h2 w (Nat.zero_le _) (by omega)
      rw [this] at z; cases z
  · constructor
    · intro z; rw [z] at h3; exact h3
    · intro z
      obtain ⟨a1, a2⟩ := rIs_iff.mp z
      obtain ⟨b1, b2⟩ := rIs_iff.mp h3
      refine tx_one _ (by omega) _ hw (by omega) fun j hj => ?_
      rw [← b2 j hj, a2 j (by omega)]
theorem wtk_b {t : Nat → Int32} {p e : Nat} : wtk t p e < 21 ∨ wtk t p e = 36 := by
  unfold wtk
  rcases wtF_spec (P := fun w => rIs t p e (tx_w w)) (d := 21) (w := 0) with ⟨h1, h2⟩ | ⟨h1, h2, h3⟩
  · exact Or.inr h1
  · exact Or.inl (by omega)
/-- a token at p: its sort, what is behind it, its number -/
def sgF (c : Int32) (s : Bool) : Nat := if c = 40 then 24 else if c = 41 then 25 else if c = 42 then 29 else if c = 43 then 27 else if c = 45 then 28 else if c = 59 then 26 else if c = 60 then (if s = true then 31 else 30) else if c = 61 then 32 else if c = 62 then (if s = true then 33 else 34) else if c = 91 then 22 else if c = 93 then 23 else 36
def smF (t : Nat → Int32) (n p : Nat) : Bool := decide (p + 1 < n) && decide (t (p + 1) = 61)
def tkF (t : Nat → Int32) (n p : Nat) : Nat := if n ≤ p then 35 else if isDg (t p) = true then 21 else if isLt (t p) = true then wtk t p (weF t n p) else sgF (t p) (smF t n p)
def nxF (t : Nat → Int32) (n p : Nat) : Nat := if n ≤ p then p else if isDg (t p) = true then deF t n p else if isLt (t p) = true then weF t n p else if sgF (t p) (smF t n p) = 31 ∨ sgF (t p) (smF t n p) = 33 then p + 2 else p + 1
/-- the digits from p to e, the first five of them -/
def nvF (t : Nat → Int32) : Nat → Nat → Nat → Nat
  | 0, _, v => v
  | d + 1, p, v => nvF t d (p + 1) (10 * v + (t p - 48).toNatClampNeg)
def nvA (t : Nat → Int32) (p e : Nat) : Nat := nvF t (min 5 (e - p)) p 0
def nuF (t : Nat → Int32) (n p : Nat) : Int32 := if tkF t n p = 21 then (if 5 < deF t n p - p then -1 else nI (nvA t p (deF t n p))) else 0
def psF (t : Nat → Int32) (n : Nat) : Nat → Nat
  | 0 => 0
  | i + 1 => nxF t n (skF t n (psF t n i))
def plF (t : Nat → Int32) (n i : Nat) : Nat := skF t n (psF t n i)
section KB
variable {t : Nat → Int32} {n p i : Nat}
theorem sk_le (hp : p ≤ n) : p ≤ skF t n p ∧ skF t n p ≤ n := by
  have := runF_le (P := isBl) (t := t) (d := n - p) (p := p)
  unfold skF; omega
theorem we_le (hp : p ≤ n) : p ≤ weF t n p ∧ weF t n p ≤ n := by
  have := runF_le (P := isLt) (t := t) (d := n - p) (p := p)
  unfold weF; omega
theorem de_le (hp : p ≤ n) : p ≤ deF t n p ∧ deF t n p ≤ n := by
  have := runF_le (P := isDg) (t := t) (d := n - p) (p := p)
  unfold deF; omega
theorem sk_nb (hp : p ≤ n) (h : skF t n p < n) : isBl (t (skF t n p)) = false := by
  unfold skF at *
  exact runF_end (by omega)
theorem sk_id (hp : p ≤ n) : skF t n (skF t n p) = skF t n p := by
  have h1 := sk_le (t := t) hp
  by_cases c : skF t n p < n
  · have h2 := sk_nb hp c
    show runF isBl t (n - skF t n p) (skF t n p) = _
    rw [runF_step c, h2, if_neg (by decide)]
  · show runF isBl t (n - skF t n p) (skF t n p) = _
    rw [runF_stop (by omega)]
theorem sgF_same {c : Int32} {s : Bool} : (sgF c s = 31 ∨ sgF c s = 33) → s = true := by
  intro h
  cases s with
  | true => rfl
  | false =>
    have key : sgF c false ≠ 31 ∧ sgF c false ≠ 33 := by
      unfold sgF
      simp only [Bool.false_eq_true, if_false]
      repeat' split
      all_goals omega
    exact absurd h (by omega)
theorem nx_le (hp : p ≤ n) : p ≤ nxF t n p ∧ nxF t n p ≤ n ∧ (p < n → p < nxF t n p) := by
  unfold nxF
  by_cases c0 : n ≤ p
  · rw [if_pos c0]; omega
  rw [if_neg c0]
  by_cases c1 : isDg (t p) = true
  · rw [if_pos c1]
    have h1 : deF t n p = deF t n (p + 1) := by
      show runF isDg t (n - p) p = _
      rw [runF_step (by omega), if_pos c1]; rfl
    have := de_le (t := t) (n := n) (p := p + 1) (by omega)
    omega
  rw [if_neg c1]
  by_cases c2 : isLt (t p) = true
  · rw [if_pos c2]
    have h1 : weF t n p = weF t n (p + 1) := by
      show runF isLt t (n - p) p = _
      rw [runF_step (by omega), if_pos c2]; rfl
    have := we_le (t := t) (n := n) (p := p + 1) (by omega)
    omega
  rw [if_neg c2]
  by_cases c3 : sgF (t p) (smF t n p) = 31 ∨ sgF (t p) (smF t n p) = 33
  · rw [if_pos c3]
    have h1 := sgF_same c3
    unfold smF at h1
    rw [Bool.and_eq_true, decide_eq_true_eq] at h1
    omega
  · rw [if_neg c3]; omega
theorem ps_le : ∀ i, psF t n i ≤ n := by
  intro i
  induction i with
  | zero => exact Nat.zero_le _
  | succ i ih => exact (nx_le (sk_le ih).2).2.1
theorem pl_le (i : Nat) : psF t n i ≤ plF t n i ∧ plF t n i ≤ n := sk_le (ps_le i)
theorem pl_mono (i : Nat) : plF t n i ≤ psF t n (i + 1) ∧ (plF t n i < n → plF t n i < psF t n (i + 1)) := by
  have := nx_le (t := t) (pl_le (t := t) (n := n) i).2
  exact ⟨this.1, this.2.2⟩
theorem ps_ge : ∀ i, (∀ j, j < i → plF t n j < n) → i ≤ psF t n i := by
  intro i
  induction i with
  | zero => intro _; exact Nat.zero_le _
  | succ i ih =>
    intro h
    have h1 := ih fun j hj => h j (by omega)
    have h2 := (pl_mono (t := t) (n := n) i).2 (h i (by omega))
    have h3 := (pl_le (t := t) (n := n) i).1
    omega
theorem nvF_b : ∀ {d p v : Nat} (b : Nat), (∀ q, p ≤ q → q < p + d → (t q - 48).toNatClampNeg ≤ 9) → v < 10 ^ b → nvF t d p v < 10 ^ (b + d) := by
  intro d
  induction d with
  | zero => intro p v b _ h; exact h
  | succ d ih =>
    intro p v b h hv
    simp only [nvF]
    have h1 := h p (Nat.le_refl _) (by omega)
    have h2 := ih (p := p + 1) (v := 10 * v + (t p - 48).toNatClampNeg) (b + 1) (fun q k1 k2 => h q (by omega) (by omega)) (by rw [Nat.pow_succ]; omega)
    rw [show b + (d + 1) = b + 1 + d by omega]; exact h2
theorem dg_v {c : Int32} (h : isDg c = true) : ∃ v, v ≤ 9 ∧ c = nI (48 + v) ∧ (c - 48).toNatClampNeg = v ∧ c - 48 = nI v := by
  unfold isDg at h
  rw [Bool.and_eq_true, decide_eq_true_eq, decide_eq_true_eq] at h
  obtain ⟨j, j1, j2⟩ := q_rng (x := c) (n := 58) (by omega) (Int32.not_lt.mpr (Int32.le_trans (by decide) h.1)) (Int32.not_le.mpr (Int32.lt_of_le_of_lt h.2 (by decide +kernel)))
  have j3 : 48 ≤ j := by
    refine Nat.not_lt.mp fun z => ?_
    have : nI j < (48 : Int32) := nI_lt (b := 48) z (by omega)
    rw [← j2] at this
    exact absurd h.1 (Int32.not_le.mpr this)
  have e : c - 48 = nI (j - 48) := by
    rw [j2, show (48 : Int32) = nI 48 by decide +kernel, nI_sub j3]
  exact ⟨j - 48, by omega, by rw [j2]; congr 1; omega, by rw [e, nI_clamp (by omega)], e⟩
theorem nvA_b {e : Nat} (h : ∀ q, p ≤ q → q < e → isDg (t q) = true) : nvA t p e ≤ 99999 := by
  have h1 := nvF_b (t := t) (d := min 5 (e - p)) (p := p) (v := 0) 0 (fun q k1 k2 => by
    obtain ⟨v, v1, -, v3, -⟩ := dg_v (h q k1 (by omega))
    omega) (by decide)
  have h2 : 10 ^ (0 + min 5 (e - p)) ≤ 10 ^ 5 := Nat.pow_le_pow_right (by decide) (by omega)
  unfold nvA
  omega
end KB
