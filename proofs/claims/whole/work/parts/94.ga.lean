/-! a man dies: his debts by their days -/
theorem jn_eq {α β : Type} {k : α → Option β} {b : (α → Option β) → Option β} (v : α) (h : ∀ q : α → Option β, b q = q v) : mm_jn k b = k v := h k
theorem jn_eq2 {α γ β : Type} {k : α → γ → Option β} {b : (α → γ → Option β) → Option β} (v : α) (w : γ) (h : ∀ q : α → γ → Option β, b q = q v w) : mm_jn k b = k v w := h k
theorem setI_same {h : mm_H} {a k : Nat} {v : Int32} (e : mm_i h a k = v) : mm_setI h a k v = h := by
  have : mm_u2 h.2.2.1 a k v = h.2.2.1 := by
    funext x y
    show (if x = a ∧ y = k then v else h.2.2.1 x y) = h.2.2.1 x y
    by_cases c : x = a ∧ y = k
    · rw [if_pos c, c.1, c.2]; exact e.symm
    · rw [if_neg c]
  unfold mm_setI
  rw [this]
theorem setJ_same {h : mm_H} {a k : Nat} {v : Int64} (e : mm_j h a k = v) : mm_setJ h a k v = h := by
  have : mm_u2 h.2.2.2.1 a k v = h.2.2.2.1 := by
    funext x y
    show (if x = a ∧ y = k then v else h.2.2.2.1 x y) = h.2.2.2.1 x y
    by_cases c : x = a ∧ y = k
    · rw [if_pos c, c.1, c.2]; exact e.symm
    · rw [if_neg c]
  unfold mm_setJ
  rw [this]
/-- the least by D, then by number, of those with p -/
def btr (D : Nat → Int32) (i : Nat) : Option Nat → Bool
  | none => true
  | some j => !decide (D j ≤ D i)
def nxt (p : Nat → Bool) (D : Nat → Int32) : Nat → Nat → Option Nat → Option Nat
  | 0, _, f => f
  | d + 1, i, f => nxt p D d (i + 1) (if (p i && btr D i f) = true then some i else f)
def eO : Option Nat → Int32
  | none => -1
  | some j => nI j
def eD (D : Nat → Int32) : Option Nat → Int32
  | none => -1
  | some j => D j
def kle (D : Nat → Int32) (j k : Nat) : Prop := (D j).toInt < (D k).toInt ∨ ((D j).toInt = (D k).toInt ∧ j ≤ k)
def isLe (p : Nat → Bool) (D : Nat → Int32) (i : Nat) : Option Nat → Prop
  | none => ∀ k, k < i → p k = false
  | some j => j < i ∧ p j = true ∧ ∀ k, k < i → p k = true → kle D j k
theorem nxt_spec {p : Nat → Bool} {D : Nat → Int32} : ∀ {d i : Nat} {f : Option Nat}, isLe p D i f → isLe p D (i + d) (nxt p D d i f) := by
  intro d
  induction d with
  | zero => intro i f h; exact h
  | succ d ih =>
    intro i f h
    rw [show i + (d + 1) = (i + 1) + d by omega]
    show isLe p D ((i + 1) + d) (nxt p D d (i + 1) (if (p i && btr D i f) = true then some i else f))
    refine ih ?_
    by_cases c : p i = true
    case neg =>
      have c2 : (p i && btr D i f) = false := by simp [c]
      rw [c2, if_neg (by decide)]
      cases f with
      | none =>
        intro k hk
        by_cases e : k = i
        · subst e; simpa using c
        · exact h k (by omega)
      | some j =>
        obtain ⟨h1, h2, h3⟩ := h
        refine ⟨by omega, h2, fun k hk hp => ?_⟩
        by_cases e : k = i
        · subst e; exact absurd hp c
        · exact h3 k (by omega) hp
    case pos =>
      cases f with
      | none =>
        rw [if_pos (show (p i && btr D i none) = true by rw [c]; rfl)]
        refine ⟨by omega, c, fun k hk hp => ?_⟩
        by_cases e : k = i
        · subst e; exact Or.inr ⟨rfl, Nat.le_refl _⟩
        · have := h k (by omega)
          rw [this] at hp; cases hp
      | some j =>
        obtain ⟨h1, h2, h3⟩ := h
        by_cases e : D j ≤ D i
        · have c2 : (p i && btr D i (some j)) = false := by simp [btr, e]
          rw [c2, if_neg (by decide)]
          refine ⟨by omega, h2, fun k hk hp => ?_⟩
          by_cases e2 : k = i
          · subst e2
            have := Int32.le_iff_toInt_le.mp e
            unfold kle; omega
          · exact h3 k (by omega) hp
        · have c2 : (p i && btr D i (some j)) = true := by simp [btr, e, c]
          rw [c2, if_pos rfl]
          refine ⟨by omega, c, fun k hk hp => ?_⟩
          by_cases e2 : k = i
          · subst e2; exact Or.inr ⟨rfl, Nat.le_refl _⟩
          · have q := h3 k (by omega) hp
            have : ¬ (D j).toInt ≤ (D i).toInt := fun z => e (Int32.le_iff_toInt_le.mpr z)
            unfold kle at *; omega
theorem nxt_none {p : Nat → Bool} {D : Nat → Int32} {n : Nat} (h : ∀ k, k < n → p k = false) : nxt p D n 0 none = none := by
  have q := nxt_spec (p := p) (D := D) (d := n) (i := 0) (f := none) (fun k hk => absurd hk (by omega))
  rw [Nat.zero_add] at q
  cases e : nxt p D n 0 none with
  | none => rfl
  | some j =>
    rw [e] at q
    have := h j q.1
    rw [q.2.1] at this; cases this
theorem nxt_some {p : Nat → Bool} {D : Nat → Int32} {n j : Nat} (hj : j < n) (hp : p j = true) (h : ∀ k, k < n → p k = true → kle D j k) : nxt p D n 0 none = some j := by
  have q := nxt_spec (p := p) (D := D) (d := n) (i := 0) (f := none) (fun k hk => absurd hk (by omega))
  rw [Nat.zero_add] at q
  cases e : nxt p D n 0 none with
  | none =>
    rw [e] at q
    have := q j hj
    rw [hp] at this; cases this
  | some i =>
    rw [e] at q
    have q1 := q.2.2 j hj hp
    have q2 := h i q.1 q.2.1
    have : i = j := by unfold kle at *; omega
    rw [this]
def cntF (p : Nat → Bool) : Nat → Nat
  | 0 => 0
  | n + 1 => cntF p n + (if p n = true then 1 else 0)
theorem cnt_le {p : Nat → Bool} : ∀ {n : Nat}, cntF p n ≤ n := by
  intro n
  induction n with
  | zero => exact Nat.le_refl _
  | succ n ih => simp only [cntF]; split <;> omega
theorem cnt_mono {p q : Nat → Bool} : ∀ {n : Nat}, (∀ k, k < n → q k = true → p k = true) → cntF q n ≤ cntF p n := by
  intro n
  induction n with
  | zero => intro _; exact Nat.le_refl _
  | succ n ih =>
    intro h
    have := ih (fun k hk => h k (by omega))
    have h2 := h n (by omega)
    simp only [cntF]
    by_cases c : q n = true
    · rw [if_pos c, if_pos (h2 c)]; omega
    · rw [if_neg c]; omega
theorem cnt_lt {p q : Nat → Bool} : ∀ {n j : Nat}, (∀ k, k < n → q k = true → p k = true) → j < n → p j = true → ¬ q j = true → cntF q n < cntF p n := by
  intro n
  induction n with
  | zero => intro j _ hj; omega
  | succ n ih =>
    intro j h hj hp hq
    simp only [cntF]
    by_cases e : j = n
    · subst e
      have := cnt_mono (p := p) (q := q) (n := j) (fun k hk => h k (by omega))
      rw [if_pos hp, if_neg hq]; omega
    · have := ih (fun k hk => h k (by omega)) (show j < n by omega) hp hq
      have h2 := h n (by omega)
      by_cases c : q n = true
      · rw [if_pos c, if_pos (h2 c)]; omega
      · rw [if_neg c]; omega
/-- the class's choice: a bargain of m on credit behind the one before -/
def xP (U : Nat → Nat → Nat) (D : Nat → Int32) (m : Nat) (b2 b3 : Int32) (k : Nat) : Bool := decide (U 1 k = m) && (decide (¬ D k = -1) && (decide (b3 < D k) || (decide (D k = b3) && decide (¬ nI k ≤ b2))))
/-- the reference's choice: owed, and not done -/
def yP (U : Nat → Nat → Nat) (W : Nat → Int32) (m : Nat) (k : Nat) : Bool := decide (U 1 k = m) && (decide (0 < U 2 k) && decide (W k = 0))
section GA
variable {B : Nat} {h hx hy hx' hy' : mm_H} {ow ow' : Nat → Nat × Nat} {n nm : Nat} {am : Nat → Nat} {P C : Nat → Nat} {A U : Nat → Nat → Nat} {T : Nat → Int32} {x : Nat} {D : Nat → Int32}
theorem x_next_L33 (S : mS B hx) (R : RBg B ow hx hy nm n A U T) (hD : ∀ k, k < n → mm_i hx (A 0 k) 4 = D k) (hm9 : nm ≤ 40) {m : Nat} (hm : m < nm) (b2 b3 : Int32) (K : Int32 → mm_H → Option (Int32 × mm_H)) : ∀ (e i fuel : Nat) (f : Option Nat), i + e = n → e < fuel → (∀ j, f = some j → j < i) → fX11_nextDebt_L33 B (nI m) b2 b3 K fuel (eO f) (eD D f) (nI i) hx = K (eO (nxt (xP U D m b2 b3) D e i f)) hx := by
  have n9 := R.1
  have hsz := x_size (sk3 S) R.2.1
  intro e
  induction e with
  | zero =>
    intro i fuel f hi hf hfi
    obtain ⟨g, rfl⟩ : ∃ g, fuel = g + 1 := ⟨fuel - 1, by omega⟩
    show fX11_nextDebt_L33_b _ _ _ _ _ _ _ _ _ _ = _
    unfold fX11_nextDebt_L33_b
    rw [q_ck (sk0 S), sr0_2 S, p_rf, q_ck (sk3 S), hsz, p_cl, if_pos (nI_le (show n ≤ i by omega) (by omega))]
    rfl
  | succ e ih =>
    intro i fuel f hi hf hfi
    obtain ⟨g, rfl⟩ : ∃ g, fuel = g + 1 := ⟨fuel - 1, by omega⟩
    have hi2 : i < n := by omega
    have hg := x_bar S R hi2
    have kd := (R.2.1.2.2.2 i hi2).2
    have c1 := (R.2.2.2.1 i hi2).1.2.1
    have ih1 := fun f' hf' => ih (i + 1) g f' (by omega) (by omega) hf'
    show fX11_nextDebt_L33_b _ _ _ _ _ _ _ _ _ _ = _
    unfold fX11_nextDebt_L33_b
    rw [q_ck (sk0 S), sr0_2 S, p_rf, q_ck (sk3 S), hsz, p_cl, if_neg (nI_ge hi2 (by omega)), q_ck (sk0 S), sr0_2 S, p_rf, q_ck (sk3 S), hg, p_cl, p_rf, q_ck kd, hD i hi2, c1.1]
    have e1 : nI (U 1 i) = nI m ↔ U 1 i = m := nI_eq (by omega) (by omega)
    obtain ⟨L, hL⟩ : ∃ L : Bool, L = (decide (b3 < D i) || (decide (D i = b3) && decide (¬ nI i ≤ b2))) := ⟨_, rfl⟩
    refine (jn_eq (if L = true then (1 : Int32) else 0) (fun q => ?_)).trans ?_
    · rw [p_jn, hL]
      by_cases w1 : b3 < D i
      · simp [w1]
      · rw [if_neg w1, p_jn]
        by_cases w2 : D i = b3
        · by_cases w3 : nI i ≤ b2
          · simp [w1, w2, w3]
          · simp [w1, w2, w3]
        · simp [w1, w2]
    show _ = K (eO (nxt (xP U D m b2 b3) D e (i + 1) (if (xP U D m b2 b3 i && btr D i f) = true then some i else f))) hx
    have hx9 : xP U D m b2 b3 i = (decide (U 1 i = m) && (decide (¬ D i = -1) && L)) := by rw [hL]; rfl
    refine (jn_eq2 (eO (if (xP U D m b2 b3 i && btr D i f) = true then some i else f)) (eD D (if (xP U D m b2 b3 i && btr D i f) = true then some i else f)) (fun q => ?_)).trans ?_
    · rw [hx9]
      by_cases w1 : U 1 i = m
      case neg => rw [if_pos (fun z => w1 (e1.mp z))]; simp [w1]
      rw [if_neg (not_not_intro (e1.mpr w1))]
      by_cases w2 : D i = -1
      case pos => simp [w1, w2]
      cases L with
      | false => simp
      | true =>
        rw [if_neg w2, if_pos rfl, if_neg (by decide), p_jn]
        cases f with
        | none =>
          rw [show eO none = (-1 : Int32) from rfl, if_pos rfl, p_lt]
          simp [w1, w2, btr, eO, eD]
        | some j =>
          have hne : ¬ eO (some j) = -1 := nI_neg1 (by have := hfi j rfl; omega)
          rw [if_neg hne]
          by_cases w3 : D j ≤ D i
          · rw [if_pos (show eD D (some j) ≤ D i from w3)]
            simp [btr, w3]
          · rw [if_neg (show ¬ eD D (some j) ≤ D i from w3), p_lt]
            simp [w1, w2, btr, w3, eO, eD]
    · rw [p_lt, nI_1]
      refine ih1 _ (fun j hj => ?_)
      by_cases w : (xP U D m b2 b3 i && btr D i f) = true
      · rw [if_pos w] at hj
        obtain rfl := Option.some.inj hj
        omega
      · rw [if_neg w] at hj
        have := hfi j hj; omega
theorem x_nextDebt (S : mS B hx) (R : RBg B ow hx hy nm n A U T) (hD : ∀ k, k < n → mm_i hx (A 0 k) 4 = D k) (hm9 : nm ≤ 40) {m : Nat} (hm : m < nm) (f : Option Nat) (hf : ∀ j, f = some j → j < n) : fX11_nextDebt B (nI m) (eO f) hx = some (eO (nxt (xP U D m (eO f) (eD D f)) D n 0 none), hx) := by
  have n9 := R.1
  unfold fX11_nextDebt
  have hL := x_next_L33 S R hD hm9 hm (eO f) (eD D f) (fun z g => some (z, g)) n 0 mm_F none (by omega) (by unfold mm_F; omega) (fun j hj => by cases hj)
  rw [nI_0] at hL
  refine (jn_eq2 (eD D f) hx (fun q => ?_)).trans hL
  cases f with
  | none => rw [if_neg (not_not_intro (show eO none = -1 from rfl))]; rfl
  | some j =>
    have hj := hf j rfl
    have hg := x_bar S R hj
    have kd := (R.2.1.2.2.2 j hj).2
    rw [if_pos (show ¬ eO (some j) = -1 from nI_neg1 (by omega)), q_ck (sk0 S), sr0_2 S, p_rf, q_ck (sk3 S), show eO (some j) = nI j from rfl, hg, p_cl, p_rf, q_ck kd, hD j hj]
    rfl
theorem y_L55 (S : mS B hy) (R : RBg B ow hx hy nm n A U T) (hD : ∀ k, k < n → mm_i hx (A 0 k) 4 = D k) (hm9 : nm ≤ 40) {m : Nat} (hm : m < nm) (K : Int32 → mm_H → Option (Int32 × mm_H)) : ∀ (e i fuel : Nat) (f : Option Nat), i + e = n → e < fuel → (∀ j, f = some j → j < i) → fX12_die_L55 (B + 66) (nI m) K fuel (eO f) (nI i) hy = K (eO (nxt (yP U (fun k => mm_i hy (B + 133) k) m) D e i f)) hy := by
  have n9 := R.1
  have h43 := R.2.2.1
  intro e
  induction e with
  | zero =>
    intro i fuel f hi hf hfi
    obtain ⟨g, rfl⟩ : ∃ g, fuel = g + 1 := ⟨fuel - 1, by omega⟩
    show fX12_die_L55_b _ _ _ _ _ _ _ = _
    unfold fX12_die_L55_b
    rw [q_ck (sk66 S), h43, if_pos (nI_le (show n ≤ i by omega) (by omega))]
    rfl
  | succ e ih =>
    intro i fuel f hi hf hfi
    obtain ⟨g, rfl⟩ : ∃ g, fuel = g + 1 := ⟨fuel - 1, by omega⟩
    have hi2 : i < n := by omega
    have hM := (R.2.2.2.1 i hi2).1
    have c1 := hM.2.1
    have c2 := hM.2.2.1
    have cD : ∀ k, k < n → mm_i hy (B + 101) k = D k := fun k hk => (R.2.2.2.1 k hk).1.2.2.2.2.1.2.2.1.trans (hD k hk)
    have hO := hM.2.2.2.2.2.2.2.2.2
    have hq := fun (β : Type) (z : Option β) => q_ckx (show i < 300 by omega) (by decide) z
    have hcl := nI_clamp (n := i) (by omega)
    have ih1 := fun f' hf' => ih (i + 1) g f' (by omega) (by omega) hf'
    have e1 : nI (U 1 i) = nI m ↔ U 1 i = m := nI_eq (by omega) (by omega)
    have e2 : nI (U 2 i) ≤ 0 ↔ ¬ (0 < U 2 i) := by
      rw [← nI_0]; exact (nI_leI (by omega) (by omega)).trans (by omega)
    show fX12_die_L55_b _ _ _ _ _ _ _ = _
    unfold fX12_die_L55_b
    simp only [hcl]
    rw [q_ck (sk66 S), h43, if_neg (nI_ge hi2 (by omega)), sr66_45 S, p_rf, q_ck (sk97 S), sn97 S, hq, c1.2.1]
    obtain ⟨pv, hpv⟩ : ∃ pv, pv = yP U (fun k => mm_i hy (B + 133) k) m := ⟨_, rfl⟩
    have hpi : pv i = (decide (U 1 i = m) && (decide (0 < U 2 i) && decide (mm_i hy (B + 133) i = 0))) := by rw [hpv]; rfl
    rw [← hpv] at ih1 ⊢
    show _ = K (eO (nxt pv D e (i + 1) (if (pv i && btr D i f) = true then some i else f))) hy
    refine (jn_eq (eO (if (pv i && btr D i f) = true then some i else f)) (fun q => ?_)).trans ?_
    · rw [hpi]
      by_cases w1 : U 1 i = m
      case neg => rw [if_pos (fun z => w1 (e1.mp z))]; simp [w1]
      rw [if_neg (not_not_intro (e1.mpr w1)), sr66_48 S, p_rf, q_ck (sk100 S), sn100 S, hq, c2.2]
      by_cases w2 : 0 < U 2 i
      case neg => rw [if_pos (e2.mpr w2)]; simp [w2]
      rw [if_neg (fun z => e2.mp z w2), sr66_98 S, p_rf, q_ck (sk133 S), sn133 S, hq]
      by_cases w3 : mm_i hy (B + 133) i = 0
      case neg => rw [if_pos w3]; simp [w3]
      rw [if_neg (not_not_intro w3), p_jn]
      cases f with
      | none =>
        rw [show eO none = (-1 : Int32) from rfl, if_pos rfl]
        simp [w1, w2, w3, btr, eO]
      | some j =>
        have hji := hfi j rfl
        have hne : ¬ eO (some j) = -1 := nI_neg1 (by omega)
        have hqj := fun (β : Type) (z : Option β) => q_ckx (show j < 300 by omega) (by decide) z
        rw [if_neg hne, sr66_49 S, p_rf, q_ck (sk101 S), sn101 S, hq, show eO (some j) = nI j from rfl, hqj, nI_clamp (show j < 2 ^ 31 by omega), cD j (by omega), cD i hi2]
        by_cases w4 : D j ≤ D i
        · rw [if_pos w4]
          simp [btr, w4, eO]
        · rw [if_neg w4]
          simp [w1, w2, w3, btr, w4, eO]
    · rw [p_lt, nI_1]
      refine ih1 _ (fun j hj => ?_)
      by_cases w : (pv i && btr D i f) = true
      · rw [if_pos w] at hj
        obtain rfl := Option.some.inj hj
        omega
      · rw [if_neg w] at hj
        have := hfi j hj; omega
end GA
