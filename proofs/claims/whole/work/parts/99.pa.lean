/-! the plan: all ways in their order -/
/-- the first c places from i on, of d, with P -/
def tk (P : Nat → Bool) : Nat → Nat → Nat → List Nat
  | 0, _, _ => []
  | d + 1, i, c => if c = 0 then [] else if P i = true then i :: tk P d (i + 1) (c - 1) else tk P d (i + 1) c
theorem tk_len {P : Nat → Bool} : ∀ {d i c : Nat}, (tk P d i c).length ≤ c := by
  intro d
  induction d with
  | zero => intro i c; exact Nat.zero_le _
  | succ d ih =>
    intro i c
    simp only [tk]
    by_cases h : c = 0
    · rw [if_pos h]; exact Nat.zero_le _
    · rw [if_neg h]
      by_cases e : P i = true
      · rw [if_pos e]
        have := ih (i := i + 1) (c := c - 1)
        rw [List.length_cons]; omega
      · rw [if_neg e]; exact ih
theorem tk_0 {P : Nat → Bool} {d i : Nat} : tk P d i 0 = [] := by
  cases d with
  | zero => rfl
  | succ d => simp [tk]
theorem tk_mem {P : Nat → Bool} : ∀ {d i c k : Nat}, k ∈ tk P d i c → k < i + d ∧ P k = true := by
  intro d
  induction d with
  | zero => intro i c k h; cases h
  | succ d ih =>
    intro i c k h
    simp only [tk] at h
    by_cases hc : c = 0
    · rw [if_pos hc] at h; cases h
    · rw [if_neg hc] at h
      by_cases e : P i = true
      · rw [if_pos e] at h
        rcases List.mem_cons.mp h with z | z
        · subst z; exact ⟨by omega, e⟩
        · have := ih z; exact ⟨by omega, this.2⟩
      · rw [if_neg e] at h
        have := ih h; exact ⟨by omega, this.2⟩
theorem tk_cg {P Q : Nat → Bool} : ∀ {d i c : Nat}, (∀ k, i ≤ k → k < i + d → P k = Q k) → tk P d i c = tk Q d i c := by
  intro d
  induction d with
  | zero => intro i c _; rfl
  | succ d ih =>
    intro i c h
    simp only [tk]
    rw [h i (Nat.le_refl _) (by omega), ih (i := i + 1) (c := c - 1) (fun k h1 h2 => h k (by omega) (by omega)), ih (i := i + 1) (c := c) (fun k h1 h2 => h k (by omega) (by omega))]
theorem getD_mem : ∀ {l : List Nat} {t : Nat}, t < l.length → l.getD t 0 ∈ l := by
  intro l
  induction l with
  | nil => intro t h; cases h
  | cons a l ih =>
    intro t h
    cases t with
    | zero => exact List.mem_cons.mpr (Or.inl rfl)
    | succ t =>
      rw [List.getD_cons_succ]
      exact List.mem_cons.mpr (Or.inr (ih (by rw [List.length_cons] at h; omega)))
/-- a ship behind the last one -/
def ltr (D : Nat → Int32) (k : Nat) : Option Nat → Bool
  | none => true
  | some b => decide (D b < D k) || (decide (D k = D b) && decide (b < k))
def aft (p : Nat → Bool) (D : Nat → Int32) (f : Option Nat) (k : Nat) : Bool := p k && ltr D k f
def sqL (p : Nat → Bool) (D : Nat → Int32) (ns : Nat) : Nat → Option Nat → List Nat
  | 0, _ => []
  | c + 1, f => match nxt (aft p D f) D ns 0 none with
    | none => []
    | some j => j :: sqL p D ns c (some j)
theorem nxt_cg {p q : Nat → Bool} {D : Nat → Int32} : ∀ {d i : Nat} {f : Option Nat}, (∀ k, i ≤ k → k < i + d → p k = q k) → nxt p D d i f = nxt q D d i f := by
  intro d
  induction d with
  | zero => intro i f _; rfl
  | succ d ih =>
    intro i f h
    simp only [nxt]
    rw [h i (Nat.le_refl _) (by omega)]
    exact ih (fun k h1 h2 => h k (by omega) (by omega))
theorem nxt_mem {p : Nat → Bool} {D : Nat → Int32} {n j : Nat} (h : nxt p D n 0 none = some j) : j < n ∧ p j = true ∧ ∀ k, k < n → p k = true → kle D j k := by
  have q := nxt_spec (p := p) (D := D) (d := n) (i := 0) (f := none) (fun k hk => absurd hk (by omega))
  rw [Nat.zero_add, h] at q
  exact q
theorem sqL_len {p : Nat → Bool} {D : Nat → Int32} {ns : Nat} : ∀ {c : Nat} {f : Option Nat}, (sqL p D ns c f).length ≤ c := by
  intro c
  induction c with
  | zero => intro f; exact Nat.zero_le _
  | succ c ih =>
    intro f
    simp only [sqL]
    cases e : nxt (aft p D f) D ns 0 none with
    | none => exact Nat.zero_le _
    | some j => have := ih (f := some j); rw [List.length_cons]; omega
theorem sqL_mem {p : Nat → Bool} {D : Nat → Int32} {ns : Nat} : ∀ {c : Nat} {f : Option Nat} {k : Nat}, k ∈ sqL p D ns c f → k < ns := by
  intro c
  induction c with
  | zero => intro f k h; cases h
  | succ c ih =>
    intro f k h
    simp only [sqL] at h
    cases e : nxt (aft p D f) D ns 0 none with
    | none => rw [e] at h; cases h
    | some j =>
      rw [e] at h
      rcases List.mem_cons.mp h with z | z
      · subst z; exact (nxt_mem e).1
      · exact ih z
/-- sums along the digits of p to the base b, the last one at place k - 1 -/
def pG (a : Nat → Nat → Nat) (b : Nat) : Nat → Nat → Nat
  | 0, _ => 0
  | k + 1, p => pG a b k (p / b) + a k (p % b)
def pD (b : Nat) : Nat → Nat → Nat → Nat
  | 0, _, _ => 0
  | k + 1, p, i => if i = k then p % b else pD b k (p / b) i
theorem pD_lt {b : Nat} (hb : 0 < b) : ∀ {k p i : Nat}, pD b k p i < b := by
  intro k
  induction k with
  | zero => intro p i; exact hb
  | succ k ih =>
    intro p i
    simp only [pD]
    by_cases e : i = k
    · rw [if_pos e]; exact Nat.mod_lt _ hb
    · rw [if_neg e]; exact ih
theorem pD_child {b k p w i : Nat} (hw : w < b) : pD b (k + 1) (p * b + w) i = if i = k then w else pD b k p i := by
  have h1 : (p * b + w) / b = p := by rw [Nat.mul_comm, Nat.mul_add_div (by omega), Nat.div_eq_of_lt hw, Nat.add_zero]
  have h2 : (p * b + w) % b = w := by rw [Nat.mul_comm, Nat.mul_add_mod, Nat.mod_eq_of_lt hw]
  simp only [pD, h1, h2]
theorem pG_child {a : Nat → Nat → Nat} {b k p w : Nat} (hw : w < b) : pG a b (k + 1) (p * b + w) = pG a b k p + a k w := by
  have h1 : (p * b + w) / b = p := by rw [Nat.mul_comm, Nat.mul_add_div (by omega), Nat.div_eq_of_lt hw, Nat.add_zero]
  have h2 : (p * b + w) % b = w := by rw [Nat.mul_comm, Nat.mul_add_mod, Nat.mod_eq_of_lt hw]
  simp only [pG, h1, h2]
theorem pG_sum {a : Nat → Nat → Nat} {b : Nat} : ∀ {n t : Nat}, pG a b n t = sumN (fun i => a i (pD b n t i)) n := by
  intro n
  induction n with
  | zero => intro t; rfl
  | succ n ih =>
    intro t
    rw [sumN_s]
    simp only [pG, pD]
    rw [if_pos trivial, ih]
    congr 1
    exact sumN_le fun k hk => by rw [if_neg (by omega)]
theorem pG_pref {a : Nat → Nat → Nat} {b : Nat} : ∀ {r k t : Nat}, pG a b k (t / b ^ r) ≤ pG a b (k + r) t := by
  intro r
  induction r with
  | zero => intro k t; rw [Nat.pow_zero, Nat.div_one]; exact Nat.le_refl _
  | succ r ih =>
    intro k t
    have h1 := ih (k := k) (t := t / b)
    rw [Nat.div_div_eq_div_mul, ← Nat.pow_succ'] at h1
    rw [show r.succ = r + 1 from rfl] at h1
    rw [show k + (r + 1) = (k + r) + 1 by omega]
    simp only [pG]
    omega
theorem pG_hope {a : Nat → Nat → Nat} {b : Nat} (hb : 0 < b) {hp : Nat → Nat} : ∀ {r k t : Nat}, (∀ i w, k ≤ i → i < k + r → w < b → a i w + hp (i + 1) ≤ hp i) → pG a b (k + r) t + hp (k + r) ≤ pG a b k (t / b ^ r) + hp k := by
  intro r
  induction r with
  | zero => intro k t _; rw [Nat.pow_zero, Nat.div_one]; exact Nat.le_refl _
  | succ r ih =>
    intro k t h
    have h1 := ih (k := k) (t := t / b) (fun i w h1 h2 h3 => h i w h1 (by omega) h3)
    rw [Nat.div_div_eq_div_mul, ← Nat.pow_succ'] at h1
    rw [show r.succ = r + 1 from rfl] at h1
    have h2 := h (k + r) (t % b) (by omega) (by omega) (Nat.mod_lt _ hb)
    rw [show k + (r + 1) = (k + r) + 1 by omega]
    simp only [pG]
    omega
theorem pG_le {a : Nat → Nat → Nat} {b M : Nat} (ha : ∀ i w, a i w ≤ M) : ∀ {n t : Nat}, pG a b n t ≤ n * M := by
  intro n
  induction n with
  | zero => intro t; exact Nat.zero_le _
  | succ n ih =>
    intro t
    have h1 := ih (t := t / b)
    have h2 := ha n (t % b)
    simp only [pG]
    rw [Nat.succ_mul]; omega
/-- places from a on, e of them, one after the other -/
def fr {σ : Type} (f : σ → Nat → σ) : Nat → Nat → σ → σ
  | 0, _, s => s
  | e + 1, a, s => fr f e (a + 1) (f s a)
theorem fr_add {σ : Type} {f : σ → Nat → σ} : ∀ {e e' a : Nat} {s : σ}, fr f (e + e') a s = fr f e' (a + e) (fr f e a s) := by
  intro e
  induction e with
  | zero => intro e' a s; rw [Nat.zero_add, Nat.add_zero]; rfl
  | succ e ih =>
    intro e' a s
    rw [show e + 1 + e' = (e + e') + 1 by omega]
    simp only [fr]
    rw [ih, show a + 1 + e = a + (e + 1) by omega]
theorem fr_same {σ : Type} {f : σ → Nat → σ} {s : σ} : ∀ {e a : Nat}, (∀ t, a ≤ t → t < a + e → f s t = s) → fr f e a s = s := by
  intro e
  induction e with
  | zero => intro a _; rfl
  | succ e ih =>
    intro a h
    simp only [fr]
    rw [h a (Nat.le_refl _) (by omega)]
    exact ih fun t h1 h2 => h t (by omega) (by omega)
/-- a load on ship j -/
def pL (am : Nat → Nat) (j : Nat) : Nat → Nat → Nat := fun i w => if w = j then am i else 0
def okP (am rm : Nat → Nat) (q n t : Nat) : Bool := !anyF (fun j => decide (rm j < pG (pL am j) (q + 1) n t)) q 0
def bet : Option (Nat × Nat × Nat) → Nat → Nat → Bool
  | none, _, _ => true
  | some (a, c, _), l, g => decide (a < l) || (decide (a = l) && decide (c < g))
def pS (am rm : Nat → Nat) (lo hi : Nat → Nat → Nat) (q n : Nat) (st : Option (Nat × Nat × Nat)) (t : Nat) : Option (Nat × Nat × Nat) := if (okP am rm q n t && bet st (pG lo (q + 1) n t) (pG hi (q + 1) n t)) = true then some (pG lo (q + 1) n t, pG hi (q + 1) n t, t) else st
section PU
variable {am rm : Nat → Nat} {lo hi : Nat → Nat → Nat} {q n : Nat}
theorem okP_iff {t : Nat} : okP am rm q n t = true ↔ ∀ j, j < q → pG (pL am j) (q + 1) n t ≤ rm j := by
  unfold okP
  rw [Bool.not_eq_true']
  constructor
  · intro h j hj
    refine Nat.not_lt.mp fun z => ?_
    have : anyF (fun j => decide (rm j < pG (pL am j) (q + 1) n t)) q 0 = true := anyF_iff.mpr ⟨j, Nat.zero_le _, by omega, decide_eq_true z⟩
    rw [h] at this; cases this
  · intro h
    rcases Bool.eq_false_or_eq_true (anyF (fun j => decide (rm j < pG (pL am j) (q + 1) n t)) q 0) with z | z
    · obtain ⟨j, -, h2, h3⟩ := anyF_iff.mp z
      have := h j (by omega)
      have h4 := of_decide_eq_true h3
      omega
    · exact z
theorem pS_no {st : Option (Nat × Nat × Nat)} {t : Nat} (h : okP am rm q n t = false) : pS am rm lo hi q n st t = st := by
  unfold pS
  rw [h, Bool.false_and, if_neg (by decide)]
theorem pS_low {a c u t : Nat} (h : pG lo (q + 1) n t < a) : pS am rm lo hi q n (some (a, c, u)) t = some (a, c, u) := by
  unfold pS
  have : bet (some (a, c, u)) (pG lo (q + 1) n t) (pG hi (q + 1) n t) = false := by
    show (decide (a < pG lo (q + 1) n t) || (decide (a = pG lo (q + 1) n t) && decide (c < pG hi (q + 1) n t))) = false
    rw [decide_eq_false (show ¬ a < pG lo (q + 1) n t by omega), decide_eq_false (show ¬ a = pG lo (q + 1) n t by omega)]; rfl
  rw [this, Bool.and_false, if_neg (by decide)]
theorem pS_some {st : Option (Nat × Nat × Nat)} {t : Nat} (h : ¬ st = none) : ¬ pS am rm lo hi q n st t = none := by
  unfold pS
  split
  · exact fun z => by cases z
  · exact h
theorem fr_some : ∀ {e a : Nat} {st : Option (Nat × Nat × Nat)}, ¬ st = none → ¬ fr (pS am rm lo hi q n) e a st = none := by
  intro e
  induction e with
  | zero => intro a st h; exact h
  | succ e ih => intro a st h; exact ih (pS_some h)
theorem fr_ok : ∀ {e a t : Nat} {st : Option (Nat × Nat × Nat)}, a ≤ t → t < a + e → okP am rm q n t = true → ¬ fr (pS am rm lo hi q n) e a st = none := by
  intro e
  induction e with
  | zero => intro a t st h1 h2; omega
  | succ e ih =>
    intro a t st h1 h2 h3
    simp only [fr]
    by_cases c : t = a
    · subst c
      refine fr_some ?_
      unfold pS
      cases st with
      | none => rw [h3]; simp [bet]
      | some s => split <;> exact fun z => by cases z
    · exact ih (by omega) (by omega) h3
/-- here behind all: the last way of all -/
theorem pG_last (j : Nat) (hj : j < q) : ∀ {k : Nat}, pG (pL am j) (q + 1) k ((q + 1) ^ k - 1) = 0 := by
  intro k
  induction k with
  | zero => rfl
  | succ k ih =>
    have hp : 0 < (q + 1) ^ k := Nat.pow_pos (by omega)
    have e : (q + 1) ^ (k + 1) - 1 = ((q + 1) ^ k - 1) * (q + 1) + q := by
      have : (q + 1) ^ (k + 1) = ((q + 1) ^ k - 1) * (q + 1) + (q + 1) := by
        rw [Nat.pow_succ, Nat.sub_mul, Nat.one_mul, Nat.sub_add_cancel]
        exact Nat.le_mul_of_pos_left _ hp
      omega
    rw [e, pG_child (by omega), ih]
    unfold pL
    rw [if_neg (by omega)]
theorem ok_last : okP am rm q n ((q + 1) ^ n - 1) = true := okP_iff.mpr fun j hj => by rw [pG_last j hj]; exact Nat.zero_le _
theorem ways_some : ¬ fr (pS am rm lo hi q n) ((q + 1) ^ n) 0 none = none := by
  have hp : 0 < (q + 1) ^ n := Nat.pow_pos (by omega)
  exact fr_ok (Nat.zero_le _) (by omega) ok_last
end PU
