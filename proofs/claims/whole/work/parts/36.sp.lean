/-! spans: the best of the weighings by fractions, and who quarrels -/
/-- the first place below n that is best: bt k f says that k is better than f -/
def btN (b : Nat → Bool) : Option Nat → Bool
  | none => true
  | some f => b f
def bestF (kn : Nat → Bool) (bt : Nat → Nat → Bool) : Nat → Option Nat
  | 0 => none
  | k + 1 => if kn k && btN (bt k) (bestF kn bt k) then some k else bestF kn bt k
theorem bestF_none {kn : Nat → Bool} {bt : Nat → Nat → Bool} : ∀ {n : Nat}, bestF kn bt n = none → ∀ v, v < n → kn v = false := by
  intro n
  induction n with
  | zero => intro _ v hv; omega
  | succ n ih =>
    intro h v hv
    simp only [bestF] at h
    split at h
    · cases h
    · rename_i e
      rw [h] at e
      by_cases q : v = n
      · subst q; simpa [btN] using e
      · exact ih h v (by omega)
theorem bestF_lt {kn : Nat → Bool} {bt : Nat → Nat → Bool} : ∀ {n f : Nat}, bestF kn bt n = some f → f < n := by
  intro n
  induction n with
  | zero => intro f h; cases h
  | succ n ih =>
    intro f h
    simp only [bestF] at h
    split at h
    · cases h; omega
    · have := ih h; omega
theorem bestF_kn {kn : Nat → Bool} {bt : Nat → Nat → Bool} : ∀ {n f : Nat}, bestF kn bt n = some f → kn f = true := by
  intro n
  induction n with
  | zero => intro f h; cases h
  | succ n ih =>
    intro f h
    simp only [bestF] at h
    split at h
    · rename_i e
      cases h
      simp only [Bool.and_eq_true] at e
      exact e.1
    · exact ih h
theorem bestF_some {kn : Nat → Bool} {bt : Nat → Nat → Bool} (irr : ∀ a, bt a a = false) (tr : ∀ a b c, kn a = true → kn b = true → kn c = true → bt a b = false → bt c b = true → bt a c = false) : ∀ {n f : Nat}, bestF kn bt n = some f → f < n ∧ kn f = true ∧ ∀ v, v < n → kn v = true → bt v f = false := by
  intro n
  induction n with
  | zero => intro f h; cases h
  | succ n ih =>
    intro f h
    simp only [bestF] at h
    split at h
    · rename_i e
      cases h
      simp only [Bool.and_eq_true] at e
      refine ⟨by omega, e.1, fun v hv hk => ?_⟩
      by_cases q : v = n
      · subst q; exact irr _
      · cases hb : bestF kn bt n with
        | none => exact absurd (bestF_none hb v (by omega)) (by rw [hk]; decide)
        | some g =>
          have e2 := e.2
          rw [hb] at e2
          simp only [btN] at e2
          obtain ⟨i1, i2, i3⟩ := ih hb
          exact tr v g n hk i2 e.1 (i3 v (by omega) hk) e2
    · rename_i e
      obtain ⟨i1, i2, i3⟩ := ih h
      refine ⟨by omega, i2, fun v hv hk => ?_⟩
      by_cases q : v = n
      · subst q
        rw [h, hk] at e
        simpa [btN] using e
      · exact i3 v (by omega) hk
theorem fr_le_lt {a b c d e f : Nat} (hd : 0 < d) (h1 : a * d ≤ c * b) (h2 : c * f < e * d) (hb : 0 < b) : a * f < e * b := by
  have k1 : a * f * d ≤ c * f * b := by
    have := Nat.mul_le_mul_right f h1
    calc a * f * d = a * d * f := by rw [Nat.mul_assoc, Nat.mul_comm f d, ← Nat.mul_assoc]
      _ ≤ c * b * f := this
      _ = c * f * b := by rw [Nat.mul_assoc, Nat.mul_comm b f, ← Nat.mul_assoc]
  have k2 : c * f * b < e * b * d := by
    have := Nat.mul_lt_mul_of_pos_right h2 hb
    calc c * f * b < e * d * b := this
      _ = e * b * d := by rw [Nat.mul_assoc, Nat.mul_comm d b, ← Nat.mul_assoc]
  exact Nat.lt_of_mul_lt_mul_right (Nat.lt_of_le_of_lt k1 k2)
theorem fr_lt_le {a b c d e f : Nat} (hd : 0 < d) (h1 : a * d < c * b) (h2 : c * f ≤ e * d) (hf : 0 < f) : a * f < e * b := by
  have k1 : a * f * d < c * f * b := by
    have := Nat.mul_lt_mul_of_pos_right h1 hf
    calc a * f * d = a * d * f := by rw [Nat.mul_assoc, Nat.mul_comm f d, ← Nat.mul_assoc]
      _ < c * b * f := this
      _ = c * f * b := by rw [Nat.mul_assoc, Nat.mul_comm b f, ← Nat.mul_assoc]
  have k2 : c * f * b ≤ e * b * d := by
    have := Nat.mul_le_mul_right b h2
    calc c * f * b ≤ e * d * b := this
      _ = e * b * d := by rw [Nat.mul_assoc, Nat.mul_comm d b, ← Nat.mul_assoc]
  exact Nat.lt_of_mul_lt_mul_right (Nat.lt_of_lt_of_le k1 k2)
section SP
variable (O T : Nat → Nat)
def g_lx (k f : Nat) : Bool := decide ((T f - 1) * (O k + 1) < (T k - 1) * (O f + 1))
def g_ux (k f : Nat) : Bool := decide ((T k + 1) * (O f - 1) < (T f + 1) * (O k - 1))
def g_bar (v w : Nat) : Bool := decide ((T w + 1) * (O v + 1) < (T v - 1) * (O w - 1))
/-- k quarrels with one ahead of it -/
def g_qu (kn : Nat → Bool) (k : Nat) : Bool := anyF (fun v => kn v && (g_bar O T v k || g_bar O T k v)) k 0
def g_qc (kn : Nat → Bool) (k : Nat) : Bool := match bestF kn (g_lx O T) k, bestF kn (g_ux O T) k with
  | some f, some u => g_bar O T f k || g_bar O T k u
  | _, _ => false
theorem g_lx_ok {kn : Nat → Bool} {n f : Nat} (h : bestF kn (g_lx O T) n = some f) : f < n ∧ kn f = true ∧ ∀ v, v < n → kn v = true → g_lx O T v f = false := by
  refine bestF_some (fun a => by simp [g_lx]) (fun a b c _ _ _ h1 h2 => ?_) h
  simp only [g_lx, decide_eq_false_iff_not, decide_eq_true_eq, Nat.not_lt] at h1 h2 ⊢
  exact Nat.le_of_lt (fr_le_lt (d := O b + 1) (by omega) h1 h2 (by omega))
theorem g_ux_ok {kn : Nat → Bool} (hO : ∀ k, kn k = true → 2 ≤ O k) {n f : Nat} (h : bestF kn (g_ux O T) n = some f) : f < n ∧ kn f = true ∧ ∀ v, v < n → kn v = true → g_ux O T v f = false := by
  refine bestF_some (fun a => by simp [g_ux]) (fun a b c ha hb hc h1 h2 => ?_) h
  simp only [g_ux, decide_eq_false_iff_not, decide_eq_true_eq, Nat.not_lt] at h1 h2 ⊢
  have := hO a ha
  have := hO b hb
  have := hO c hc
  exact Nat.le_of_lt (fr_lt_le (d := O b - 1) (by omega) h2 h1 (by omega))
theorem g_q_eq {kn : Nat → Bool} (hO : ∀ k, kn k = true → 2 ≤ O k) {k : Nat} (hk : kn k = true) : g_qc O T kn k = g_qu O T kn k := by
  have hOk := hO k hk
  unfold g_qc
  cases hl : bestF kn (g_lx O T) k with
  | none =>
    have h0 := bestF_none hl
    have : g_qu O T kn k = false := by
      rw [Bool.eq_false_iff]
      intro h
      obtain ⟨j, -, h2, h3⟩ := anyF_iff.mp h
      simp only [h0 j (by omega), Bool.false_and] at h3
      cases h3
    rw [this]
  | some f =>
    obtain ⟨f1, f2, f3⟩ := g_lx_ok O T hl
    cases hu : bestF kn (g_ux O T) k with
    | none => exact absurd (bestF_none hu f f1) (by rw [f2]; decide)
    | some u =>
      obtain ⟨u1, u2, u3⟩ := g_ux_ok O T hO hu
      rw [Bool.eq_iff_iff]
      constructor
      · intro h
        simp only [Bool.or_eq_true] at h
        refine anyF_iff.mpr ?_
        rcases h with h | h
        · exact ⟨f, Nat.zero_le _, by omega, by simp only [f2, h, Bool.true_or, Bool.true_and]⟩
        · exact ⟨u, Nat.zero_le _, by omega, by simp only [u2, h, Bool.or_true, Bool.true_and]⟩
      · intro h
        obtain ⟨v, -, h2, h3⟩ := anyF_iff.mp h
        simp only [Bool.and_eq_true, Bool.or_eq_true] at h3 ⊢
        obtain ⟨h3, h4⟩ := h3
        have hOv := hO v h3
        rcases h4 with h4 | h4
        · refine Or.inl ?_
          have q := f3 v (by omega) h3
          simp only [g_lx, g_bar, decide_eq_false_iff_not, decide_eq_true_eq, Nat.not_lt] at q h4 ⊢
          exact fr_lt_le (d := O v + 1) (by omega) h4 q (by omega)
        · refine Or.inr ?_
          have q := u3 v (by omega) h3
          have := hO u u2
          simp only [g_ux, g_bar, decide_eq_false_iff_not, decide_eq_true_eq, Nat.not_lt] at q h4 ⊢
          exact fr_le_lt (d := O v - 1) (by omega) q h4 (by omega)
end SP
