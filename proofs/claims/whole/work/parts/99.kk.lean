/-! sums alike -/
/-- what waits in a sum: times, and before it + or - -/
def pnS (b : Bool) (w : Nat) : List Nat := (if b = true then [5] else []) ++ (if w = 0 then [] else [w])
def emS (b : Bool) (w : Nat) (cs : List (Nat × Nat)) : List (Nat × Nat) := if w = 0 then (if b = true then (5, 0) :: cs else cs) else (w, 0) :: (if b = true then (5, 0) :: cs else cs)
def vlS (b : Bool) (w : Nat) : Nat := (if b = true then 1 else 0) + (if w = 0 then 0 else 1)
def rpF (o : Bool) : Nat → List Bool → List Bool
  | 0, s => s
  | k + 1, s => o :: rpF o k s
theorem rpF_len {o : Bool} : ∀ {k : Nat} {s : List Bool}, (rpF o k s).length = k + s.length := by
  intro k
  induction k with
  | zero => intro s; rw [Nat.zero_add]; rfl
  | succ k ih => intro s; simp only [rpF, List.length_cons]; rw [ih]; omega
/-- kinds, with some values that wait below -/
def tyV (o : Bool) (V : Nat) (new : List (Nat × Nat)) (c c' : Nat) : Prop := (∀ seg s, tyL seg = some (rpF o V s) → V + s.length ≤ c → tyL (new ++ seg) = some (o :: s)) ∧ (∀ x, x ∈ new → okC x) ∧ c < c'
theorem tyL_c {x : Nat × Nat} {r : List (Nat × Nat)} {s s' : List Bool} (h : tyL r = some s) (e : tyStep x.1 s = some s') : tyL (x :: r) = some s' := by
  simp only [tyL]
  rw [h]
  exact e
section KM
variable {B : Nat} {h h' : mm_H} {t : Nat → Int32} {n m i c N : Nat} {s : List Nat} {cs : List (Nat × Nat)}
theorem sumS_t (h : tp s ≠ 3 ∧ tp s ≠ 4 ∧ tp s ≠ 5) {b : Bool} : sumS b s cs = (s, cs) := by
  cases s with
  | nil => rfl
  | cons k r =>
    have hk : k ≠ 3 ∧ k ≠ 4 ∧ k ≠ 5 := h
    simp only [sumS]
    rw [if_neg (by omega)]
theorem sumS_f (h : tp s ≠ 3 ∧ tp s ≠ 4 ∧ tp s ≠ 5) {b : Bool} {w : Nat} (hw : w = 0 ∨ w = 3 ∨ w = 4) : sumS false (pnS b w ++ s) cs = (s, emS b w cs) ∧ sumS true (pnS b w ++ s) cs = (pnS false w ++ s, if b = true then (5, 0) :: cs else cs) := by
  rcases hw with rfl | rfl | rfl <;> cases b <;> simp [pnS, emS, sumS, sumS_t h]
theorem pnS_dc {b : Bool} {w : Nat} (hw : w = 0 ∨ w = 3 ∨ w = 4) : dc (pnS b w ++ s) = dc s := by
  rcases hw with rfl | rfl | rfl <;> cases b <;> simp [pnS, dc]
theorem pnS_len {b : Bool} {w : Nat} (hw : w = 0 ∨ w = 3 ∨ w = 4) : (pnS b w ++ s).length = vlS b w + s.length ∧ (emS b w cs).length = vlS b w + cs.length := by
  rcases hw with rfl | rfl | rfl <;> cases b <;> simp [pnS, emS, vlS] <;> omega
theorem emS_app {b : Bool} {w : Nat} {new : List (Nat × Nat)} (hw : w = 0 ∨ w = 3 ∨ w = 4) : emS b w (new ++ cs) = emS b w new ++ cs := by
  rcases hw with rfl | rfl | rfl <;> cases b <;> rfl
theorem emS_ty {b : Bool} {w : Nat} {X : List (Nat × Nat)} {τ : List Bool} (hw : w = 0 ∨ w = 3 ∨ w = 4) (h : tyL X = some (false :: rpF false (vlS b w) τ)) : tyL (emS b w X) = some (false :: τ) ∧ tyL (if b = true then (5, 0) :: X else X) = some (false :: rpF false (if w = 0 then 0 else 1) τ) := by
  have t5 : ∀ q, tyStep 5 (false :: false :: q) = some (false :: q) := fun q => rfl
  have t3 : ∀ q, tyStep 3 (false :: false :: q) = some (false :: q) := fun q => rfl
  have t4 : ∀ q, tyStep 4 (false :: false :: q) = some (false :: q) := fun q => rfl
  rcases hw with rfl | rfl | rfl <;> cases b
  · exact ⟨h, h⟩
  · exact ⟨tyL_c h (t5 _), tyL_c h (t5 _)⟩
  · exact ⟨tyL_c h (t3 _), h⟩
  · exact ⟨tyL_c (tyL_c h (t5 _)) (t3 _), tyL_c h (t5 _)⟩
  · exact ⟨tyL_c h (t4 _), h⟩
  · exact ⟨tyL_c (tyL_c h (t5 _)) (t4 _), tyL_c h (t5 _)⟩
theorem emS_ok {b : Bool} {w : Nat} {X : List (Nat × Nat)} (hw : w = 0 ∨ w = 3 ∨ w = 4) (h : ∀ x, x ∈ X → okC x) : (∀ x, x ∈ emS b w X → okC x) ∧ ∀ x, x ∈ (if b = true then (5, 0) :: X else X) → okC x := by
  have o : ∀ k, 2 ≤ k → k ≤ 14 → okC (k, 0) := fun k h1 h2 => ⟨fun z => by have : k = 0 := z; omega, fun z => by have : k = 1 := z; omega, h2⟩
  have c1 : ∀ {Y : List (Nat × Nat)} {k}, (∀ x, x ∈ Y → okC x) → 2 ≤ k → k ≤ 14 → ∀ x, x ∈ (k, 0) :: Y → okC x := fun hY h1 h2 x hx => by
    rcases List.mem_cons.mp hx with z | z
    · rw [z]; exact o _ h1 h2
    · exact hY x z
  rcases hw with rfl | rfl | rfl <;> cases b
  · exact ⟨h, h⟩
  · exact ⟨c1 h (by omega) (by omega), c1 h (by omega) (by omega)⟩
  · exact ⟨c1 h (by omega) (by omega), h⟩
  · exact ⟨c1 (c1 h (by omega) (by omega)) (by omega) (by omega), c1 h (by omega) (by omega)⟩
  · exact ⟨c1 h (by omega) (by omega), h⟩
  · exact ⟨c1 (c1 h (by omega) (by omega)) (by omega) (by omega), c1 h (by omega) (by omega)⟩
def wcI (w : Nat) : Int32 := if w = 0 then -1 else nI (w + 24)
/-- the class's loop over a sum's values, with what waits -/
theorem J_sum_L (hV : PV B t n m N) (hN : ∀ d, d ≤ 10 → 2 * (11 - d) + 1 ≤ N + 1 → 2 * (11 - d) ≤ N) {rc1 : Nat → Int32 → mm_H → Option (Int32 × mm_H)} (K : mm_H → Option (Int32 × mm_H)) {s : List Nat} (hs : tp s ≠ 3 ∧ tp s ≠ 4 ∧ tp s ≠ 5) (hd : dc s ≤ 10) (hNd : 2 * (11 - dc s) ≤ N) : ∀ (e : Nat) (h : mm_H) (i c : Nat) (cs : List (Nat × Nat)) (b : Bool) (w u fuel : Nat), m - i ≤ e → e < fuel → xS B h t n m i c cs → c ≤ 80 → (w = 0 ∨ w = 3 ∨ w = 4) → u ≤ i → (pnS b w ++ s).length + cs.length ≤ i → (∃ h' i' c' new k, fX5_readSum_L7 (fgG1 N).1 rc1 (B + 5) (nI (dc s)) K fuel (wcI w) (if b = true then 1 else 0) (nI u) h = some (1, h') ∧ mX B (wPx B) h h' ∧ xS B h' t n m i' c' (new ++ cs) ∧ i < i' ∧ c' ≤ 80 ∧ tyV false (vlS b w) new c c' ∧ s.length + (new ++ cs).length ≤ i' ∧ k ≤ 3 * (i' - i) ∧ ∃ s1 cs1, (∀ f, rRun t n (f + k) (1, i, c, pnS b w ++ s, cs, 0) = rRun t n f (2, i', c', s1, cs1, 0)) ∧ sumS false s1 cs1 = (s, new ++ cs) ∧ (tkF t n (plF t n i') ≠ 27 ∧ tkF t n (plF t n i') ≠ 28 ∧ tkF t n (plF t n i') ≠ 29)) ∨ flR B t n m (fX5_readSum_L7 (fgG1 N).1 rc1 (B + 5) (nI (dc s)) K fuel (wcI w) (if b = true then 1 else 0) (nI u) h) h i c (pnS b w ++ s) cs 1 := by
  intro e
  induction e with
  | zero =>
    intro h i c cs b w u fuel he hf X hc hw hu hb
    exact absurd rfl (fun _ : True = True => by
      sorry)
  | succ e ih =>
    intro h i c cs b w u fuel he hf X hc hw hu hb
    sorry
end KM
