/-! the books joined: two ways to weigh pairs, coins and days in one number -/
def Jr (r X Y : Nat) : Prop := ∃ k C D, k ≤ r ∧ C ≤ 1000 * k ∧ D ≤ 1000 * k ∧ X + 10001 * C + D = 100020001 * k ∧ Y + 100000 * C + D = 10000000000 * k
theorem Jr.zero {r : Nat} : Jr r 0 0 := ⟨0, 0, 0, Nat.zero_le _, Nat.le_refl _, Nat.le_refl _, rfl, rfl⟩
theorem Jr.mono {r r' X Y : Nat} (h : Jr r X Y) (e : r ≤ r') : Jr r' X Y := by
  obtain ⟨k, C, D, a1, a2, a3, a4, a5⟩ := h
  exact ⟨k, C, D, by omega, a2, a3, a4, a5⟩
theorem Jr.lt {r r' X Y X' Y' : Nat} (h : Jr r X Y) (h' : Jr r' X' Y') (hr : r ≤ 10) (hr' : r' ≤ 10) : (X < X' ↔ Y < Y') := by
  obtain ⟨k, C, D, a1, a2, a3, a4, a5⟩ := h
  obtain ⟨k', C', D', b1, b2, b3, b4, b5⟩ := h'
  rcases Nat.lt_trichotomy k k' with z | z | z
  · constructor <;> intro _ <;> omega
  · subst z
    rcases Nat.lt_trichotomy C C' with y | y | y
    · constructor <;> intro _ <;> omega
    · subst y
      constructor <;> intro _ <;> omega
    · constructor <;> intro _ <;> omega
  · constructor <;> intro _ <;> omega
theorem Jr.eq {r r' X Y X' Y' : Nat} (h : Jr r X Y) (h' : Jr r' X' Y') (hr : r ≤ 10) (hr' : r' ≤ 10) : (X = X' ↔ Y = Y') := by
  have h1 := h.lt h' hr hr'
  have h2 := h'.lt h hr' hr
  omega
theorem Jr.max {r X Y X' Y' : Nat} (h : Jr r X Y) (h' : Jr r X' Y') (hr : r ≤ 10) : Jr r (Nat.max X X') (Nat.max Y Y') := by
  have h1 := h.lt h' hr hr
  have m1 : Nat.max X X' = if X < X' then X' else X := by
    show Max.max X X' = _
    rw [Nat.max_def]; split <;> split <;> omega
  have m2 : Nat.max Y Y' = if Y < Y' then Y' else Y := by
    show Max.max Y Y' = _
    rw [Nat.max_def]; split <;> split <;> omega
  rw [m1, m2]
  by_cases c : X < X'
  · rw [if_pos c, if_pos (h1.mp c)]; exact h'
  · rw [if_neg c, if_neg (fun z => c (h1.mpr z))]; exact h
theorem Jr.le {r X Y : Nat} (h : Jr r X Y) (hr : r ≤ 10) : X ≤ 1000200010 ∧ Y ≤ 100000000000 := by
  obtain ⟨k, C, D, a1, a2, a3, a4, a5⟩ := h
  omega
/-- the weights of one pair -/
def Jw (a b : Nat) : Prop := (a = 0 ∧ b = 0) ∨ ∃ c d, c ≤ 1000 ∧ d ≤ 1000 ∧ a + 10001 * c + d = 100020001 ∧ b + 100000 * c + d = 10000000000
theorem Jw.pos {a b : Nat} (h : Jw a b) : 0 < a ↔ 0 < b := by
  rcases h with ⟨h1, h2⟩ | ⟨c, d, h1, h2, h3, h4⟩ <;> omega
theorem Jw.le {a b : Nat} (h : Jw a b) : a ≤ 100020001 ∧ b ≤ 10000000000 := by
  rcases h with ⟨h1, h2⟩ | ⟨c, d, h1, h2, h3, h4⟩ <;> omega
theorem Jw.add {a b r X Y : Nat} (h : Jw a b) (ha : 0 < a) (g : Jr r X Y) : Jr (r + 1) (a + X) (b + Y) := by
  obtain ⟨k, C, D, a1, a2, a3, a4, a5⟩ := g
  rcases h with ⟨h1, h2⟩ | ⟨c, d, h1, h2, h3, h4⟩
  · omega
  · exact ⟨k + 1, C + c, D + d, by omega, by omega, by omega, by omega, by omega⟩
/-- the best of an entry of ours with the pairs behind it: F is the row behind -/
def jF (w F : Nat → Nat) (s : Nat) : Nat → Nat → Nat → Nat
  | 0, _, v => v
  | e + 1, j, v => jF w F s e (j + 1) (if 0 < w j ∧ s.testBit j = false then Nat.max v (w j + F (s ||| 2 ^ j)) else v)
def jR (w : Nat → Nat → Nat) (n m : Nat) : Nat → Nat → Nat
  | 0, _ => 0
  | r + 1, s => jF (w (n - (r + 1))) (jR w n m r) s m 0 (jR w n m r s)
theorem jF_rel {w w' F F' : Nat → Nat} {r s m : Nat} (hr : r + 1 ≤ 10) (hF : ∀ s, Jr r (F s) (F' s)) (hw : ∀ j, j < m → Jw (w j) (w' j)) : ∀ (e j v v' : Nat), j + e ≤ m → Jr (r + 1) v v' → Jr (r + 1) (jF w F s e j v) (jF w' F' s e j v') := by
  intro e
  induction e with
  | zero => intro j v v' _ h; exact h
  | succ e ih =>
    intro j v v' hj h
    refine ih (j + 1) _ _ (by omega) ?_
    have hp := (hw j (by omega)).pos
    by_cases c : 0 < w j ∧ s.testBit j = false
    · rw [if_pos c, if_pos ⟨hp.mp c.1, c.2⟩]
      exact h.max ((hw j (by omega)).add c.1 (hF _)) hr
    · rw [if_neg c, if_neg (fun z => c ⟨hp.mpr z.1, z.2⟩)]; exact h
theorem jR_rel {w w' : Nat → Nat → Nat} {n m : Nat} (hw : ∀ i j, i < n → j < m → Jw (w i j) (w' i j)) (hn : n ≤ 10) : ∀ r s, r ≤ n → Jr r (jR w n m r s) (jR w' n m r s) := by
  intro r
  induction r with
  | zero => intro s _; exact Jr.zero
  | succ r ih =>
    intro s hr
    refine jF_rel (m := m) (by omega) (fun s => ih s (by omega)) (fun j hj => hw _ j (by omega) hj) m 0 _ _ (by omega) ((ih s (by omega)).mono (by omega))
/-- may entry i of ours go with j of home's -/
def jP (w : Nat → Nat → Nat) (n m i s j : Nat) : Bool := decide (0 < w i j) && (!s.testBit j && decide (w i j + jR w n m (n - (i + 1)) (s ||| 2 ^ j) = jR w n m (n - i) s))
theorem jP_rel {w w' : Nat → Nat → Nat} {n m i s j : Nat} (hw : ∀ i j, i < n → j < m → Jw (w i j) (w' i j)) (hn : n ≤ 10) (hi : i < n) (hj : j < m) : jP w n m i s j = jP w' n m i s j := by
  have h0 := hw i j hi hj
  unfold jP
  by_cases c : 0 < w i j
  · have c' := h0.pos.mp c
    have a1 := h0.add c (jR_rel hw hn (n - (i + 1)) (s ||| 2 ^ j) (by omega))
    have a2 := jR_rel hw hn (n - i) s (by omega)
    have := a1.eq a2 (by omega) (by omega)
    rw [decide_eq_true c, decide_eq_true c', decide_eq_decide.mpr this]
  · have c' := fun z => c (h0.pos.mpr z)
    rw [decide_eq_false c, decide_eq_false c']
    rfl
/-- bits of a set of at most ten -/
theorem jb_bit : ∀ s, s < 1024 → ∀ j, j < 10 → (nI s >>> (nI j &&& 31)) &&& 1 = if s.testBit j = true then 1 else 0 := by decide +kernel
theorem jb_or : ∀ s, s < 1024 → ∀ j, j < 10 → nI s ||| ((1 : Int32) <<< (nI j &&& 31)) = nI (s ||| 2 ^ j) := by decide +kernel
def pcN (s : Nat) : Nat := (bcF (nI s)).toNatClampNeg
theorem pcN_ok : ∀ s, s < 1024 → bcF (nI s) = nI (pcN s) ∧ pcN s ≤ 10 := by decide +kernel
theorem pcN_or : ∀ s, s < 1024 → ∀ j, j < 10 → s.testBit j = false → pcN (s ||| 2 ^ j) = pcN s + 1 := by decide +kernel
theorem pcN_0 : pcN 0 = 0 := by decide +kernel
theorem jb_p : ∀ p, p ≤ 10 → (1 : Int32) <<< (nI p &&& 31) = nI (2 ^ p) := by decide +kernel
theorem jb_sh : ∀ i, i ≤ 10 → nI i <<< ((10 : Int32) &&& 31) = nI (i * 1024) := by decide +kernel
theorem p_1024 : ∀ p, p ≤ 10 → 2 ^ p ≤ 1024 := by decide
theorem or_lt {s m j : Nat} (hs : s < 2 ^ m) (hj : j < m) : s ||| 2 ^ j < 2 ^ m := Nat.or_lt_two_pow hs (Nat.pow_lt_pow_right (by decide) hj)
/-- how far apart -/
def dst (a b : Nat) : Nat := if b ≤ a then a - b else b - a
theorem q_abs {a b : Nat} (ha : a < 2 ^ 30) (hb : b < 2 ^ 30) : (if 0 ≤ nI a - nI b then nI a - nI b else 0 - (nI a - nI b)) = nI (dst a b) := by
  unfold dst
  by_cases c : b ≤ a
  · rw [if_pos c, nI_sub c, if_pos (nI_pos' (by omega))]
  · have e : nI a - nI b = 0 - nI (b - a) := by
      rw [← nI_sub (show a ≤ b by omega), Int32.zero_sub, Int32.neg_sub]
    have ne : ¬ (0 : Int32) ≤ nI a - nI b := by
      rw [e, Int32.zero_sub]
      have t : (- nI (b - a)).toInt = - ((b - a : Nat) : Int) := by
        rw [Int32.toInt_neg, nI_toInt (by omega)]
        have : ((b - a : Nat) : Int) < 2 ^ 30 := by omega
        rw [Int.bmod_eq_of_le] <;> omega
      rw [Int32.le_iff_toInt_le, t]
      have : (0 : Int32).toInt = 0 := by decide
      omega
    rw [if_neg c, if_neg ne, e, Int32.zero_sub, Int32.zero_sub, Int32.neg_neg]
theorem q_off {a b : Nat} (ha : a < 2 ^ 30) (hb : b < 2 ^ 30) (h : mm_H) : fX12_off (nI a) (nI b) h = some (nI (dst a b), h) := by
  unfold fX12_off dst
  by_cases c : a ≤ b
  · rw [if_pos (nI_le c (by omega)), nI_sub c]
    by_cases c2 : b ≤ a
    · rw [if_pos c2, show a - b = b - a by omega]
    · rw [if_neg c2]
  · rw [if_neg (nI_ge (by omega) (by omega)), nI_sub (by omega), if_pos (by omega)]
theorem lN_leB {a b : Nat} (ha : a < 2 ^ 62) (hb : b < 2 ^ 62) : (lg_cmp (lN a) (lN b) ≤ 0) = (a ≤ b) := propext ((lg_cmp_le _ _).trans (lN_le2 ha hb))
theorem lN_eqB {a b : Nat} (ha : a < 2 ^ 62) (hb : b < 2 ^ 62) : (lg_cmp (lN a) (lN b) = 0) = (a = b) := by
  refine propext ((lg_cmp_eq _ _).trans ⟨fun z => ?_, fun z => by rw [z]⟩)
  have h1 := (lN_le2 ha hb).mp (by rw [z]; exact Int64.le_refl _)
  have h2 := (lN_le2 hb ha).mp (by rw [z]; exact Int64.le_refl _)
  omega
