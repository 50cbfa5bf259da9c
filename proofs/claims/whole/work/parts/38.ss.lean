/-! spans, on: the heap that the reference leaves -/
def spH (h : mm_H) (B : Nat) (a b c d : Int64) (e f : Int32) : mm_H := mm_setI (mm_setI (mm_setJ (mm_setJ (mm_setJ (mm_setJ h (B + 66) 67 a) (B + 66) 68 b) (B + 66) 69 c) (B + 66) 70 d) (B + 66) 71 e) (B + 66) 72 f
def wSp (B : Nat) : Nat → Nat → Prop := fun a k => a = B + 66 ∧ (k = 67 ∨ k = 68 ∨ k = 69 ∨ k = 70 ∨ k = 71 ∨ k = 72)
section SH
variable {h : mm_H} {B : Nat} {a b c d : Int64} {e f : Int32} (v : Int64) (w : Int32)
theorem u2_tac {α : Type} {f : Nat → Nat → α} {A k : Nat} {v : α} (x y : Nat) : mm_u2 f A k v x y = if x = A ∧ y = k then v else f x y := rfl
theorem spH_67 : mm_setJ (spH h B a b c d e f) (B + 66) 67 v = spH h B v b c d e f := by
  unfold spH mm_setI mm_setJ
  refine Prod.ext rfl (Prod.ext rfl (Prod.ext rfl (Prod.ext ?_ rfl)))
  funext x y
  simp only [u2_tac]
  by_cases h0 : x = B + 66 <;> by_cases h1 : y = 67 <;> by_cases h2 : y = 68 <;> by_cases h3 : y = 69 <;> by_cases h4 : y = 70 <;> simp [h0, h1, h2, h3, h4]
theorem spH_68 : mm_setJ (spH h B a b c d e f) (B + 66) 68 v = spH h B a v c d e f := by
  unfold spH mm_setI mm_setJ
  refine Prod.ext rfl (Prod.ext rfl (Prod.ext rfl (Prod.ext ?_ rfl)))
  funext x y
  simp only [u2_tac]
  by_cases h0 : x = B + 66 <;> by_cases h1 : y = 67 <;> by_cases h2 : y = 68 <;> by_cases h3 : y = 69 <;> by_cases h4 : y = 70 <;> simp [h0, h1, h2, h3, h4]
theorem spH_69 : mm_setJ (spH h B a b c d e f) (B + 66) 69 v = spH h B a b v d e f := by
  unfold spH mm_setI mm_setJ
  refine Prod.ext rfl (Prod.ext rfl (Prod.ext rfl (Prod.ext ?_ rfl)))
  funext x y
  simp only [u2_tac]
  by_cases h0 : x = B + 66 <;> by_cases h1 : y = 67 <;> by_cases h2 : y = 68 <;> by_cases h3 : y = 69 <;> by_cases h4 : y = 70 <;> simp [h0, h1, h2, h3, h4]
theorem spH_70 : mm_setJ (spH h B a b c d e f) (B + 66) 70 v = spH h B a b c v e f := by
  unfold spH mm_setI mm_setJ
  refine Prod.ext rfl (Prod.ext rfl (Prod.ext rfl (Prod.ext ?_ rfl)))
  funext x y
  simp only [u2_tac]
  by_cases h0 : x = B + 66 <;> by_cases h1 : y = 67 <;> by_cases h2 : y = 68 <;> by_cases h3 : y = 69 <;> by_cases h4 : y = 70 <;> simp [h0, h1, h2, h3, h4]
theorem spH_71 : mm_setI (spH h B a b c d e f) (B + 66) 71 w = spH h B a b c d w f := by
  unfold spH mm_setI mm_setJ
  refine Prod.ext rfl (Prod.ext rfl (Prod.ext ?_ rfl))
  funext x y
  simp only [u2_tac]
  by_cases h0 : x = B + 66 <;> by_cases h1 : y = 71 <;> by_cases h2 : y = 72 <;> simp [h0, h1, h2]
theorem spH_72 : mm_setI (spH h B a b c d e f) (B + 66) 72 w = spH h B a b c d e w := by
  unfold spH mm_setI mm_setJ
  refine Prod.ext rfl (Prod.ext rfl (Prod.ext ?_ rfl))
  funext x y
  simp only [u2_tac]
  by_cases h0 : x = B + 66 <;> by_cases h1 : y = 71 <;> by_cases h2 : y = 72 <;> simp [h0, h1, h2]
theorem spH_kd : mm_kd (spH h B a b c d e f) = mm_kd h := rfl
theorem spH_r : mm_r (spH h B a b c d e f) = mm_r h := rfl
theorem spH_n : mm_n (spH h B a b c d e f) = mm_n h := rfl
theorem spH_S : mS B (spH h B a b c d e f) = mS B h := rfl
theorem spH_c {k : Nat} (hk : k ≠ 66) : mm_i (spH h B a b c d e f) (B + k) = mm_i h (B + k) := by
  funext y
  simp [spH, i_I, i_J, hk]
theorem spH_i {k : Nat} (h1 : k ≠ 71) (h2 : k ≠ 72) : mm_i (spH h B a b c d e f) (B + 66) k = mm_i h (B + 66) k := by
  simp [spH, i_I, i_J, h1, h2]
theorem spH_i71 : mm_i (spH h B a b c d e f) (B + 66) 71 = e := by simp [spH, i_I, i_J]
theorem spH_i72 : mm_i (spH h B a b c d e f) (B + 66) 72 = f := by simp [spH, i_I, i_J]
theorem spH_j67 : mm_j (spH h B a b c d e f) (B + 66) 67 = a := by simp [spH, j_I, j_J]
theorem spH_j68 : mm_j (spH h B a b c d e f) (B + 66) 68 = b := by simp [spH, j_I, j_J]
theorem spH_j69 : mm_j (spH h B a b c d e f) (B + 66) 69 = c := by simp [spH, j_I, j_J]
theorem spH_j70 : mm_j (spH h B a b c d e f) (B + 66) 70 = d := by simp [spH, j_I, j_J]
theorem spH_i61 : mm_i (spH h B a b c d e f) (B + 66) 61 = mm_i h (B + 66) 61 := spH_i (by decide) (by decide)
theorem spH_c17 : mm_i (spH h B a b c d e f) (B + 17) = mm_i h (B + 17) := spH_c (by decide)
theorem spH_c19 : mm_i (spH h B a b c d e f) (B + 19) = mm_i h (B + 19) := spH_c (by decide)
theorem spH_c20 : mm_i (spH h B a b c d e f) (B + 20) = mm_i h (B + 20) := spH_c (by decide)
theorem spH_c111 : mm_i (spH h B a b c d e f) (B + 111) = mm_i h (B + 111) := spH_c (by decide)
theorem spH_c112 : mm_i (spH h B a b c d e f) (B + 112) = mm_i h (B + 112) := spH_c (by decide)
theorem spH_c113 : mm_i (spH h B a b c d e f) (B + 113) = mm_i h (B + 113) := spH_c (by decide)
theorem spH_c114 : mm_i (spH h B a b c d e f) (B + 114) = mm_i h (B + 114) := spH_c (by decide)
theorem spH_c115 : mm_i (spH h B a b c d e f) (B + 115) = mm_i h (B + 115) := spH_c (by decide)
theorem spH_O : wO (spH h B a b c d e f) B = wO h B := by funext k; unfold wO; rw [spH_c19]
theorem spH_T : wT (spH h B a b c d e f) B = wT h B := by funext k; unfold wT; rw [spH_c20]
theorem spH_yKn (t u : Int32) : yKn (spH h B a b c d e f) B t u = yKn h B t u := by funext k; unfold yKn; rw [spH_c111, spH_c114, spH_c115]
theorem spH_R {n : Nat} (R : RW2 B n h) : RW2 B n (spH h B a b c d e f) := by
  unfold RW2
  rw [spH_O, spH_T, spH_c17, spH_i61, spH_c19, spH_c20, spH_c112, spH_c113]
  exact R
theorem spH_W : mW (wSp B) h (spH h B a b c d e f) := by
  unfold spH
  refine mW.I (mW.I (mW.J (mW.J (mW.J (mW.J mW.rf ?_) ?_) ?_) ?_) ?_) ?_ <;> simp [wSp]
end SH
def sA (T : Nat → Nat) : Option Nat → Int64
  | none => 0
  | some f => lN (T f - 1)
def sB (O : Nat → Nat) : Option Nat → Int64
  | none => 1
  | some f => lN (O f + 1)
def sC (T : Nat → Nat) : Option Nat → Int64
  | none => 1
  | some f => lN (T f + 1)
def sD (O : Nat → Nat) : Option Nat → Int64
  | none => 0
  | some f => lN (O f - 1)
def sE : Option (Nat × Nat) → Int32
  | none => -1
  | some p => nI p.1
def sG : Option (Nat × Nat) → Int32
  | none => -1
  | some p => nI p.2
/-- who quarrels with i, of those before it -/
def g_P (O T : Nat → Nat) (kn : Nat → Bool) (i v : Nat) : Bool := kn v && (g_bar O T v i || g_bar O T i v)
/-- the first quarrel below i -/
def qF (O T : Nat → Nat) (kn : Nat → Bool) : Nat → Option (Nat × Nat)
  | 0 => none
  | i + 1 => match qF O T kn i with
    | some p => some p
    | none => if kn i then (match firstF (g_P O T kn i) i 0 with
      | none => none
      | some v => some (v, i)) else none
theorem qF_lt {O T : Nat → Nat} {kn : Nat → Bool} : ∀ {i : Nat} {p : Nat × Nat}, qF O T kn i = some p → p.2 < i := by
  intro i
  induction i with
  | zero => intro p h; cases h
  | succ i ih =>
    intro p h
    simp only [qF] at h
    cases hq : qF O T kn i with
    | some q => rw [hq] at h; cases h; have := ih hq; omega
    | none =>
      rw [hq] at h
      simp only at h
      split at h
      · split at h
        · cases h
        · cases h; exact Nat.lt_succ_self _
      · cases h
theorem qF_stay {O T : Nat → Nat} {kn : Nat → Bool} {i : Nat} {p : Nat × Nat} (h : qF O T kn i = some p) : ∀ e, qF O T kn (i + e) = some p := by
  intro e
  induction e with
  | zero => exact h
  | succ e ih => show qF O T kn (i + e + 1) = _; simp only [qF, ih]
theorem qF_first {O T : Nat → Nat} {kn : Nat → Bool} : ∀ {e i : Nat}, qF O T kn i = none → qF O T kn (i + e) = match firstF (fun k => kn k && g_qu O T kn k) e i with
    | none => none
    | some k => match firstF (g_P O T kn k) k 0 with
      | none => none
      | some v => some (v, k) := by
  intro e
  induction e with
  | zero => intro i h; exact h
  | succ e ih =>
    intro i h
    have hs : qF O T kn (i + 1) = if kn i then (match firstF (g_P O T kn i) i 0 with
      | none => none
      | some v => some (v, i)) else none := by
      show (match qF O T kn i with
        | some p => some p
        | none => _) = _
      rw [h]
    simp only [firstF]
    have hq : g_qu O T kn i = (firstF (g_P O T kn i) i 0).isSome := anyF_first
    rcases Bool.eq_false_or_eq_true (kn i) with hk | hk
    case inr =>
      simp only [hk, Bool.false_and, Bool.false_eq_true, if_false] at hs ⊢
      rw [show i + (e + 1) = i + 1 + e by omega]
      exact ih hs
    case inl =>
      simp only [hk, if_true] at hs
      cases hf : firstF (g_P O T kn i) i 0 with
      | none =>
        rw [hf] at hs hq
        simp only [hk, hq, Option.isSome, Bool.and_false, Bool.false_eq_true, if_false]
        rw [show i + (e + 1) = i + 1 + e by omega]
        exact ih hs
      | some v =>
        rw [hf] at hs hq
        simp only [hk, hq, Option.isSome, Bool.and_self, if_true, hf]
        rw [show i + (e + 1) = i + 1 + e by omega]
        exact qF_stay hs e
section SS
variable {B : Nat} {h : mm_H} {n : Nat}
theorem y_holds2 (S : mS B h) (R : RW2 B n h) {a b c d' : Int64} {e f : Int32} {k : Nat} (hk : k < n) (t d : Int32) : fX12_holds (B + 66) (nI k) t d (spH h B a b c d' e f) = some (if yKn h B t d k then 1 else 0, spH h B a b c d' e f) := by
  rw [y_holds (h := spH h B a b c d' e f) S (spH_R R) hk t d, spH_yKn]
theorem y_bars2 (S : mS B h) (R : RW2 B n h) {a b c d' : Int64} {e f : Int32} {v w : Nat} (hv : v < n) (hw : w < n) : fX12_bars (B + 66) (nI v) (nI w) (spH h B a b c d' e f) = some (if g_bar (wO h B) (wT h B) v w then 1 else 0, spH h B a b c d' e f) := by
  rw [y_bars (h := spH h B a b c d' e f) S (spH_R R) hv hw, spH_O, spH_T]
theorem y_spans_L179 (S : mS B h) (R : RW2 B n h) {a b c d' : Int64} (t d o : Int32) {m : Nat} (hm : m < n) (K : mm_H → Option (Unit × mm_H)) : ∀ (cnt i fuel : Nat) (e f : Int32), i + cnt = m → cnt < fuel → fX12_spans_L179 (B + 66) t d o (nI m) K fuel (nI i) (spH h B a b c d' e f) = K (if f = -1 then (match firstF (g_P (wO h B) (wT h B) (yKn h B t d) m) cnt i with
    | none => spH h B a b c d' e f
    | some v => spH h B a b c d' (nI v) (nI m)) else spH h B a b c d' e f) := by
  have hn2 := R.1
  intro cnt
  induction cnt with
  | zero =>
    intro i fuel e f hi hf
    obtain ⟨g, rfl⟩ : ∃ g, fuel = g + 1 := ⟨fuel - 1, by omega⟩
    show fX12_spans_L179_b _ _ _ _ _ _ _ _ _ = _
    unfold fX12_spans_L179_b
    rw [if_pos (by rw [show i = m by omega]; exact Int32.le_refl _)]
    simp only [firstF, ite_self]
  | succ cnt ih =>
    intro i fuel e f hi hf
    obtain ⟨g, rfl⟩ : ∃ g, fuel = g + 1 := ⟨fuel - 1, by omega⟩
    show fX12_spans_L179_b _ _ _ _ _ _ _ _ _ = _
    unfold fX12_spans_L179_b
    rw [if_neg (nI_ge (by omega) (by omega))]
    simp only [q_rf, q_lt, q_cl, q_jn, q_b, q_b1, q_ck, kd_I, kd_J, kd_R, n_I, n_J, n_R, r_I, r_J, c_I, c_J, c_R, i_J, i_R, j_I, j_R, y_in, y_isDay, x_within, x_isDay, x_isTown, sb_yweigh S, spH_kd, spH_i72, spH_71, spH_72, nI_1, y_holds2 S R (show i < n by omega), y_bars2 S R (show i < n by omega) hm, y_bars2 S R hm (show i < n by omega), ih (i + 1) g _ _ (by omega) (by omega), firstF, g_P]
    by_cases h0 : f = -1
    · have h1 := oI_ne (show m < 2 ^ 31 by omega)
      rcases Bool.eq_false_or_eq_true (yKn h B t d i) with hk | hk <;> rcases Bool.eq_false_or_eq_true (g_bar (wO h B) (wT h B) i m) with h2 | h2 <;> rcases Bool.eq_false_or_eq_true (g_bar (wO h B) (wT h B) m i) with h3 | h3 <;> simp [h0, h1, hk, h2, h3]
    · simp [h0]
/-- the heap after i weighings -/
def stF (h : mm_H) (B : Nat) (t d : Int32) (i : Nat) : mm_H := spH h B (sA (wT h B) (bestF (yKn h B t d) (g_lx (wO h B) (wT h B)) i)) (sB (wO h B) (bestF (yKn h B t d) (g_lx (wO h B) (wT h B)) i)) (sC (wT h B) (bestF (yKn h B t d) (g_ux (wO h B) (wT h B)) i)) (sD (wO h B) (bestF (yKn h B t d) (g_ux (wO h B) (wT h B)) i)) (sE (qF (wO h B) (wT h B) (yKn h B t d) i)) (sG (qF (wO h B) (wT h B) (yKn h B t d) i))
theorem y_spans_L35 (S : mS B h) (R : RW2 B n h) (t d : Int32) (K : mm_H → Option (Unit × mm_H)) : ∀ (e i fuel : Nat), i + e = n → e < fuel → fX12_spans_L35 (B + 66) t d K fuel (if (bestF (yKn h B t d) (g_lx (wO h B) (wT h B)) i).isSome then 1 else 0) (nI i) (stF h B t d i) = K (stF h B t d n) := by
  have hn2 := R.1
  have hn := R.2.2.1
  intro e
  induction e with
  | zero =>
    intro i fuel hi hf
    obtain ⟨g, rfl⟩ : ∃ g, fuel = g + 1 := ⟨fuel - 1, by omega⟩
    show fX12_spans_L35_b _ _ _ _ _ _ _ _ = _
    unfold fX12_spans_L35_b stF
    simp only [q_rf, q_lt, q_cl, q_jn, q_b, q_b1, q_ck, kd_I, kd_J, kd_R, n_I, n_J, n_R, r_I, r_J, c_I, c_J, c_R, i_J, i_R, j_I, j_R, y_in, y_isDay, x_within, x_isDay, x_isTown, sb_yweigh S, spH_kd, spH_i61, hn]
    rw [if_pos (by rw [show i = n by omega]; exact Int32.le_refl _), show i = n by omega]
  | succ e ih =>
    intro i fuel hi hf
    obtain ⟨g, rfl⟩ : ∃ g, fuel = g + 1 := ⟨fuel - 1, by omega⟩
    show fX12_spans_L35_b _ _ _ _ _ _ _ _ = _
    unfold fX12_spans_L35_b
    have ih' := ih (i + 1) g (by omega) (by omega)
    have hx := fun (β : Type) (z : Option β) => q_ckx (show i < 100 by omega) (by decide) z
    have hc := nI_clamp (n := i) (by omega)
    have hF : ∀ x : mm_H, x = stF h B t d (i + 1) → fX12_spans_L35 (B + 66) t d K g (if (bestF (yKn h B t d) (g_lx (wO h B) (wT h B)) (i + 1)).isSome then 1 else 0) (nI (i + 1)) x = K (stF h B t d n) := fun x hx => hx ▸ ih'
    obtain ⟨⟨-, o1, a1, a2⟩, -, t1, a3, a4⟩ := R.2.2.2 i (by omega)
    obtain ⟨p, hp⟩ : ∃ m, wT h B i = m + 1 := ⟨wT h B i - 1, by omega⟩
    obtain ⟨q, hq⟩ : ∃ m, wO h B i = m + 1 := ⟨wO h B i - 1, by omega⟩
    unfold stF
    simp only [q_rf, q_lt, q_cl, q_jn, q_b, q_b1, q_ck, kd_I, kd_J, kd_R, n_I, n_J, n_R, r_I, r_J, c_I, c_J, c_R, i_J, i_R, j_I, j_R, y_in, y_isDay, x_within, x_isDay, x_isTown, sb_yweigh S, spH_kd, spH_r, spH_n, spH_i61, hn, hx, hc, spH_c112, spH_c113, o1, t1, nI_1, y_holds2 S R (show i < n by omega), spH_67, spH_68, spH_69, spH_70, spH_j67, spH_j68, spH_j69, spH_j70]
    rw [if_neg (nI_ge (by omega) (by omega))]
    have hz : sG (qF (wO h B) (wT h B) (yKn h B t d) i) = -1 ↔ qF (wO h B) (wT h B) (yKn h B t d) i = none := by
      cases hqf : qF (wO h B) (wT h B) (yKn h B t d) i with
      | none => simp [sG]
      | some p => have := qF_lt hqf; simp [sG, oI_ne (show p.2 < 2 ^ 31 by omega)]
    simp only [bestF] at hF
    simp only [hp, hq, nI_pred, nI_l (show p < 2 ^ 31 by omega), nI_l (show q < 2 ^ 31 by omega), nI_l (show p + 1 + 1 < 2 ^ 31 by omega), nI_l (show q + 1 + 1 < 2 ^ 31 by omega)]
    cases hk : yKn h B t d i with
    | false =>
      simp only [hk, Bool.false_and, Bool.false_eq_true, if_false, q_10, not_true, not_false_iff, if_true] at hF ⊢
      refine hF _ ?_
      unfold stF
      simp only [bestF, hk, Bool.false_and, Bool.false_eq_true, if_false, qF]
      cases qF (wO h B) (wT h B) (yKn h B t d) i <;> rfl
    | true =>
      simp only [hk, if_true, q_10, not_true, not_false_iff, if_false]
      have hq2 : ∀ (a b c d' : Int64), (if sG (qF (wO h B) (wT h B) (yKn h B t d) i) = -1 then (match firstF (g_P (wO h B) (wT h B) (yKn h B t d) i) i 0 with
          | none => spH h B a b c d' (sE (qF (wO h B) (wT h B) (yKn h B t d) i)) (sG (qF (wO h B) (wT h B) (yKn h B t d) i))
          | some v => spH h B a b c d' (nI v) (nI i)) else spH h B a b c d' (sE (qF (wO h B) (wT h B) (yKn h B t d) i)) (sG (qF (wO h B) (wT h B) (yKn h B t d) i))) = spH h B a b c d' (sE (qF (wO h B) (wT h B) (yKn h B t d) (i + 1))) (sG (qF (wO h B) (wT h B) (yKn h B t d) (i + 1))) := by
        intro a b c d'
        simp only [hz, qF, hk, if_true]
        cases qF (wO h B) (wT h B) (yKn h B t d) i with
        | some p => simp
        | none => cases firstF (g_P (wO h B) (wT h B) (yKn h B t d) i) i 0 <;> simp [sE, sG]
      have hL := fun (a b c d' : Int64) (o : Int32) (K2 : mm_H → Option (Unit × mm_H)) => y_spans_L179 (a := a) (b := b) (c := c) (d' := d') S R t d o (show i < n by omega) K2 i 0 mm_F (sE (qF (wO h B) (wT h B) (yKn h B t d) i)) (sG (qF (wO h B) (wT h B) (yKn h B t d) i)) (by omega) (by unfold mm_F; omega)
      simp only [hq2, nI_0] at hL
      simp only [hL]
      cases hb : bestF (yKn h B t d) (g_lx (wO h B) (wT h B)) i with
      | none =>
        cases hu : bestF (yKn h B t d) (g_ux (wO h B) (wT h B)) i with
        | some u => exact absurd (bestF_none hb u (bestF_lt hu)) (by rw [bestF_kn hu]; decide)
        | none =>
          simp only [hk, hb, btN, Bool.and_self, Bool.and_true, if_true, Option.isSome, Bool.false_eq_true, if_false, not_true, q_10, not_false_iff] at hF ⊢
          refine hF _ ?_
          unfold stF
          simp only [bestF, btN, hk, hb, hu, Bool.and_self, Bool.and_true, if_true, sA, sB, sC, sD, hp, hq, Nat.add_sub_cancel]
      | some v =>
        have hv := bestF_lt hb
        cases hu : bestF (yKn h B t d) (g_ux (wO h B) (wT h B)) i with
        | none => exact absurd (bestF_none hu v hv) (by rw [bestF_kn hb]; decide)
        | some u =>
          have hu2 := bestF_lt hu
          obtain ⟨⟨-, -, b1, b2⟩, -, -, b3, b4⟩ := R.2.2.2 v (by omega)
          obtain ⟨⟨-, -, c1, c2⟩, -, -, c3, c4⟩ := R.2.2.2 u (by omega)
          have e1 : (lg_cmp (lN p * sB (wO h B) (some v)) (sA (wT h B) (some v) * lN (q + 1 + 1)) ≤ 0) = (¬ g_lx (wO h B) (wT h B) i v = true) := by
            simp only [sA, sB, g_lx, decide_eq_true_eq, hp, hq, Nat.add_sub_cancel, Nat.not_lt]
            exact propext (q_cmpm (by omega) (by omega) (by omega) (by omega))
          have e2 : (0 ≤ lg_cmp (lN (p + 1 + 1) * sD (wO h B) (some u)) (sC (wT h B) (some u) * lN q)) = (¬ g_ux (wO h B) (wT h B) i u = true) := by
            simp only [sC, sD, g_ux, decide_eq_true_eq, hp, hq, Nat.add_sub_cancel, Nat.not_lt]
            exact propext (q_cmpg (by omega) (by omega) (by omega) (by omega))
          simp only [hk, hb, hu, btN, e1, e2, Bool.true_and, if_true, Option.isSome, Bool.false_eq_true, if_false, not_true, q_10, not_false_iff] at hF ⊢
          cases h3 : g_lx (wO h B) (wT h B) i v <;> cases h4 : g_ux (wO h B) (wT h B) i u <;> simp only [h3, h4, Bool.false_eq_true, if_false, not_true, not_false_iff, if_true] at hF ⊢ <;> refine hF _ ?_ <;> unfold stF <;> simp only [bestF, btN, hk, hb, hu, h3, h4, Bool.and_self, Bool.and_true, Bool.and_false, Bool.true_and, Bool.false_eq_true, if_false, if_true, sA, sB, sC, sD, hp, hq, Nat.add_sub_cancel]
theorem y_spans (S : mS B h) (R : RW2 B n h) (t d : Int32) : fX12_spans (B + 66) t d h = some ((), stF h B t d n) := by
  have hn2 := R.1
  unfold fX12_spans
  simp only [q_rf, q_lt, q_cl, q_jn, q_b, q_b1, q_ck, kd_I, kd_J, kd_R, n_I, n_J, n_R, r_I, r_J, c_I, c_J, c_R, i_J, i_R, j_I, j_R, y_in, y_isDay, x_within, x_isDay, x_isTown, sb_yweigh S]
  have := y_spans_L35 S R t d (fun g73 => some ((), g73)) n 0 mm_F (by omega) (by unfold mm_F; omega)
  simp only [bestF, Option.isSome, Bool.false_eq_true, if_false, nI_0] at this
  exact this
end SS
