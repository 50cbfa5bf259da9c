/-! spans, on: the quarrels, and what the reference writes -/
section SR
variable {B : Nat} {h : mm_H} {n : Nat}
theorem x_leastUpper_L5 (S : mS B h) (R : RW2 B n h) (t d : Int32) (K : Int32 → mm_H → Option (Int32 × mm_H)) : ∀ (e i fuel : Nat), i + e = n → e < fuel → fX8_leastUpper_L5 (B + 17) t d K fuel (oI (bestF (xKn h B t d) (g_ux (wO h B) (wT h B)) i)) (nI i) h = K (oI (bestF (xKn h B t d) (g_ux (wO h B) (wT h B)) n)) h := by
  have hn2 := R.1
  have hn := R.2.1
  intro e
  induction e with
  | zero =>
    intro i fuel hi hf
    obtain ⟨f, rfl⟩ : ∃ f, fuel = f + 1 := ⟨fuel - 1, by omega⟩
    show fX8_leastUpper_L5_b _ _ _ _ _ _ _ _ = _
    unfold fX8_leastUpper_L5_b
    simp only [q_rf, q_lt, q_cl, q_jn, q_b, q_b1, q_ck, kd_I, kd_J, kd_R, n_I, n_J, n_R, r_I, r_J, c_I, c_J, c_R, i_J, i_R, j_I, j_R, y_in, y_isDay, x_within, x_isDay, x_isTown, sb_xmeas S, hn]
    rw [if_pos (by rw [show i = n by omega]; exact Int32.le_refl _), show i = n by omega]
  | succ e ih =>
    intro i fuel hi hf
    obtain ⟨f, rfl⟩ : ∃ f, fuel = f + 1 := ⟨fuel - 1, by omega⟩
    show fX8_leastUpper_L5_b _ _ _ _ _ _ _ _ = _
    unfold fX8_leastUpper_L5_b
    have ih' := ih (i + 1) f (by omega) (by omega)
    simp only [q_rf, q_lt, q_cl, q_jn, q_b, q_b1, q_ck, kd_I, kd_J, kd_R, n_I, n_J, n_R, r_I, r_J, c_I, c_J, c_R, i_J, i_R, j_I, j_R, y_in, y_isDay, x_within, x_isDay, x_isTown, sb_xmeas S, hn, nI_1, x_isKnown S R (show i < n by omega)]
    rw [if_neg (nI_ge (by omega) (by omega))]
    simp only [bestF] at ih'
    cases hk : xKn h B t d i with
    | false => simpa [hk] using ih'
    | true =>
      cases hb : bestF (xKn h B t d) (g_ux (wO h B) (wT h B)) i with
      | none => simpa [hk, btN, hb, oI] using ih'
      | some g =>
        have hg := bestF_lt hb
        simp only [oI, oI_ne (show g < 2 ^ 31 by omega), x_upperExceeds S R (show i < n by omega) (show g < n by omega), q_rf, q_lt, q_cl, q_jn, q_b, q_b1, q_ck, kd_I, kd_J, kd_R, n_I, n_J, n_R, r_I, r_J, c_I, c_J, c_R, i_J, i_R, j_I, j_R, y_in, y_isDay, x_within, x_isDay, x_isTown]
        cases hx : g_ux (wO h B) (wT h B) i g <;> simpa [hk, btN, hb, hx, oI] using ih'
theorem x_greatestLower (S : mS B h) (R : RW2 B n h) (t d : Int32) : fX8_greatestLower (B + 17) t d h = some (oI (bestF (xKn h B t d) (g_lx (wO h B) (wT h B)) n), h) := by
  have hn2 := R.1
  unfold fX8_greatestLower
  rw [← nI_0]
  exact x_greatestLower_L5 S R t d _ n 0 mm_F (by omega) (by unfold mm_F; omega)
theorem x_leastUpper (S : mS B h) (R : RW2 B n h) (t d : Int32) : fX8_leastUpper (B + 17) t d h = some (oI (bestF (xKn h B t d) (g_ux (wO h B) (wT h B)) n), h) := by
  have hn2 := R.1
  unfold fX8_leastUpper
  rw [← nI_0]
  exact x_leastUpper_L5 S R t d _ n 0 mm_F (by omega) (by unfold mm_F; omega)
theorem x_greaterQuarreller_L8 (S : mS B h) (R : RW2 B n h) (t d : Int32) (K : mm_H → Option (Int32 × mm_H)) : ∀ (e i fuel : Nat), i + e = n → e < fuel → fX8_greaterQuarreller_L8 (B + 17) t d K fuel (oI (bestF (xKn h B t d) (g_lx (wO h B) (wT h B)) i)) (oI (bestF (xKn h B t d) (g_ux (wO h B) (wT h B)) i)) (nI i) h = match firstF (fun k => xKn h B t d k && g_qc (wO h B) (wT h B) (xKn h B t d) k) e i with
    | none => K h
    | some k => some (nI k, h) := by
  have hn2 := R.1
  have hn := R.2.1
  intro e
  induction e with
  | zero =>
    intro i fuel hi hf
    obtain ⟨f, rfl⟩ : ∃ f, fuel = f + 1 := ⟨fuel - 1, by omega⟩
    show fX8_greaterQuarreller_L8_b _ _ _ _ _ _ _ _ _ = _
    unfold fX8_greaterQuarreller_L8_b
    simp only [q_rf, q_lt, q_cl, q_jn, q_b, q_b1, q_ck, kd_I, kd_J, kd_R, n_I, n_J, n_R, r_I, r_J, c_I, c_J, c_R, i_J, i_R, j_I, j_R, y_in, y_isDay, x_within, x_isDay, x_isTown, sb_xmeas S, hn]
    rw [if_pos (by rw [show i = n by omega]; exact Int32.le_refl _)]
    rfl
  | succ e ih =>
    intro i fuel hi hf
    obtain ⟨f, rfl⟩ : ∃ f, fuel = f + 1 := ⟨fuel - 1, by omega⟩
    show fX8_greaterQuarreller_L8_b _ _ _ _ _ _ _ _ _ = _
    unfold fX8_greaterQuarreller_L8_b
    have ih' := ih (i + 1) f (by omega) (by omega)
    simp only [q_rf, q_lt, q_cl, q_jn, q_b, q_b1, q_ck, kd_I, kd_J, kd_R, n_I, n_J, n_R, r_I, r_J, c_I, c_J, c_R, i_J, i_R, j_I, j_R, y_in, y_isDay, x_within, x_isDay, x_isTown, sb_xmeas S, hn, nI_1, x_isKnown S R (show i < n by omega)]
    rw [if_neg (nI_ge (by omega) (by omega))]
    simp only [bestF, ← nI_1] at ih'
    simp only [nI_1] at ih'
    simp only [firstF]
    rcases Bool.eq_false_or_eq_true (xKn h B t d i) with hk | hk
    case inr => simpa [hk] using ih'
    case inl =>
      cases hb : bestF (xKn h B t d) (g_lx (wO h B) (wT h B)) i with
      | none =>
        cases hu : bestF (xKn h B t d) (g_ux (wO h B) (wT h B)) i with
        | none => simpa [hk, btN, hb, hu, oI, g_qc] using ih'
        | some u => exact absurd (bestF_none hb u (bestF_lt hu)) (by rw [bestF_kn hu]; decide)
      | some g =>
        have hg := bestF_lt hb
        cases hu : bestF (xKn h B t d) (g_ux (wO h B) (wT h B)) i with
        | none => exact absurd (bestF_none hu g hg) (by rw [bestF_kn hb]; decide)
        | some u =>
          have hu2 := bestF_lt hu
          simp only [oI, oI_ne (show g < 2 ^ 31 by omega), oI_ne (show u < 2 ^ 31 by omega), x_lowerExceeds S R (show i < n by omega) (show g < n by omega), x_upperExceeds S R (show i < n by omega) (show u < n by omega), x_liesAbove S R (show g < n by omega) (show i < n by omega), x_liesAbove S R (show i < n by omega) (show u < n by omega), q_rf, q_lt, q_cl, q_jn, q_b, q_b1, q_ck, kd_I, kd_J, kd_R, n_I, n_J, n_R, r_I, r_J, c_I, c_J, c_R, i_J, i_R, j_I, j_R, y_in, y_isDay, x_within, x_isDay, x_isTown]
          cases h1 : g_bar (wO h B) (wT h B) g i
          case true => simp [hk, hb, hu, h1, g_qc, sk17 S, q_ck]
          cases h2 : g_bar (wO h B) (wT h B) i u
          case true => simp [hk, hb, hu, h1, h2, g_qc, sk17 S, q_ck]
          cases h3 : g_lx (wO h B) (wT h B) i g <;> cases h4 : g_ux (wO h B) (wT h B) i u <;> simpa [hk, btN, hb, hu, h1, h2, h3, h4, oI, g_qc, sk17 S, q_ck] using ih'
theorem x_greaterQuarreller (S : mS B h) (R : RW2 B n h) (t d : Int32) : fX8_greaterQuarreller (B + 17) t d h = some (oI (firstF (fun k => xKn h B t d k && g_qu (wO h B) (wT h B) (xKn h B t d) k) n 0), h) := by
  have hn2 := R.1
  unfold fX8_greaterQuarreller
  have := x_greaterQuarreller_L8 S R t d (fun g47 => some ((-1 : Int32), g47)) n 0 mm_F (by omega) (by unfold mm_F; omega)
  simp only [bestF, oI, nI_0] at this
  rw [this]
  have e : firstF (fun k => xKn h B t d k && g_qc (wO h B) (wT h B) (xKn h B t d) k) n 0 = firstF (fun k => xKn h B t d k && g_qu (wO h B) (wT h B) (xKn h B t d) k) n 0 := firstF_congr fun j _ _ => by
    show (_ && _) = (_ && _)
    cases hk : xKn h B t d j with
    | false => rfl
    | true => rw [g_q_eq _ _ (fun k _ => wO_2 h B k) hk]
  rw [e]
  cases firstF (fun k => xKn h B t d k && g_qu (wO h B) (wT h B) (xKn h B t d) k) n 0 <;> rfl
theorem x_lesserQuarreller_L23 (S : mS B h) (R : RW2 B n h) (t d : Int32) {m : Nat} (hm : m < n) (K : mm_H → Option (Int32 × mm_H)) : ∀ (e i fuel : Nat), i + e = m → e < fuel → fX8_lesserQuarreller_L23 (B + 17) t d (nI m) K fuel (nI i) h = match firstF (fun v => xKn h B t d v && (g_bar (wO h B) (wT h B) v m || g_bar (wO h B) (wT h B) m v)) e i with
    | none => K h
    | some k => some (nI k, h) := by
  have hn2 := R.1
  have hn := R.2.1
  intro e
  induction e with
  | zero =>
    intro i fuel hi hf
    obtain ⟨f, rfl⟩ : ∃ f, fuel = f + 1 := ⟨fuel - 1, by omega⟩
    show fX8_lesserQuarreller_L23_b _ _ _ _ _ _ _ _ = _
    unfold fX8_lesserQuarreller_L23_b
    rw [if_pos (by rw [show i = m by omega]; exact Int32.le_refl _)]
    rfl
  | succ e ih =>
    intro i fuel hi hf
    obtain ⟨f, rfl⟩ : ∃ f, fuel = f + 1 := ⟨fuel - 1, by omega⟩
    show fX8_lesserQuarreller_L23_b _ _ _ _ _ _ _ _ = _
    unfold fX8_lesserQuarreller_L23_b
    simp only [q_rf, q_lt, q_cl, q_jn, q_b, q_b1, q_ck, kd_I, kd_J, kd_R, n_I, n_J, n_R, r_I, r_J, c_I, c_J, c_R, i_J, i_R, j_I, j_R, y_in, y_isDay, x_within, x_isDay, x_isTown, sb_xmeas S, nI_1, x_isKnown S R (show i < n by omega), x_liesAbove S R (show i < n by omega) hm, x_liesAbove S R hm (show i < n by omega), ih (i + 1) f (by omega) (by omega)]
    rw [if_neg (nI_ge (by omega) (by omega))]
    simp only [firstF]
    rcases Bool.eq_false_or_eq_true (xKn h B t d i) with hk | hk <;> rcases Bool.eq_false_or_eq_true (g_bar (wO h B) (wT h B) i m) with h1 | h1 <;> rcases Bool.eq_false_or_eq_true (g_bar (wO h B) (wT h B) m i) with h2 | h2 <;> simp [hk, h1, h2]
end SR
