/-! hands that hold: breakers, holds -/
def hdP (f0 f1 f2 : Nat → Int32) (i : Nat) (c : Int32) : Int32 := if f2 i ≤ c then f0 i - 0 else f0 i - f1 i
def hdB (f0 f1 f2 : Nat → Int32) (s c : Int32) (i : Nat) : Bool := if (s >>> (nI i &&& 31)) &&& 1 = 0 then decide (0 < hdP f0 f1 f2 i (c + 1)) else decide (hdP f0 f1 f2 i c < 0)
/-- the ones of s from place i on, d places -/
def pcF (s : Int32) : Nat → Nat → Int32 → Int32
  | 0, _, v => v
  | d + 1, i, v => pcF s d (i + 1) (v + ((s >>> (nI i &&& 31)) &&& 1))
def bcF (a0 : Int32) : Int32 :=
  let v1 := a0 - (((a0.toUInt32 >>> ((1 : Int32).toUInt32 &&& Int32.toUInt32 31)).toInt32) &&& (1431655765 : Int32))
  let v2 := (v1 &&& (858993459 : Int32)) + (((v1.toUInt32 >>> ((2 : Int32).toUInt32 &&& Int32.toUInt32 31)).toInt32) &&& (858993459 : Int32))
  let v3 := (v2 + ((v2.toUInt32 >>> ((4 : Int32).toUInt32 &&& Int32.toUInt32 31)).toInt32)) &&& (252645135 : Int32)
  let v4 := v3 + ((v3.toUInt32 >>> ((8 : Int32).toUInt32 &&& Int32.toUInt32 31)).toInt32)
  let v5 := v4 + ((v4.toUInt32 >>> ((16 : Int32).toUInt32 &&& Int32.toUInt32 31)).toInt32)
  v5 &&& (63 : Int32)
theorem bcF_ok (a : Int32) (h : mm_H) : fJ6_bitCount_0f7a4 a h = some (bcF a, h) := rfl
theorem bc_pc : ∀ p, p ≤ 8 → ∀ s, s < 2 ^ p → bcF (nI s) = pcF (nI s) p 0 0 := by decide +kernel
theorem bit01 : ∀ s, s < 256 → ∀ i, i < 8 → ((nI s >>> (nI i &&& 31)) &&& 1 = 0 ∨ (nI s >>> (nI i &&& 31)) &&& 1 = 1) := by decide +kernel
theorem sh_p : ∀ p, p ≤ 8 → (1 : Int32) <<< (nI p &&& 31) = nI (2 ^ p) := by decide +kernel
theorem p_256 : ∀ p, p ≤ 8 → 2 ^ p ≤ 256 := by decide
/-- the sets from s on, e of them, with P -/
def stL (P : Nat → Bool) : Nat → Nat → List Nat
  | 0, _ => []
  | e + 1, s => if P s then s :: stL P e (s + 1) else stL P e (s + 1)
theorem stL_len {P : Nat → Bool} : ∀ e s, (stL P e s).length ≤ e := by
  intro e
  induction e with
  | zero => intro s; exact Nat.le_refl _
  | succ e ih =>
    intro s
    simp only [stL]
    have := ih (s + 1)
    split
    · simp only [List.length_cons]; omega
    · omega
def hdS (f0 f1 f2 : Nat → Int32) (p s : Nat) : Bool := !anyF (hdB f0 f1 f2 (nI s) (pcF (nI s) p 0 0)) p 0
section HB
variable {B : Nat} {h : mm_H}
theorem x_profit (S : mS B h) {i : Nat} (hi : i < 8) (c : Int32) : fX3_profit (B + 47) (nI i) c h = some (hdP (mm_i h (B + 48)) (mm_i h (B + 49)) (mm_i h (B + 50)) i c, h) := by
  unfold fX3_profit hdP
  have hx := fun (β : Type) (k : Option β) => q_ckx hi (by decide) k
  have hc := nI_clamp (n := i) (by omega)
  simp only [q_rf, q_lt, q_cl, q_jn, q_b, q_b1, q_ck, kd_I, kd_J, kd_R, n_I, n_J, n_R, r_I, r_J, c_I, c_J, c_R, i_J, i_R, j_I, j_R, y_in, y_isDay, x_within, x_isDay, x_isTown, sb_xhands S, hx, hc]
  by_cases e : mm_i h (B + 50) i ≤ c
  · simp only [e, if_true]
  · simp only [e, if_false]
theorem y_worth (S : mS B h) {i : Nat} (hi : i < 8) (c : Int32) : fX12_worth (B + 66) (nI i) c h = some (hdP (mm_i h (B + 137)) (mm_i h (B + 138)) (mm_i h (B + 139)) i c, h) := by
  unfold fX12_worth hdP
  have hx := fun (β : Type) (k : Option β) => q_ckx hi (by decide) k
  have hc := nI_clamp (n := i) (by omega)
  simp only [q_rf, q_lt, q_cl, q_jn, q_b, q_b1, q_ck, kd_I, kd_J, kd_R, n_I, n_J, n_R, r_I, r_J, c_I, c_J, c_R, i_J, i_R, j_I, j_R, y_in, y_isDay, x_within, x_isDay, x_isTown, sb_yhands S, hx, hc]
  by_cases e : mm_i h (B + 139) i ≤ c
  · simp only [e, if_true]
  · simp only [e, if_false]
theorem x_isStable_L8 (S : mS B h) {p s : Nat} (hp : p ≤ 8) (hs : s < 2 ^ p) (c : Int32) (K : mm_H → Option (Int32 × mm_H)) : ∀ (e i fuel : Nat), i + e = p → e < fuel → fX3_isStable_L8 (B + 47) (nI s) (nI p) c K fuel (nI i) h = if anyF (hdB (mm_i h (B + 48)) (mm_i h (B + 49)) (mm_i h (B + 50)) (nI s) c) e i then some (0, h) else K h := by
  intro e
  induction e with
  | zero =>
    intro i fuel hi hf
    obtain ⟨f, rfl⟩ : ∃ f, fuel = f + 1 := ⟨fuel - 1, by omega⟩
    show fX3_isStable_L8_b _ _ _ _ _ _ _ _ = _
    unfold fX3_isStable_L8_b
    rw [if_pos (by rw [show i = p by omega]; exact Int32.le_refl _)]
    rfl
  | succ e ih =>
    intro i fuel hi hf
    obtain ⟨f, rfl⟩ : ∃ f, fuel = f + 1 := ⟨fuel - 1, by omega⟩
    show fX3_isStable_L8_b _ _ _ _ _ _ _ _ = _
    unfold fX3_isStable_L8_b
    have hb := bit01 s (Nat.lt_of_lt_of_le hs (p_256 p hp)) i (by omega)
    simp only [q_rf, q_lt, q_cl, q_jn, q_b, q_b1, q_ck, kd_I, kd_J, kd_R, n_I, n_J, n_R, r_I, r_J, c_I, c_J, c_R, i_J, i_R, j_I, j_R, y_in, y_isDay, x_within, x_isDay, x_isTown, sk47 S, nI_1, x_profit S (show i < 8 by omega), ih (i + 1) f (by omega) (by omega), anyF, hdB]
    rw [if_neg (nI_ge (by omega) (by omega))]
    rcases hb with hb | hb
    · by_cases h2 : 0 < hdP (mm_i h (B + 48)) (mm_i h (B + 49)) (mm_i h (B + 50)) i (c + 1)
      · simp [hb, h2, Int32.not_le.mpr h2, sk47 S, q_ck]
      · simp [hb, h2, Int32.not_lt.mp h2, sk47 S, q_ck]
    · by_cases h2 : hdP (mm_i h (B + 48)) (mm_i h (B + 49)) (mm_i h (B + 50)) i c < 0
      · simp [hb, h2, sk47 S, q_ck]
      · simp [hb, h2, sk47 S, q_ck]
theorem x_isStable (S : mS B h) {p s : Nat} (hp : p ≤ 8) (hs : s < 2 ^ p) : fX3_isStable (B + 47) (nI s) (nI p) h = some (if hdS (mm_i h (B + 48)) (mm_i h (B + 49)) (mm_i h (B + 50)) p s then 1 else 0, h) := by
  unfold fX3_isStable
  simp only [bcF_ok, q_cl, bc_pc p hp s hs]
  have := x_isStable_L8 S hp hs (pcF (nI s) p 0 0) (fun g25 => some ((1 : Int32), g25)) p 0 mm_F (by omega) (by unfold mm_F; omega)
  rw [nI_0] at this
  rw [this]
  unfold hdS
  rcases Bool.eq_false_or_eq_true (anyF (hdB (mm_i h (B + 48)) (mm_i h (B + 49)) (mm_i h (B + 50)) (nI s) (pcF (nI s) p 0 0)) p 0) with e | e <;> simp [e]
theorem y_breakers_L39 (p s : Int32) (n : Nat) (hp : p = nI n) (hn : n ≤ 8) (K : Int32 → mm_H → Option (Int32 × mm_H)) : ∀ (e i fuel : Nat) (v : Int32), i + e = n → e < fuel → fX12_breakers_L39 (B + 66) p s K fuel v (nI i) h = K (pcF s e i v) h := by
  subst hp
  intro e
  induction e with
  | zero =>
    intro i fuel v hi hf
    obtain ⟨f, rfl⟩ : ∃ f, fuel = f + 1 := ⟨fuel - 1, by omega⟩
    show fX12_breakers_L39_b _ _ _ _ _ _ _ _ = _
    unfold fX12_breakers_L39_b
    rw [if_pos (by rw [show i = n by omega]; exact Int32.le_refl _)]
    rfl
  | succ e ih =>
    intro i fuel v hi hf
    obtain ⟨f, rfl⟩ : ∃ f, fuel = f + 1 := ⟨fuel - 1, by omega⟩
    show fX12_breakers_L39_b _ _ _ _ _ _ _ _ = _
    unfold fX12_breakers_L39_b
    rw [if_neg (nI_ge (by omega) (by omega))]
    simp only [q_lt, nI_1]
    exact ih (i + 1) f _ (by omega) (by omega)
theorem y_breakers_L66 (S : mS B h) {p s : Nat} (hp : p ≤ 8) (hs : s < 2 ^ p) (c : Int32) (K : Int32 → mm_H → Option (Int32 × mm_H)) : ∀ (e i fuel : Nat) (v : Int32), i + e = p → e < fuel → (v = 0 ∨ v = 1) → fX12_breakers_L66 (B + 66) (nI p) (nI s) c K fuel v (nI i) h = K (if v = 0 then 0 else if anyF (hdB (mm_i h (B + 137)) (mm_i h (B + 138)) (mm_i h (B + 139)) (nI s) c) e i then 0 else 1) h := by
  intro e
  induction e with
  | zero =>
    intro i fuel v hi hf hv
    obtain ⟨f, rfl⟩ : ∃ f, fuel = f + 1 := ⟨fuel - 1, by omega⟩
    show fX12_breakers_L66_b _ _ _ _ _ _ _ _ _ = _
    unfold fX12_breakers_L66_b
    rw [if_pos (by rw [show i = p by omega]; exact Int32.le_refl _)]
    rcases hv with rfl | rfl <;> simp [anyF]
  | succ e ih =>
    intro i fuel v hi hf hv
    obtain ⟨f, rfl⟩ : ∃ f, fuel = f + 1 := ⟨fuel - 1, by omega⟩
    show fX12_breakers_L66_b _ _ _ _ _ _ _ _ _ = _
    unfold fX12_breakers_L66_b
    have hb := bit01 s (Nat.lt_of_lt_of_le hs (p_256 p hp)) i (by omega)
    simp only [q_rf, q_lt, q_cl, q_jn, q_b, q_b1, q_ck, kd_I, kd_J, kd_R, n_I, n_J, n_R, r_I, r_J, c_I, c_J, c_R, i_J, i_R, j_I, j_R, y_in, y_isDay, x_within, x_isDay, x_isTown, sk66 S, nI_1, y_worth S (show i < 8 by omega), ih (i + 1) f _ (by omega) (by omega) (Or.inl rfl), ih (i + 1) f _ (by omega) (by omega) (Or.inr rfl), anyF, hdB]
    rw [if_neg (nI_ge (by omega) (by omega))]
    rcases hv with rfl | rfl
    · simp
    · rcases hb with hb | hb
      · by_cases h2 : 0 < hdP (mm_i h (B + 137)) (mm_i h (B + 138)) (mm_i h (B + 139)) i (c + 1)
        · simp [hb, h2, sk66 S, q_ck]
        · simp [hb, h2, sk66 S, q_ck]
      · by_cases h2 : hdP (mm_i h (B + 137)) (mm_i h (B + 138)) (mm_i h (B + 139)) i c < 0
        · simp [hb, h2, sk66 S, q_ck]
        · simp [hb, h2, sk66 S, q_ck]
end HB
