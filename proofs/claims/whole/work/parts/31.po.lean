/-! what changes between two heaps of one structure: W the cells that may -/
def mW (W : Nat → Nat → Prop) (h h' : mm_H) : Prop := (mm_sz h' = mm_sz h ∧ mm_kd h' = mm_kd h ∧ mm_n h' = mm_n h ∧ mm_r h' = mm_r h ∧ mm_c h' = mm_c h) ∧ ∀ a k, ¬ W a k → mm_i h' a k = mm_i h a k ∧ mm_j h' a k = mm_j h a k
theorem mW.S {W : Nat → Nat → Prop} {h h' : mm_H} {B : Nat} (w : mW W h h') (S : mS B h) : mS B h' := by
  unfold mS
  rw [w.1.1, w.1.2.1, w.1.2.2.1, w.1.2.2.2.1]
  exact S
theorem mW.i {W : Nat → Nat → Prop} {h h' : mm_H} (w : mW W h h') {a k : Nat} (e : ¬ W a k) : mm_i h' a k = mm_i h a k := (w.2 a k e).1
theorem mW.j {W : Nat → Nat → Prop} {h h' : mm_H} (w : mW W h h') {a k : Nat} (e : ¬ W a k) : mm_j h' a k = mm_j h a k := (w.2 a k e).2
theorem mW.rf {W : Nat → Nat → Prop} {h : mm_H} : mW W h h := ⟨⟨rfl, rfl, rfl, rfl, rfl⟩, fun _ _ _ => ⟨rfl, rfl⟩⟩
theorem mW.tr {W V : Nat → Nat → Prop} {h h1 h2 : mm_H} (w : mW W h h1) (v : mW V h1 h2) : mW (fun a k => W a k ∨ V a k) h h2 := ⟨⟨v.1.1.trans w.1.1, v.1.2.1.trans w.1.2.1, v.1.2.2.1.trans w.1.2.2.1, v.1.2.2.2.1.trans w.1.2.2.2.1, v.1.2.2.2.2.trans w.1.2.2.2.2⟩, fun a k e => ⟨(v.i fun z => e (Or.inr z)).trans (w.i fun z => e (Or.inl z)), (v.j fun z => e (Or.inr z)).trans (w.j fun z => e (Or.inl z))⟩⟩
theorem mW.up {W V : Nat → Nat → Prop} {h h' : mm_H} (w : mW W h h') (e : ∀ a k, W a k → V a k) : mW V h h' := ⟨w.1, fun a k n => w.2 a k fun z => n (e a k z)⟩
theorem mW.I {W : Nat → Nat → Prop} {h h' : mm_H} (w : mW W h h') {a k : Nat} {v : Int32} (e : W a k) : mW W h (mm_setI h' a k v) := ⟨w.1, fun b j n => ⟨by
  rw [i_I, if_neg (fun z => n (by rw [z.1, z.2]; exact e))]
  exact w.i n, w.j n⟩⟩
theorem mW.J {W : Nat → Nat → Prop} {h h' : mm_H} (w : mW W h h') {a k : Nat} {v : Int64} (e : W a k) : mW W h (mm_setJ h' a k v) := ⟨w.1, fun b j n => ⟨w.i n, by
  rw [j_J, if_neg (fun z => n (by rw [z.1, z.2]; exact e))]
  exact w.j n⟩⟩
/-- numbers in a range -/
theorem q_rng {x : Int32} {n : Nat} (hn : n < 2 ^ 31) (h0 : ¬ x < 0) (h1 : ¬ nI n ≤ x) : ∃ j : Nat, j < n ∧ x = nI j := by
  obtain ⟨j, hj, rfl⟩ := nI_of h0
  exact ⟨j, Nat.not_le.mp fun q => h1 (nI_le q (by omega)), rfl⟩
/-! ports -/
def yShut (h : mm_H) (B : Nat) (t d r : Int32) (k : Nat) : Bool := decide (mm_i h (B + 92) k = t) && (decide (mm_i h (B + 93) k ≤ d) && (decide (d ≤ mm_i h (B + 94) k) && decide (mm_i h (B + 95) k ≤ r)))
def RPo (B : Nat) (h : mm_H) : Prop := ∃ n : Nat, n ≤ 20 ∧ mm_i h (B + 23) 15 = nI n ∧ mm_i h (B + 66) 38 = nI n ∧ ∀ k, k < n → mm_i h (B + 92) k = mm_i h (B + 33) k ∧ mm_i h (B + 93) k = mm_i h (B + 34) k ∧ mm_i h (B + 94) k = mm_i h (B + 35) k ∧ ((mm_i h (B + 36) k = -1 ∧ mm_i h (B + 95) k = 100000) ∨ (0 ≤ mm_i h (B + 36) k ∧ mm_i h (B + 36) k ≤ 3999 ∧ mm_i h (B + 95) k = mm_i h (B + 36) k))
def RNow (B : Nat) (h : mm_H) : Prop := mm_i h (B + 66) 1 = mm_i h B 11 ∧ 0 ≤ mm_i h B 11 ∧ mm_i h B 11 ≤ 3999
section PO
variable {B : Nat} {h : mm_H}
theorem y_shuts_L6 (S : mS B h) {n : Nat} (hn : mm_i h (B + 66) 38 = nI n) (hn2 : n ≤ 20) (t d r : Int32) (K : Int32 → mm_H → Option (Int32 × mm_H)) : ∀ (e i fuel : Nat) (acc : Int32), i + e = n → e < fuel → (acc = 0 ∨ acc = 1) → fX12_shuts_L6 (B + 66) t d r K fuel acc (nI i) h = K (if acc = 0 then (if anyF (yShut h B t d r) e i then 1 else 0) else 1) h := by
  intro e
  induction e with
  | zero =>
    intro i fuel acc hi hf ha
    obtain ⟨f, rfl⟩ : ∃ f, fuel = f + 1 := ⟨fuel - 1, by omega⟩
    show fX12_shuts_L6_b _ _ _ _ _ _ _ _ _ = _
    unfold fX12_shuts_L6_b
    simp only [sk66 S, q_ck, hn]
    rw [if_pos (by rw [show i = n by omega]; exact Int32.le_refl _)]
    rcases ha with ha | ha <;> simp [ha, anyF]
  | succ e ih =>
    intro i fuel acc hi hf ha
    obtain ⟨f, rfl⟩ : ∃ f, fuel = f + 1 := ⟨fuel - 1, by omega⟩
    show fX12_shuts_L6_b _ _ _ _ _ _ _ _ _ = _
    unfold fX12_shuts_L6_b
    have hx := fun (β : Type) (k : Option β) => q_ckx (show i < 20 by omega) (by decide) k
    have hc := nI_clamp (n := i) (by omega)
    simp only [q_rf, q_lt, q_cl, q_jn, q_b, q_b1, q_ck, kd_I, kd_J, kd_R, n_I, n_J, n_R, r_I, r_J, c_I, c_J, c_R, i_J, i_R, j_I, j_R, y_in, y_isDay, x_within, x_isDay, x_isTown, sb_yports S, hn, hx, nI_1, hc, ih (i + 1) f _ (by omega) (by omega) (Or.inl rfl), ih (i + 1) f _ (by omega) (by omega) (Or.inr rfl)]
    rw [if_neg (nI_ge (by omega) (by omega))]
    rcases ha with ha | ha
    · simp only [ha, anyF, yShut]
      by_cases h1 : mm_i h (B + 92) i = t <;> by_cases h2 : mm_i h (B + 93) i ≤ d <;> by_cases h3 : d ≤ mm_i h (B + 94) i <;> by_cases h4 : r < mm_i h (B + 95) i <;> simp [h1, h2, h3, h4, Int32.not_le.mpr, Int32.not_lt.mp]
    · simp [ha]
theorem y_shuts (S : mS B h) {n : Nat} (hn : mm_i h (B + 66) 38 = nI n) (hn2 : n ≤ 20) (t d r : Int32) : fX12_shuts (B + 66) t d r h = some (if anyF (yShut h B t d r) n 0 then 1 else 0, h) := by
  unfold fX12_shuts
  rw [← nI_0, y_shuts_L6 S hn hn2 t d r _ n 0 mm_F _ (by omega) (by unfold mm_F; omega) (Or.inl nI_0)]
  simp only [nI_0, if_true, q_b1, q_ck]
end PO
