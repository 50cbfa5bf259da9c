/-! what a man owes; men -/
section OW
variable {B : Nat} {h hx hy hx' hy' : mm_H} {ow ow' : Nat → Nat × Nat} {n nm nl nb : Nat} {am al : Nat → Nat} {P C : Nat → Nat} {A U U' : Nat → Nat → Nat} {T : Nat → Int32} {x : Nat}
def clS (U : Nat → Nat → Nat) (b : Nat) : Nat → Nat → Nat
  | 0, _ => 0
  | e + 1, i => U (7 + i) b + clS U b e (i + 1)
/-- what the bargain b says of m: l 0 all, 1 what is late -/
def ctr (hx : mm_H) (B : Nat) (A U : Nat → Nat → Nat) (m : Nat) (l : Int32) (b : Nat) : Nat := if U 1 b = m then (if l = 0 ∨ mm_i hx (A 0 b) 4 < mm_i hx B 11 then U 2 b else 0) + clS U b (U 3 b) 0 else 0
def owS (hx : mm_H) (B : Nat) (A U : Nat → Nat → Nat) (m : Nat) (l : Int32) : Nat → Nat → Nat
  | 0, _ => 0
  | e + 1, i => ctr hx B A U m l i + owS hx B A U m l e (i + 1)
theorem x_allClaims_L4 {a v q : Nat} {u : Nat → Nat} (U : Nat → Nat → Nat) (b : Nat) (k1 : mm_kd h a = 1) (i9 : mm_i h a 9 = nI q) (hq3 : q ≤ 3) (r11 : mm_r h a 11 = some v) (kv : mm_kd h v = 14) (nv : mm_n h v = 3) (hu : ∀ i, i < q → mm_i h v i = nI (U (7 + i) b)) (K : Int32 → mm_H → Option (Int32 × mm_H)) : ∀ (e i fuel acc : Nat), i + e = q → e < fuel → fX0_allClaims_L4 a K fuel (nI acc) (nI i) h = K (nI (acc + clS U b e i)) h := by
  intro e
  induction e with
  | zero =>
    intro i fuel acc hi hf
    obtain ⟨f, rfl⟩ : ∃ f, fuel = f + 1 := ⟨fuel - 1, by omega⟩
    show fX0_allClaims_L4_b _ _ _ _ _ _ = _
    unfold fX0_allClaims_L4_b
    simp only [q_rf, q_lt, q_cl, q_jn, q_b, q_b1, q_ck, kd_I, kd_J, kd_R, n_I, n_J, n_R, r_I, r_J, c_I, c_J, c_R, i_J, i_R, j_I, j_R, y_in, y_isDay, x_within, x_isDay, x_isTown, k1, i9]
    rw [if_pos (by rw [show i = q by omega]; exact Int32.le_refl _)]
    rfl
  | succ e ih =>
    intro i fuel acc hi hf
    obtain ⟨f, rfl⟩ : ∃ f, fuel = f + 1 := ⟨fuel - 1, by omega⟩
    show fX0_allClaims_L4_b _ _ _ _ _ _ = _
    unfold fX0_allClaims_L4_b
    have hx := fun (β : Type) (z : Option β) => q_ckx (show i < 3 by omega) (by decide) z
    have hc := nI_clamp (n := i) (by omega)
    have h1 := hu i (by omega)
    simp only [q_rf, q_lt, q_cl, q_jn, q_b, q_b1, q_ck, kd_I, kd_J, kd_R, n_I, n_J, n_R, r_I, r_J, c_I, c_J, c_R, i_J, i_R, j_I, j_R, y_in, y_isDay, x_within, x_isDay, x_isTown, k1, i9, r11, kv, nv, hx, hc, h1, nI_1, nI_add, ih (i + 1) f _ (by omega) (by omega)]
    rw [if_neg (nI_ge (by omega) (by omega))]
    simp only [clS, Nat.add_assoc]
theorem y_owes_L63 (S : mS B hy) {k q : Nat} {m l : Int32} (U : Nat → Nat → Nat) (hk : k < 300) (hq3 : q ≤ 3) (d2 : mm_i hy (B + 106) k = nI q) (hu : ∀ i, i < q → mm_i hy (B + 108) (3 * k + i) = nI (U (7 + i) k)) (K : Int32 → mm_H → Option (Int32 × mm_H)) : ∀ (e i fuel acc : Nat), i + e = q → e < fuel → fX12_owes_L63 (B + 66) m l (nI k) K fuel (nI acc) (nI i) hy = K (nI (acc + clS U k e i)) hy := by
  have hq := fun (β : Type) (z : Option β) => q_ckx hk (by decide) z
  have hcl := nI_clamp (n := k) (by omega)
  intro e
  induction e with
  | zero =>
    intro i fuel acc hi hf
    obtain ⟨f, rfl⟩ : ∃ f, fuel = f + 1 := ⟨fuel - 1, by omega⟩
    show fX12_owes_L63_b _ _ _ _ _ _ _ _ _ = _
    unfold fX12_owes_L63_b
    simp only [q_rf, q_lt, q_cl, q_jn, q_b, q_b1, q_ck, kd_I, kd_J, kd_R, n_I, n_J, n_R, r_I, r_J, c_I, c_J, c_R, i_J, i_R, j_I, j_R, y_in, y_isDay, x_within, x_isDay, x_isTown, sb_ybarg S, hq, hcl, d2]
    rw [if_pos (by rw [show i = q by omega]; exact Int32.le_refl _)]
    rfl
  | succ e ih =>
    intro i fuel acc hi hf
    obtain ⟨f, rfl⟩ : ∃ f, fuel = f + 1 := ⟨fuel - 1, by omega⟩
    show fX12_owes_L63_b _ _ _ _ _ _ _ _ _ = _
    unfold fX12_owes_L63_b
    have hq1 := fun (β : Type) (z : Option β) => q_ckx (show 3 * k + i < 900 by omega) (by decide) z
    have hc := nI_clamp (n := 3 * k + i) (by omega)
    have h1 := hu i (by omega)
    rw [q_3]
    simp only [q_rf, q_lt, q_cl, q_jn, q_b, q_b1, q_ck, kd_I, kd_J, kd_R, n_I, n_J, n_R, r_I, r_J, c_I, c_J, c_R, i_J, i_R, j_I, j_R, y_in, y_isDay, x_within, x_isDay, x_isTown, sb_ybarg S, hq, hcl, d2, hq1, hc, h1, nI_1, nI_add, ih (i + 1) f _ (by omega) (by omega)]
    rw [if_neg (nI_ge (by omega) (by omega))]
    simp only [clS, Nat.add_assoc]
theorem x_owedBy_L5 (S : mS B hx) (R : RBg B ow hx hy nm n A U T) (hm40 : nm ≤ 40) {m : Nat} (hm : m < 40) (l : Int32) (K : Int32 → mm_H → Option (Int32 × mm_H)) : ∀ (e i fuel acc : Nat), i + e = n → e < fuel → fX11_owedBy_L5 B (nI m) l K fuel (nI acc) (nI i) hx = K (nI (acc + owS hx B A U m l e i)) hx := by
  have hsz := x_size (sk3 S) R.2.1
  have n9 := R.1
  intro e
  induction e with
  | zero =>
    intro i fuel acc hi hf
    obtain ⟨f, rfl⟩ : ∃ f, fuel = f + 1 := ⟨fuel - 1, by omega⟩
    show fX11_owedBy_L5_b _ _ _ _ _ _ _ _ = _
    unfold fX11_owedBy_L5_b
    simp only [q_rf, q_lt, q_cl, q_jn, q_b, q_b1, q_ck, kd_I, kd_J, kd_R, n_I, n_J, n_R, r_I, r_J, c_I, c_J, c_R, i_J, i_R, j_I, j_R, y_in, y_isDay, x_within, x_isDay, x_isTown, sb_xbase S, hsz]
    rw [if_pos (by rw [show i = n by omega]; exact Int32.le_refl _)]
    rfl
  | succ e ih =>
    intro i fuel acc hi hf
    obtain ⟨f, rfl⟩ : ∃ f, fuel = f + 1 := ⟨fuel - 1, by omega⟩
    have hi2 : i < n := by omega
    have hg := x_bar S R hi2
    have kdA := (R.2.1.2.2.2 i hi2).2
    obtain ⟨-, ⟨b1, b2, b3⟩, ⟨c1, c2⟩, ⟨d1, d2, d3⟩, -, -, -, k1, -⟩ := (R.2.2.2.1 i hi2).1
    obtain ⟨⟨r1, r2, r3⟩, -, ⟨r4, r5, r6⟩, r7, r8, r9⟩ := (R.2.2.2.1 i hi2).2
    have hAC : fX0_allClaims (A 0 i) hx = some (nI (clS U i (U 3 i) 0), hx) := by
      unfold fX0_allClaims
      have := x_allClaims_L4 (u := fun _ => 0) U i kdA d1 d3 r2 r5 r8 (fun j hj => (k1 j hj).2.1.1) (fun z8 g9 => some (z8, g9)) (U 3 i) 0 mm_F 0 (by omega) (by unfold mm_F; omega)
      rw [nI_0, Nat.zero_add] at this
      exact this
    have he : (nI (U 1 i) = nI m) = (U 1 i = m) := propext (nI_eq (by omega) (by omega))
    show fX11_owedBy_L5_b _ _ _ _ _ _ _ _ = _
    unfold fX11_owedBy_L5_b
    simp only [owS, ctr]
    by_cases w1 : U 1 i = m
    · have w1' : (nI (U 1 i) = nI m) = True := by rw [he]; exact eq_true w1
      by_cases w2 : l = 0
      · subst w2
        simp only [q_rf, q_lt, q_cl, q_jn, q_b, q_b1, q_ck, kd_I, kd_J, kd_R, n_I, n_J, n_R, r_I, r_J, c_I, c_J, c_R, i_J, i_R, j_I, j_R, y_in, y_isDay, x_within, x_isDay, x_isTown, sb_xbase S, hsz, hg, kdA, b1, w1', hAC, c1, nI_1, nI_add, ih (i + 1) f _ (by omega) (by omega), not_true, if_true, if_false, true_or, w1]
        rw [if_neg (nI_ge (by omega) (by omega))]
        congr 2; omega
      · by_cases w3 : mm_i hx (A 0 i) 4 < mm_i hx B 11
        · have w4 : ¬ mm_i hx B 11 ≤ mm_i hx (A 0 i) 4 := Int32.not_le.mpr w3
          simp only [q_rf, q_lt, q_cl, q_jn, q_b, q_b1, q_ck, kd_I, kd_J, kd_R, n_I, n_J, n_R, r_I, r_J, c_I, c_J, c_R, i_J, i_R, j_I, j_R, y_in, y_isDay, x_within, x_isDay, x_isTown, sb_xbase S, hsz, hg, kdA, b1, w1', hAC, c1, w2, w3, w4, nI_1, nI_add, ih (i + 1) f _ (by omega) (by omega), not_true, if_true, if_false, false_or, w1]
          rw [if_neg (nI_ge (by omega) (by omega))]
          congr 2; omega
        · have w4 : mm_i hx B 11 ≤ mm_i hx (A 0 i) 4 := Int32.not_lt.mp w3
          simp only [q_rf, q_lt, q_cl, q_jn, q_b, q_b1, q_ck, kd_I, kd_J, kd_R, n_I, n_J, n_R, r_I, r_J, c_I, c_J, c_R, i_J, i_R, j_I, j_R, y_in, y_isDay, x_within, x_isDay, x_isTown, sb_xbase S, hsz, hg, kdA, b1, w1', hAC, c1, w2, w3, w4, nI_1, nI_add, ih (i + 1) f _ (by omega) (by omega), not_true, if_true, if_false, false_or, w1]
          rw [if_neg (nI_ge (by omega) (by omega))]
          congr 2; omega
    · simp only [q_rf, q_lt, q_cl, q_jn, q_b, q_b1, q_ck, kd_I, kd_J, kd_R, n_I, n_J, n_R, r_I, r_J, c_I, c_J, c_R, i_J, i_R, j_I, j_R, y_in, y_isDay, x_within, x_isDay, x_isTown, sb_xbase S, hsz, hg, kdA, b1, he, w1, nI_1, nI_add, ih (i + 1) f _ (by omega) (by omega), not_false_iff, if_true, if_false]
      rw [if_neg (nI_ge (by omega) (by omega)), Nat.zero_add]
theorem y_owes_L5 (S : mS B hy) (R : RBg B ow hx hy nm n A U T) (N : mm_i hy (B + 66) 1 = mm_i hx B 11) (hm40 : nm ≤ 40) {m : Nat} (hm : m < 40) (l : Int32) (K : Int32 → mm_H → Option (Int32 × mm_H)) : ∀ (e i fuel acc : Nat), i + e = n → e < fuel → fX12_owes_L5 (B + 66) (nI m) l K fuel (nI acc) (nI i) hy = K (nI (acc + owS hx B A U m l e i)) hy := by
  have n9 := R.1
  intro e
  induction e with
  | zero =>
    intro i fuel acc hi hf
    obtain ⟨f, rfl⟩ : ∃ f, fuel = f + 1 := ⟨fuel - 1, by omega⟩
    show fX12_owes_L5_b _ _ _ _ _ _ _ _ = _
    unfold fX12_owes_L5_b
    simp only [q_rf, q_lt, q_cl, q_jn, q_b, q_b1, q_ck, kd_I, kd_J, kd_R, n_I, n_J, n_R, r_I, r_J, c_I, c_J, c_R, i_J, i_R, j_I, j_R, y_in, y_isDay, x_within, x_isDay, x_isTown, sk66 S, R.2.2.1]
    rw [if_pos (by rw [show i = n by omega]; exact Int32.le_refl _)]
    rfl
  | succ e ih =>
    intro i fuel acc hi hf
    obtain ⟨f, rfl⟩ : ∃ f, fuel = f + 1 := ⟨fuel - 1, by omega⟩
    have hi2 : i < n := by omega
    obtain ⟨-, ⟨b1, b2, b3⟩, ⟨c1, c2⟩, ⟨d1, d2, d3⟩, ⟨g1, g2, g3, g4, g5, g6⟩, -, -, k1, -⟩ := (R.2.2.2.1 i hi2).1
    have hAC := fun a => y_owes_L63 S (m := nI m) (l := l) U (k := i) (by omega) d3 d2 (fun j hj => (k1 j hj).2.1.2) (fun z24 g25 => fX12_owes_L5 (B + 66) (nI m) l K f z24 (nI (i + 1)) g25) (U 3 i) 0 mm_F a (by omega) (by unfold mm_F; omega)
    rw [nI_0] at hAC
    have he : (nI (U 1 i) = nI m) = (U 1 i = m) := propext (nI_eq (by omega) (by omega))
    have hq := fun (β : Type) (z : Option β) => q_ckx (show i < 300 by omega) (by decide) z
    have hcl := nI_clamp (n := i) (by omega)
    show fX12_owes_L5_b _ _ _ _ _ _ _ _ = _
    unfold fX12_owes_L5_b
    simp only [owS, ctr]
    by_cases w1 : U 1 i = m
    · have w1' : (nI (U 1 i) = nI m) = True := by rw [he]; exact eq_true w1
      by_cases w2 : l = 0
      · subst w2
        simp only [q_rf, q_lt, q_cl, q_jn, q_b, q_b1, q_ck, kd_I, kd_J, kd_R, n_I, n_J, n_R, r_I, r_J, c_I, c_J, c_R, i_J, i_R, j_I, j_R, y_in, y_isDay, x_within, x_isDay, x_isTown, sb_ybarg S, R.2.2.1, b2, hq, hcl, w1', c2, nI_1, nI_add, hAC, ih (i + 1) f _ (by omega) (by omega), if_true, true_or, w1]
        rw [if_neg (nI_ge (by omega) (by omega))]
        congr 2; omega
      · by_cases w3 : mm_i hx (A 0 i) 4 < mm_i hx B 11
        · have w4 : ¬ mm_i hx B 11 ≤ mm_i hx (A 0 i) 4 := Int32.not_le.mpr w3
          simp only [q_rf, q_lt, q_cl, q_jn, q_b, q_b1, q_ck, kd_I, kd_J, kd_R, n_I, n_J, n_R, r_I, r_J, c_I, c_J, c_R, i_J, i_R, j_I, j_R, y_in, y_isDay, x_within, x_isDay, x_isTown, sb_ybarg S, R.2.2.1, b2, hq, hcl, w1', c2, g3, N, w2, w3, w4, nI_1, nI_add, hAC, ih (i + 1) f _ (by omega) (by omega), if_true, if_false, false_or, w1]
          rw [if_neg (nI_ge (by omega) (by omega))]
          congr 2; omega
        · have w4 : mm_i hx B 11 ≤ mm_i hx (A 0 i) 4 := Int32.not_lt.mp w3
          have z0 : (0 : Int32) = nI 0 := nI_0.symm
          simp only [q_rf, q_lt, q_cl, q_jn, q_b, q_b1, q_ck, kd_I, kd_J, kd_R, n_I, n_J, n_R, r_I, r_J, c_I, c_J, c_R, i_J, i_R, j_I, j_R, y_in, y_isDay, x_within, x_isDay, x_isTown, sb_ybarg S, R.2.2.1, b2, hq, hcl, w1', c2, g3, N, w2, w3, w4, nI_1, if_true, if_false, false_or, w1]
          rw [if_neg (nI_ge (by omega) (by omega)), Int32.add_zero, hAC, ih (i + 1) f _ (by omega) (by omega)]
          congr 2; omega
    · simp only [q_rf, q_lt, q_cl, q_jn, q_b, q_b1, q_ck, kd_I, kd_J, kd_R, n_I, n_J, n_R, r_I, r_J, c_I, c_J, c_R, i_J, i_R, j_I, j_R, y_in, y_isDay, x_within, x_isDay, x_isTown, sb_ybarg S, R.2.2.1, b2, hq, hcl, he, w1, nI_1, nI_add, ih (i + 1) f _ (by omega) (by omega), if_false]
      rw [if_neg (nI_ge (by omega) (by omega)), Nat.zero_add]
theorem x_owedBy (S : mS B hx) (R : RBg B ow hx hy nm n A U T) (hm40 : nm ≤ 40) {m : Nat} (hm : m < 40) (l : Int32) : fX11_owedBy B (nI m) l hx = some (nI (owS hx B A U m l n 0), hx) := by
  have n9 := R.1
  unfold fX11_owedBy
  rw [← nI_0, x_owedBy_L5 S R hm40 hm l _ n 0 mm_F 0 (by omega) (by unfold mm_F; omega), Nat.zero_add]
theorem y_owes (S : mS B hy) (R : RBg B ow hx hy nm n A U T) (N : mm_i hy (B + 66) 1 = mm_i hx B 11) (hm40 : nm ≤ 40) {m : Nat} (hm : m < 40) (l : Int32) : fX12_owes (B + 66) (nI m) l hy = some (nI (owS hx B A U m l n 0), hy) := by
  have n9 := R.1
  unfold fX12_owes
  rw [← nI_0, y_owes_L5 S R N hm40 hm l _ n 0 mm_F 0 (by omega) (by unfold mm_F; omega), Nat.zero_add]
end OW
