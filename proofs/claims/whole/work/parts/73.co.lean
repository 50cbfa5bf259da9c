/-! count -/
def RTp (B : Nat) (hx hy : mm_H) : Prop := ∃ n : Nat, n ≤ 400 ∧ mm_i hx (B + 5) 1 = nI n ∧ mm_i hy (B + 66) 17 = nI n ∧ ∀ k, k < n → mm_i hy (B + 79) k = mm_i hx (B + 6) k
theorem q_ifs {α : Type} (c : Prop) [Decidable c] (a b : α) (h : mm_H) : (if c then some (a, h) else some (b, h)) = some (if c then a else b, h) := by
  by_cases e : c <;> simp [e]
section CT
variable {B : Nat} {h hx hy hx' hy' : mm_H} {ow ow' : Nat → Nat × Nat} {n d nm nl nb nw a : Nat} {am al aw : Nat → Nat} {P C : Nat → Nat} {A U U' : Nat → Nat → Nat} {T : Nat → Int32} {x : Nat}
theorem RTp.up (R : RTp B hx hy) {ms : List Nat} (x : mY B ow ms hx hx') {ms' : List Nat} (y : mY B ow ms' hy hy') (h1 : 9 ∉ ms) (h2 : 109 ∉ ms') : RTp B hx' hy' := by
  obtain ⟨n, a1, a2, a3, a4⟩ := R
  refine ⟨n, a1, (x.iF (m := 9) (by omega) rfl h1).trans a2, (y.iF (m := 109) (by omega) rfl h2).trans a3, fun k hk => ?_⟩
  rw [y.iF (m := 109) (by omega) rfl h2, x.iF (m := 9) (by omega) rfl h1]
  exact a4 k hk
theorem x_allCoins_L7 (S : mS B hx) (L : mL B ow hx (B + 1) 0 8 nm am) (hP : ∀ k, k < nm → mm_i hx (am k) 3 = nI (P k) ∧ P k < 2 ^ 31) (K : Int64 → mm_H → Option (Int64 × mm_H)) : ∀ (e i fuel acc : Nat), i + e = nm → e < fuel → fX11_allCoins_L7 B K fuel (lN acc) (nI i) hx = K (lN (acc + (sumN P nm - sumN P i))) hx := by
  have hsz := x_size (sk1 S) L
  have n9 := L.1
  have hmono : ∀ (e i : Nat), sumN P i ≤ sumN P (i + e) := by
    intro e
    induction e with
    | zero => intro i; exact Nat.le_refl _
    | succ e ih => intro i; rw [← Nat.add_assoc, sumN_s]; have := ih i; omega
  intro e
  induction e with
  | zero =>
    intro i fuel acc hi hf
    obtain ⟨f, rfl⟩ : ∃ f, fuel = f + 1 := ⟨fuel - 1, by omega⟩
    obtain rfl : i = nm := by omega
    show fX11_allCoins_L7_b _ _ _ _ _ _ = _
    unfold fX11_allCoins_L7_b
    simp only [q_rf, q_lt, q_cl, q_jn, q_b, q_b1, q_ck, kd_I, kd_J, kd_R, n_I, n_J, n_R, r_I, r_J, c_I, c_J, c_R, i_J, i_R, j_I, j_R, y_in, y_isDay, x_within, x_isDay, x_isTown, sb_xbase S, hsz]
    rw [if_pos (Int32.le_refl _), Nat.sub_self, Nat.add_zero]
  | succ e ih =>
    intro i fuel acc hi hf
    obtain ⟨f, rfl⟩ : ∃ f, fuel = f + 1 := ⟨fuel - 1, by omega⟩
    have hi2 : i < nm := by omega
    have hg := x_get (sk1 S) L hi2
    have kd8 := (L.2.2.2 i hi2).2
    obtain ⟨p1, p2⟩ := hP i hi2
    have ha : lN acc + lN (P i) = lN (acc + P i) := (Int64.ofNat_add acc (P i)).symm
    show fX11_allCoins_L7_b _ _ _ _ _ _ = _
    unfold fX11_allCoins_L7_b
    simp only [q_rf, q_lt, q_cl, q_jn, q_b, q_b1, q_ck, kd_I, kd_J, kd_R, n_I, n_J, n_R, r_I, r_J, c_I, c_J, c_R, i_J, i_R, j_I, j_R, y_in, y_isDay, x_within, x_isDay, x_isTown, sb_xbase S, hsz, hg, kd8, p1, nI_l p2, ha, nI_1, ih (i + 1) f _ (by omega) (by omega)]
    rw [if_neg (nI_ge (by omega) (by omega))]
    have h1 := hmono e (i + 1)
    rw [show i + 1 + e = nm by omega, sumN_s] at h1
    rw [sumN_s]
    congr 2
    omega
theorem x_allCoins_L44 (S : mS B hx) {C : Nat → Nat} (hC : ∀ k, k < 10 → mm_i hx (B + 4) k = nI (C k) ∧ C k < 2 ^ 31) (K : Int64 → mm_H → Option (Int64 × mm_H)) : ∀ (e i fuel acc : Nat), i + e = 10 → e < fuel → fX11_allCoins_L44 B K fuel (lN acc) (nI i) hx = K (lN (acc + (sumN C 10 - sumN C i))) hx := by
  have hmono : ∀ (e i : Nat), sumN C i ≤ sumN C (i + e) := by
    intro e
    induction e with
    | zero => intro i; exact Nat.le_refl _
    | succ e ih => intro i; rw [← Nat.add_assoc, sumN_s]; have := ih i; omega
  intro e
  induction e with
  | zero =>
    intro i fuel acc hi hf
    obtain ⟨f, rfl⟩ : ∃ f, fuel = f + 1 := ⟨fuel - 1, by omega⟩
    obtain rfl : i = 10 := by omega
    show fX11_allCoins_L44_b _ _ _ _ _ _ = _
    unfold fX11_allCoins_L44_b
    rw [if_pos (by decide +kernel), Nat.sub_self, Nat.add_zero]
  | succ e ih =>
    intro i fuel acc hi hf
    obtain ⟨f, rfl⟩ : ∃ f, fuel = f + 1 := ⟨fuel - 1, by omega⟩
    have hi2 : i < 10 := by omega
    have hq := fun (β : Type) (z : Option β) => q_ckx hi2 (by decide) z
    have hcl := nI_clamp (n := i) (by omega)
    obtain ⟨p1, p2⟩ := hC i hi2
    have ha : lN acc + lN (C i) = lN (acc + C i) := (Int64.ofNat_add acc (C i)).symm
    show fX11_allCoins_L44_b _ _ _ _ _ _ = _
    unfold fX11_allCoins_L44_b
    simp only [q_rf, q_lt, q_cl, q_jn, q_b, q_b1, q_ck, kd_I, kd_J, kd_R, n_I, n_J, n_R, r_I, r_J, c_I, c_J, c_R, i_J, i_R, j_I, j_R, y_in, y_isDay, x_within, x_isDay, x_isTown, sb_xbase S, hq, hcl, p1, nI_l p2, ha, nI_1, ih (i + 1) f _ (by omega) (by omega)]
    rw [if_neg (show ¬ (10 : Int32) ≤ nI i from nI_ge (b := 10) hi2 (by omega))]
    have h1 := hmono e (i + 1)
    rw [show i + 1 + e = 10 by omega, sumN_s (n := i)] at h1
    rw [sumN_s (n := i)]
    congr 2
    omega
theorem y_count_L157 (S : mS B hy) (hn : nm ≤ 40) (M3 : mm_i hy (B + 66) 2 = nI nm) (hP : ∀ k, k < nm → mm_i hy (B + 68) k = nI (P k) ∧ P k < 2 ^ 31) (K : Int64 → mm_H → Option (Int64 × mm_H)) : ∀ (e i fuel acc : Nat), i + e = nm → e < fuel → fX12_count_L157 (B + 66) K fuel (lN acc) (nI i) hy = K (lN (acc + (sumN P nm - sumN P i))) hy := by
  have hmono : ∀ (e i : Nat), sumN P i ≤ sumN P (i + e) := by
    intro e
    induction e with
    | zero => intro i; exact Nat.le_refl _
    | succ e ih => intro i; rw [← Nat.add_assoc, sumN_s]; have := ih i; omega
  intro e
  induction e with
  | zero =>
    intro i fuel acc hi hf
    obtain ⟨f, rfl⟩ : ∃ f, fuel = f + 1 := ⟨fuel - 1, by omega⟩
    obtain rfl : i = nm := by omega
    show fX12_count_L157_b _ _ _ _ _ _ = _
    unfold fX12_count_L157_b
    simp only [q_rf, q_lt, q_cl, q_jn, q_b, q_b1, q_ck, kd_I, kd_J, kd_R, n_I, n_J, n_R, r_I, r_J, c_I, c_J, c_R, i_J, i_R, j_I, j_R, y_in, y_isDay, x_within, x_isDay, x_isTown, sk66 S, M3]
    rw [if_pos (Int32.le_refl _), Nat.sub_self, Nat.add_zero]
  | succ e ih =>
    intro i fuel acc hi hf
    obtain ⟨f, rfl⟩ : ∃ f, fuel = f + 1 := ⟨fuel - 1, by omega⟩
    have hi2 : i < nm := by omega
    have hq := fun (β : Type) (z : Option β) => q_ckx (show i < 40 by omega) (by decide) z
    have hcl := nI_clamp (n := i) (by omega)
    obtain ⟨p1, p2⟩ := hP i hi2
    have ha : lN acc + lN (P i) = lN (acc + P i) := (Int64.ofNat_add acc (P i)).symm
    show fX12_count_L157_b _ _ _ _ _ _ = _
    unfold fX12_count_L157_b
    simp only [q_rf, q_lt, q_cl, q_jn, q_b, q_b1, q_ck, kd_I, kd_J, kd_R, n_I, n_J, n_R, r_I, r_J, c_I, c_J, c_R, i_J, i_R, j_I, j_R, y_in, y_isDay, x_within, x_isDay, x_isTown, sb_ymen S, M3, hq, hcl, p1, nI_l p2, ha, nI_1, ih (i + 1) f _ (by omega) (by omega)]
    rw [if_neg (nI_ge (by omega) (by omega))]
    have h1 := hmono e (i + 1)
    rw [show i + 1 + e = nm by omega, sumN_s] at h1
    rw [sumN_s]
    congr 2
    omega
theorem y_count_L186 (S : mS B hy) {C : Nat → Nat} (hC : ∀ k, k < 10 → mm_i hy (B + 72) k = nI (C k) ∧ C k < 2 ^ 31) (K : Int64 → mm_H → Option (Int64 × mm_H)) : ∀ (e i fuel acc : Nat), i + e = 10 → e < fuel → fX12_count_L186 (B + 66) K fuel (lN acc) (nI i) hy = K (lN (acc + (sumN C 10 - sumN C i))) hy := by
  have hmono : ∀ (e i : Nat), sumN C i ≤ sumN C (i + e) := by
    intro e
    induction e with
    | zero => intro i; exact Nat.le_refl _
    | succ e ih => intro i; rw [← Nat.add_assoc, sumN_s]; have := ih i; omega
  intro e
  induction e with
  | zero =>
    intro i fuel acc hi hf
    obtain ⟨f, rfl⟩ : ∃ f, fuel = f + 1 := ⟨fuel - 1, by omega⟩
    obtain rfl : i = 10 := by omega
    show fX12_count_L186_b _ _ _ _ _ _ = _
    unfold fX12_count_L186_b
    rw [if_pos (by decide +kernel), Nat.sub_self, Nat.add_zero]
  | succ e ih =>
    intro i fuel acc hi hf
    obtain ⟨f, rfl⟩ : ∃ f, fuel = f + 1 := ⟨fuel - 1, by omega⟩
    have hi2 : i < 10 := by omega
    have hq := fun (β : Type) (z : Option β) => q_ckx hi2 (by decide) z
    have hcl := nI_clamp (n := i) (by omega)
    obtain ⟨p1, p2⟩ := hC i hi2
    have ha : lN acc + lN (C i) = lN (acc + C i) := (Int64.ofNat_add acc (C i)).symm
    show fX12_count_L186_b _ _ _ _ _ _ = _
    unfold fX12_count_L186_b
    simp only [q_rf, q_lt, q_cl, q_jn, q_b, q_b1, q_ck, kd_I, kd_J, kd_R, n_I, n_J, n_R, r_I, r_J, c_I, c_J, c_R, i_J, i_R, j_I, j_R, y_in, y_isDay, x_within, x_isDay, x_isTown, sb_ymen S, hq, hcl, p1, nI_l p2, ha, nI_1, ih (i + 1) f _ (by omega) (by omega)]
    rw [if_neg (show ¬ (9 : Int32) < nI i from nI_nlt (a := 9) (b := i) (by omega) (by omega))]
    have h1 := hmono e (i + 1)
    rw [show i + 1 + e = 10 by omega, sumN_s (n := i)] at h1
    rw [sumN_s (n := i)]
    congr 2
    omega
theorem T_count (S : mS B h) (N : RNow B h) (M : RMn B ow h h nm am) (L : RLt B ow h h nm nl al) (R : RBg B ow h h nm nb A U T) (Q : RCo B h h nm am P C) (W : mL B ow h (B + 14) 3 5 nw aw ∧ mm_i h (B + 66) 23 = nI nw) (We : RWe B h) (Sh : RSh B h) (Ne : RNe B h) (Po : RPo B h) (Tp : RTp B h h) (Ha : RHa B h) (Bk : RBk B h) (b : Int32) : ∃ r, fX11_count B b h = some (r, h) ∧ fX12_count (B + 66) b h = some (r, h) := by
  obtain ⟨M1, M2, M3, M4⟩ := id M
  have z1 := x_size (sk1 S) M2
  have z2 := x_size (sk2 S) L.2.1
  have z3 := x_size (sk3 S) R.2.1
  have z4 := x_size (sk14 S) W.1
  obtain ⟨n1', _, w1, w2, _⟩ := We
  obtain ⟨n2', _, s1, s2, _⟩ := Sh
  obtain ⟨n3', _, n1, n2, _⟩ := Ne
  obtain ⟨n4', _, p1, p2, _⟩ := Po
  obtain ⟨n5', _, t1, t2, _⟩ := Tp
  obtain ⟨⟨n6', _, h1, h2, _⟩, _⟩ := Ha
  obtain ⟨n7', n8', ⟨⟨_, k1, k2, _⟩, _, k3, k4, _⟩, _⟩ := Bk
  have hP1 : ∀ k, k < nm → mm_i h (am k) 3 = nI (P k) ∧ P k < 2 ^ 31 := fun k hk => ⟨(Q.2.1 k hk).1, by have := sumN_at (f := P) hk; have := Q.2.2.2; omega⟩
  have hP2 : ∀ k, k < nm → mm_i h (B + 68) k = nI (P k) ∧ P k < 2 ^ 31 := fun k hk => ⟨(Q.2.1 k hk).2, (hP1 k hk).2⟩
  have hC1 : ∀ k, k < 10 → mm_i h (B + 4) k = nI (C k) ∧ C k < 2 ^ 31 := fun k hk => ⟨(Q.2.2.1 k hk).1, by have := sumN_at (f := C) hk; have := Q.2.2.2; omega⟩
  have hC2 : ∀ k, k < 10 → mm_i h (B + 72) k = nI (C k) ∧ C k < 2 ^ 31 := fun k hk => ⟨(Q.2.2.1 k hk).2, (hC1 k hk).2⟩
  have l0 : (0 : Int64) = lN 0 := by decide +kernel
  have a1 : fX11_allCoins B h = some (lN (sumN P nm + sumN C 10), h) := by
    unfold fX11_allCoins
    have e1 := fun a => x_allCoins_L44 S hC1 (fun z29 g30 => some (z29, g30)) 10 0 mm_F a (by omega) (by unfold mm_F; omega)
    have e2 := x_allCoins_L7 S M2 hP1 (fun z20 g21 => fX11_allCoins_L44 B (fun z29 g30 => some (z29, g30)) mm_F z20 0 g21) nm 0 mm_F 0 (by omega) (by unfold mm_F; omega)
    rw [nI_0] at e2
    simp only [nI_0] at e1
    rw [q_ck (sk0 S), q_lt, Q.1, l0, e2, e1]
    congr 3
    simp only [sumN]
    omega
  have a2 : fX12_count_L157 (B + 66) (fun z41 g42 => fX12_count_L186 (B + 66) (fun z50 g51 => some (z50, g51)) mm_F z41 0 g42) mm_F 0 0 h = some (lN (sumN P nm + sumN C 10), h) := by
    have e1 := fun a => y_count_L186 S hC2 (fun z29 g30 => some (z29, g30)) 10 0 mm_F a (by omega) (by unfold mm_F; omega)
    have e2 := y_count_L157 S M1 M3 hP2 (fun z20 g21 => fX12_count_L186 (B + 66) (fun z29 g30 => some (z29, g30)) mm_F z20 0 g21) nm 0 mm_F 0 (by omega) (by unfold mm_F; omega)
    rw [nI_0] at e2
    simp only [nI_0] at e1
    rw [l0, e2, e1]
    congr 3
    simp only [sumN]
    omega
  refine ⟨_, by
    unfold fX11_count
    simp only [q_rf, q_lt, q_cl, q_jn, q_b, q_b1, q_ck, kd_I, kd_J, kd_R, n_I, n_J, n_R, r_I, r_J, c_I, c_J, c_R, i_J, i_R, j_I, j_R, y_in, y_isDay, x_within, x_isDay, x_isTown, sb_xbase S, sb_xcourt S, sk17 S, sk23 S, sk5 S, sk47 S, sk52 S, sk53 S, sn53 S, sr0_4 S, sr0_6 S, sr0_7 S, sr0_9 S, sr0_10 S, sr52_0 S, q_ix0, q_ix1, q_c0, q_c1, z1, z2, z3, z4, w1, s1, n1, p1, t1, h1, k1, k3, a1, q_ifs]
    rfl, ?_⟩
  unfold fX12_count
  simp only [q_rf, q_lt, q_cl, q_jn, q_b, q_b1, q_ck, kd_I, kd_J, kd_R, n_I, n_J, n_R, r_I, r_J, c_I, c_J, c_R, i_J, i_R, j_I, j_R, y_in, y_isDay, x_within, x_isDay, x_isTown, sb_ybooks S, q_ix0, q_ix1, q_c0, q_c1, N.1, M3, L.2.2.1, W.2, R.2.2.1, w2, s2, n2, p2, t2, h2, k2, k4, a2, q_ifs]
end CT
