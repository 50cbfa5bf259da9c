/-! the turns -/
section RC
variable {B L j : Nat} {xs : Nat → Int32} {h : mm_H}
theorem Rl.k0 (R : Rl B h) : mm_kd h B = 12 := by
  obtain ⟨ow, nm, am, P, C, nl, al, nb, A, U, T, tn, td, ta, nw, V, Z, G, E, S, _⟩ := R
  exact sk0 S
theorem ix_k {c : Nat} (hc : c < 8) (hL : L ≤ 4096) (hj : 8 * j + 8 ≤ L) {β : Type} (k : Option β) : mm_ck (mm_ix (nI (8 * j) + nI c) L) k = k := by
  rw [nI_add]
  exact q_ckx (by omega) (by omega) k
theorem pz_0 (hL : L ≤ 4096) (hj : 8 * j + 8 ≤ L) (R : Rl B h) : ∃ h2 : mm_H, (∀ K, fL_c0 L xs B (B + 66) (nI (8 * j)) K h = K h2) ∧ Rl B h2 := by
  have S0 : mm_kd h B = 12 := Rl.k0 R
  have i1 := fun (β : Type) (q : Option β) => ix_k (c := 1) (by decide) hL hj q
  have e1 : (nI 1 : Int32) = 1 := rfl
  simp only [e1] at i1
  obtain ⟨r, h1, h2, f1, k1, f2, R2⟩ := gz_clock R (xs (Int32.toNatClampNeg (nI (8 * j) + (1 : Int32))))
  refine ⟨h2, fun K => ?_, R2⟩
  unfold fL_c0
  simp only [i1, q_ck S0, f1, p_cl, q_ck k1, f2, eq_self, if_true]
theorem pz_1 (hL : L ≤ 4096) (hj : 8 * j + 8 ≤ L) (R : Rl B h) : ∃ h2 : mm_H, (∀ K, fL_c1 L xs B (B + 66) (nI (8 * j)) K h = K h2) ∧ Rl B h2 := by
  have S0 : mm_kd h B = 12 := Rl.k0 R
  have i1 := fun (β : Type) (q : Option β) => ix_k (c := 1) (by decide) hL hj q
  have i2 := fun (β : Type) (q : Option β) => ix_k (c := 2) (by decide) hL hj q
  have i3 := fun (β : Type) (q : Option β) => ix_k (c := 3) (by decide) hL hj q
  have e1 : (nI 1 : Int32) = 1 := rfl
  have e2 : (nI 2 : Int32) = 2 := rfl
  have e3 : (nI 3 : Int32) = 3 := rfl
  simp only [e1, e2, e3] at i1 i2 i3
  obtain ⟨b, hb, eb⟩ : ∃ b : Int32, (b = 0 ∨ b = 1) ∧ ∀ (q : Int32 → Option (Int32 × mm_H)), (if (xs (Int32.toNatClampNeg (nI (8 * j) + (2 : Int32)))) = 0 then q (0 : Int32) else q (1 : Int32)) = q b := by
    by_cases e : (xs (Int32.toNatClampNeg (nI (8 * j) + (2 : Int32)))) = 0
    · exact ⟨0, Or.inl rfl, fun q => if_pos e⟩
    · exact ⟨1, Or.inr rfl, fun q => if_neg e⟩
  obtain ⟨r, h1, h2, f1, k1, f2, R2⟩ := gz_man R (xs (Int32.toNatClampNeg (nI (8 * j) + (1 : Int32)))) b (xs (Int32.toNatClampNeg (nI (8 * j) + (3 : Int32)))) hb
  refine ⟨h2, fun K => ?_, R2⟩
  unfold fL_c1
  simp only [i1, i2, i3, p_jn, eb, q_ck S0, f1, p_cl, q_ck k1, f2, eq_self, if_true]
theorem pz_2 (hL : L ≤ 4096) (hj : 8 * j + 8 ≤ L) (R : Rl B h) : ∃ h2 : mm_H, (∀ K, fL_c2 L xs B (B + 66) (nI (8 * j)) K h = K h2) ∧ Rl B h2 := by
  have S0 : mm_kd h B = 12 := Rl.k0 R
  have i1 := fun (β : Type) (q : Option β) => ix_k (c := 1) (by decide) hL hj q
  have e1 : (nI 1 : Int32) = 1 := rfl
  simp only [e1] at i1
  obtain ⟨r, h1, h2, f1, k1, f2, R2⟩ := gz_leave R (xs (Int32.toNatClampNeg (nI (8 * j) + (1 : Int32))))
  refine ⟨h2, fun K => ?_, R2⟩
  unfold fL_c2
  simp only [i1, q_ck S0, f1, p_cl, q_ck k1, f2, eq_self, if_true]
theorem pz_3 (hL : L ≤ 4096) (hj : 8 * j + 8 ≤ L) (R : Rl B h) : ∃ h2 : mm_H, (∀ K, fL_c3 L xs B (B + 66) (nI (8 * j)) K h = K h2) ∧ Rl B h2 := by
  have S0 : mm_kd h B = 12 := Rl.k0 R
  have i1 := fun (β : Type) (q : Option β) => ix_k (c := 1) (by decide) hL hj q
  have e1 : (nI 1 : Int32) = 1 := rfl
  simp only [e1] at i1
  obtain ⟨r, h1, h2, f1, k1, f2, R2⟩ := gz_die R (xs (Int32.toNatClampNeg (nI (8 * j) + (1 : Int32))))
  refine ⟨h2, fun K => ?_, R2⟩
  unfold fL_c3
  simp only [i1, q_ck S0, f1, p_cl, q_ck k1, f2, eq_self, if_true]
theorem pz_4 (hL : L ≤ 4096) (hj : 8 * j + 8 ≤ L) (R : Rl B h) : ∃ h2 : mm_H, (∀ K, fL_c4 L xs B (B + 66) (nI (8 * j)) K h = K h2) ∧ Rl B h2 := by
  have S0 : mm_kd h B = 12 := Rl.k0 R
  have i1 := fun (β : Type) (q : Option β) => ix_k (c := 1) (by decide) hL hj q
  have i2 := fun (β : Type) (q : Option β) => ix_k (c := 2) (by decide) hL hj q
  have i3 := fun (β : Type) (q : Option β) => ix_k (c := 3) (by decide) hL hj q
  have e1 : (nI 1 : Int32) = 1 := rfl
  have e2 : (nI 2 : Int32) = 2 := rfl
  have e3 : (nI 3 : Int32) = 3 := rfl
  simp only [e1, e2, e3] at i1 i2 i3
  obtain ⟨r, h1, h2, f1, k1, f2, R2⟩ := gz_bring R (xs (Int32.toNatClampNeg (nI (8 * j) + (1 : Int32)))) (xs (Int32.toNatClampNeg (nI (8 * j) + (2 : Int32)))) (xs (Int32.toNatClampNeg (nI (8 * j) + (3 : Int32))))
  refine ⟨h2, fun K => ?_, R2⟩
  unfold fL_c4
  simp only [i1, i2, i3, q_ck S0, f1, p_cl, q_ck k1, f2, eq_self, if_true]
theorem pz_5 (hL : L ≤ 4096) (hj : 8 * j + 8 ≤ L) (R : Rl B h) : ∃ h2 : mm_H, (∀ K, fL_c5 L xs B (B + 66) (nI (8 * j)) K h = K h2) ∧ Rl B h2 := by
  have S0 : mm_kd h B = 12 := Rl.k0 R
  have i1 := fun (β : Type) (q : Option β) => ix_k (c := 1) (by decide) hL hj q
  have i2 := fun (β : Type) (q : Option β) => ix_k (c := 2) (by decide) hL hj q
  have e1 : (nI 1 : Int32) = 1 := rfl
  have e2 : (nI 2 : Int32) = 2 := rfl
  simp only [e1, e2] at i1 i2
  obtain ⟨r, f1, k1, f2⟩ := gz_lot R (xs (Int32.toNatClampNeg (nI (8 * j) + (1 : Int32)))) (xs (Int32.toNatClampNeg (nI (8 * j) + (2 : Int32))))
  refine ⟨h, fun K => ?_, R⟩
  unfold fL_c5
  simp only [i1, i2, q_ck S0, f1, p_cl, q_ck k1, f2, eq_self, if_true]
theorem pz_6 (hL : L ≤ 4096) (hj : 8 * j + 8 ≤ L) (R : Rl B h) : ∃ h2 : mm_H, (∀ K, fL_c6 L xs B (B + 66) (nI (8 * j)) K h = K h2) ∧ Rl B h2 := by
  have S0 : mm_kd h B = 12 := Rl.k0 R
  have i1 := fun (β : Type) (q : Option β) => ix_k (c := 1) (by decide) hL hj q
  have i2 := fun (β : Type) (q : Option β) => ix_k (c := 2) (by decide) hL hj q
  have e1 : (nI 1 : Int32) = 1 := rfl
  have e2 : (nI 2 : Int32) = 2 := rfl
  simp only [e1, e2] at i1 i2
  obtain ⟨r, f1, k1, f2⟩ := gz_men R (xs (Int32.toNatClampNeg (nI (8 * j) + (1 : Int32)))) (xs (Int32.toNatClampNeg (nI (8 * j) + (2 : Int32))))
  refine ⟨h, fun K => ?_, R⟩
  unfold fL_c6
  simp only [i1, i2, q_ck S0, f1, p_cl, q_ck k1, f2, eq_self, if_true]
theorem pz_7 (hL : L ≤ 4096) (hj : 8 * j + 8 ≤ L) (R : Rl B h) : ∃ h2 : mm_H, (∀ K, fL_c7 L xs B (B + 66) (nI (8 * j)) K h = K h2) ∧ Rl B h2 := by
  have S0 : mm_kd h B = 12 := Rl.k0 R
  have i1 := fun (β : Type) (q : Option β) => ix_k (c := 1) (by decide) hL hj q
  have i2 := fun (β : Type) (q : Option β) => ix_k (c := 2) (by decide) hL hj q
  have i3 := fun (β : Type) (q : Option β) => ix_k (c := 3) (by decide) hL hj q
  have i4 := fun (β : Type) (q : Option β) => ix_k (c := 4) (by decide) hL hj q
  have i5 := fun (β : Type) (q : Option β) => ix_k (c := 5) (by decide) hL hj q
  have e1 : (nI 1 : Int32) = 1 := rfl
  have e2 : (nI 2 : Int32) = 2 := rfl
  have e3 : (nI 3 : Int32) = 3 := rfl
  have e4 : (nI 4 : Int32) = 4 := rfl
  have e5 : (nI 5 : Int32) = 5 := rfl
  simp only [e1, e2, e3, e4, e5] at i1 i2 i3 i4 i5
  obtain ⟨r, h1, h2, f1, k1, f2, R2⟩ := gz_feed R (xs (Int32.toNatClampNeg (nI (8 * j) + (1 : Int32)))) (xs (Int32.toNatClampNeg (nI (8 * j) + (2 : Int32)))) (xs (Int32.toNatClampNeg (nI (8 * j) + (3 : Int32)))) (xs (Int32.toNatClampNeg (nI (8 * j) + (4 : Int32)))) (xs (Int32.toNatClampNeg (nI (8 * j) + (5 : Int32))))
  refine ⟨h2, fun K => ?_, R2⟩
  unfold fL_c7
  simp only [i1, i2, i3, i4, i5, q_ck S0, f1, p_cl, q_ck k1, f2, eq_self, if_true]
theorem pz_8 (hL : L ≤ 4096) (hj : 8 * j + 8 ≤ L) (R : Rl B h) : ∃ h2 : mm_H, (∀ K, fL_c8 L xs B (B + 66) (nI (8 * j)) K h = K h2) ∧ Rl B h2 := by
  have S0 : mm_kd h B = 12 := Rl.k0 R
  have i1 := fun (β : Type) (q : Option β) => ix_k (c := 1) (by decide) hL hj q
  have e1 : (nI 1 : Int32) = 1 := rfl
  simp only [e1] at i1
  obtain ⟨r, h1, h2, f1, k1, f2, R2⟩ := gz_end R (xs (Int32.toNatClampNeg (nI (8 * j) + (1 : Int32))))
  refine ⟨h2, fun K => ?_, R2⟩
  unfold fL_c8
  simp only [i1, q_ck S0, f1, p_cl, q_ck k1, f2, eq_self, if_true]
theorem pz_9 (hL : L ≤ 4096) (hj : 8 * j + 8 ≤ L) (R : Rl B h) : ∃ h2 : mm_H, (∀ K, fL_c9 L xs B (B + 66) (nI (8 * j)) K h = K h2) ∧ Rl B h2 := by
  have S0 : mm_kd h B = 12 := Rl.k0 R
  have i1 := fun (β : Type) (q : Option β) => ix_k (c := 1) (by decide) hL hj q
  have i2 := fun (β : Type) (q : Option β) => ix_k (c := 2) (by decide) hL hj q
  have e1 : (nI 1 : Int32) = 1 := rfl
  have e2 : (nI 2 : Int32) = 2 := rfl
  simp only [e1, e2] at i1 i2
  obtain ⟨r, h1, h2, f1, k1, f2, R2⟩ := gz_law R (xs (Int32.toNatClampNeg (nI (8 * j) + (1 : Int32)))) (xs (Int32.toNatClampNeg (nI (8 * j) + (2 : Int32))))
  refine ⟨h2, fun K => ?_, R2⟩
  unfold fL_c9
  simp only [i1, i2, q_ck S0, f1, p_cl, q_ck k1, f2, eq_self, if_true]
theorem pz_10 (hL : L ≤ 4096) (hj : 8 * j + 8 ≤ L) (R : Rl B h) : ∃ h2 : mm_H, (∀ K, fL_c10 L xs B (B + 66) (nI (8 * j)) K h = K h2) ∧ Rl B h2 := by
  have S0 : mm_kd h B = 12 := Rl.k0 R
  have i1 := fun (β : Type) (q : Option β) => ix_k (c := 1) (by decide) hL hj q
  have e1 : (nI 1 : Int32) = 1 := rfl
  simp only [e1] at i1
  obtain ⟨r, h1, h2, f1, k1, f2, R2⟩ := gz_read R (xs (Int32.toNatClampNeg (nI (8 * j) + (1 : Int32))))
  refine ⟨h2, fun K => ?_, R2⟩
  unfold fL_c10
  simp only [i1, q_ck S0, f1, p_cl, q_ck k1, f2, eq_self, if_true]
theorem pz_11 (hL : L ≤ 4096) (hj : 8 * j + 8 ≤ L) (R : Rl B h) : ∃ h2 : mm_H, (∀ K, fL_c11 L xs B (B + 66) (nI (8 * j)) K h = K h2) ∧ Rl B h2 := by
  have S0 : mm_kd h B = 12 := Rl.k0 R
  have i1 := fun (β : Type) (q : Option β) => ix_k (c := 1) (by decide) hL hj q
  have i2 := fun (β : Type) (q : Option β) => ix_k (c := 2) (by decide) hL hj q
  have e1 : (nI 1 : Int32) = 1 := rfl
  have e2 : (nI 2 : Int32) = 2 := rfl
  simp only [e1, e2] at i1 i2
  obtain ⟨r, f1, k1, f2⟩ := gz_laws R (xs (Int32.toNatClampNeg (nI (8 * j) + (1 : Int32)))) (xs (Int32.toNatClampNeg (nI (8 * j) + (2 : Int32))))
  refine ⟨h, fun K => ?_, R⟩
  unfold fL_c11
  simp only [i1, i2, q_ck S0, f1, p_cl, q_ck k1, f2, eq_self, if_true]
theorem pz_12 (hL : L ≤ 4096) (hj : 8 * j + 8 ≤ L) (R : Rl B h) : ∃ h2 : mm_H, (∀ K, fL_c12 L xs B (B + 66) (nI (8 * j)) K h = K h2) ∧ Rl B h2 := by
  have S0 : mm_kd h B = 12 := Rl.k0 R
  have i1 := fun (β : Type) (q : Option β) => ix_k (c := 1) (by decide) hL hj q
  have i2 := fun (β : Type) (q : Option β) => ix_k (c := 2) (by decide) hL hj q
  have e1 : (nI 1 : Int32) = 1 := rfl
  have e2 : (nI 2 : Int32) = 2 := rfl
  simp only [e1, e2] at i1 i2
  obtain ⟨r, f1, k1, f2⟩ := gz_force R (xs (Int32.toNatClampNeg (nI (8 * j) + (1 : Int32)))) (xs (Int32.toNatClampNeg (nI (8 * j) + (2 : Int32))))
  refine ⟨h, fun K => ?_, R⟩
  unfold fL_c12
  simp only [i1, i2, q_ck S0, f1, p_cl, q_ck k1, f2, eq_self, if_true]
theorem pz_13 (hL : L ≤ 4096) (hj : 8 * j + 8 ≤ L) (R : Rl B h) : ∃ h2 : mm_H, (∀ K, fL_c13 L xs B (B + 66) (nI (8 * j)) K h = K h2) ∧ Rl B h2 := by
  have S0 : mm_kd h B = 12 := Rl.k0 R
  have i1 := fun (β : Type) (q : Option β) => ix_k (c := 1) (by decide) hL hj q
  have i2 := fun (β : Type) (q : Option β) => ix_k (c := 2) (by decide) hL hj q
  have i3 := fun (β : Type) (q : Option β) => ix_k (c := 3) (by decide) hL hj q
  have i4 := fun (β : Type) (q : Option β) => ix_k (c := 4) (by decide) hL hj q
  have i5 := fun (β : Type) (q : Option β) => ix_k (c := 5) (by decide) hL hj q
  have i6 := fun (β : Type) (q : Option β) => ix_k (c := 6) (by decide) hL hj q
  have i7 := fun (β : Type) (q : Option β) => ix_k (c := 7) (by decide) hL hj q
  have e1 : (nI 1 : Int32) = 1 := rfl
  have e2 : (nI 2 : Int32) = 2 := rfl
  have e3 : (nI 3 : Int32) = 3 := rfl
  have e4 : (nI 4 : Int32) = 4 := rfl
  have e5 : (nI 5 : Int32) = 5 := rfl
  have e6 : (nI 6 : Int32) = 6 := rfl
  have e7 : (nI 7 : Int32) = 7 := rfl
  simp only [e1, e2, e3, e4, e5, e6, e7] at i1 i2 i3 i4 i5 i6 i7
  obtain ⟨r, h1, h2, f1, k1, f2, R2⟩ := gz_verdict R (xs (Int32.toNatClampNeg (nI (8 * j) + (1 : Int32)))) (xs (Int32.toNatClampNeg (nI (8 * j) + (2 : Int32)))) (xs (Int32.toNatClampNeg (nI (8 * j) + (3 : Int32)))) (xs (Int32.toNatClampNeg (nI (8 * j) + (4 : Int32)))) (xs (Int32.toNatClampNeg (nI (8 * j) + (5 : Int32)))) (xs (Int32.toNatClampNeg (nI (8 * j) + (6 : Int32)))) (xs (Int32.toNatClampNeg (nI (8 * j) + (7 : Int32))))
  refine ⟨h2, fun K => ?_, R2⟩
  unfold fL_c13
  simp only [i1, i2, i3, i4, i5, i6, i7, q_ck S0, f1, p_cl, q_ck k1, f2, eq_self, if_true]
theorem pz_14 (hL : L ≤ 4096) (hj : 8 * j + 8 ≤ L) (R : Rl B h) : ∃ h2 : mm_H, (∀ K, fL_c14 L xs B (B + 66) (nI (8 * j)) K h = K h2) ∧ Rl B h2 := by
  have S0 : mm_kd h B = 12 := Rl.k0 R
  have i1 := fun (β : Type) (q : Option β) => ix_k (c := 1) (by decide) hL hj q
  have e1 : (nI 1 : Int32) = 1 := rfl
  simp only [e1] at i1
  obtain ⟨r, f1, k1, f2⟩ := gz_told R (xs (Int32.toNatClampNeg (nI (8 * j) + (1 : Int32))))
  refine ⟨h, fun K => ?_, R⟩
  unfold fL_c14
  simp only [i1, q_ck S0, f1, p_cl, q_ck k1, f2, eq_self, if_true]
theorem pz_15 (hL : L ≤ 4096) (hj : 8 * j + 8 ≤ L) (R : Rl B h) : ∃ h2 : mm_H, (∀ K, fL_c15 L xs B (B + 66) (nI (8 * j)) K h = K h2) ∧ Rl B h2 := by
  have S0 : mm_kd h B = 12 := Rl.k0 R
  have i1 := fun (β : Type) (q : Option β) => ix_k (c := 1) (by decide) hL hj q
  have i2 := fun (β : Type) (q : Option β) => ix_k (c := 2) (by decide) hL hj q
  have i3 := fun (β : Type) (q : Option β) => ix_k (c := 3) (by decide) hL hj q
  have e1 : (nI 1 : Int32) = 1 := rfl
  have e2 : (nI 2 : Int32) = 2 := rfl
  have e3 : (nI 3 : Int32) = 3 := rfl
  simp only [e1, e2, e3] at i1 i2 i3
  obtain ⟨r, h1, h2, f1, k1, f2, R2⟩ := gz_shut R (xs (Int32.toNatClampNeg (nI (8 * j) + (1 : Int32)))) (xs (Int32.toNatClampNeg (nI (8 * j) + (2 : Int32)))) (xs (Int32.toNatClampNeg (nI (8 * j) + (3 : Int32))))
  refine ⟨h2, fun K => ?_, R2⟩
  unfold fL_c15
  simp only [i1, i2, i3, q_ck S0, f1, p_cl, q_ck k1, f2, eq_self, if_true]
theorem pz_16 (hL : L ≤ 4096) (hj : 8 * j + 8 ≤ L) (R : Rl B h) : ∃ h2 : mm_H, (∀ K, fL_c16 L xs B (B + 66) (nI (8 * j)) K h = K h2) ∧ Rl B h2 := by
  have S0 : mm_kd h B = 12 := Rl.k0 R
  have i1 := fun (β : Type) (q : Option β) => ix_k (c := 1) (by decide) hL hj q
  have e1 : (nI 1 : Int32) = 1 := rfl
  simp only [e1] at i1
  obtain ⟨r, h1, h2, f1, k1, f2, R2⟩ := gz_readShut R (xs (Int32.toNatClampNeg (nI (8 * j) + (1 : Int32))))
  refine ⟨h2, fun K => ?_, R2⟩
  unfold fL_c16
  simp only [i1, q_ck S0, f1, p_cl, q_ck k1, f2, eq_self, if_true]
theorem pz_17 (hL : L ≤ 4096) (hj : 8 * j + 8 ≤ L) (R : Rl B h) : ∃ h2 : mm_H, (∀ K, fL_c17 L xs B (B + 66) (nI (8 * j)) K h = K h2) ∧ Rl B h2 := by
  have S0 : mm_kd h B = 12 := Rl.k0 R
  have i1 := fun (β : Type) (q : Option β) => ix_k (c := 1) (by decide) hL hj q
  have i2 := fun (β : Type) (q : Option β) => ix_k (c := 2) (by decide) hL hj q
  have i3 := fun (β : Type) (q : Option β) => ix_k (c := 3) (by decide) hL hj q
  have e1 : (nI 1 : Int32) = 1 := rfl
  have e2 : (nI 2 : Int32) = 2 := rfl
  have e3 : (nI 3 : Int32) = 3 := rfl
  simp only [e1, e2, e3] at i1 i2 i3
  obtain ⟨r, f1, k1, f2⟩ := gz_isShut R (xs (Int32.toNatClampNeg (nI (8 * j) + (1 : Int32)))) (xs (Int32.toNatClampNeg (nI (8 * j) + (2 : Int32)))) (xs (Int32.toNatClampNeg (nI (8 * j) + (3 : Int32))))
  refine ⟨h, fun K => ?_, R⟩
  unfold fL_c17
  simp only [i1, i2, i3, q_ck S0, f1, p_cl, q_ck k1, f2, eq_self, if_true]
theorem pz_18 (hL : L ≤ 4096) (hj : 8 * j + 8 ≤ L) (R : Rl B h) : ∃ h2 : mm_H, (∀ K, fL_c18 L xs B (B + 66) (nI (8 * j)) K h = K h2) ∧ Rl B h2 := by
  have S0 : mm_kd h B = 12 := Rl.k0 R
  have i1 := fun (β : Type) (q : Option β) => ix_k (c := 1) (by decide) hL hj q
  have i2 := fun (β : Type) (q : Option β) => ix_k (c := 2) (by decide) hL hj q
  have i3 := fun (β : Type) (q : Option β) => ix_k (c := 3) (by decide) hL hj q
  have i4 := fun (β : Type) (q : Option β) => ix_k (c := 4) (by decide) hL hj q
  have i5 := fun (β : Type) (q : Option β) => ix_k (c := 5) (by decide) hL hj q
  have i6 := fun (β : Type) (q : Option β) => ix_k (c := 6) (by decide) hL hj q
  have i7 := fun (β : Type) (q : Option β) => ix_k (c := 7) (by decide) hL hj q
  have e1 : (nI 1 : Int32) = 1 := rfl
  have e2 : (nI 2 : Int32) = 2 := rfl
  have e3 : (nI 3 : Int32) = 3 := rfl
  have e4 : (nI 4 : Int32) = 4 := rfl
  have e5 : (nI 5 : Int32) = 5 := rfl
  have e6 : (nI 6 : Int32) = 6 := rfl
  have e7 : (nI 7 : Int32) = 7 := rfl
  simp only [e1, e2, e3, e4, e5, e6, e7] at i1 i2 i3 i4 i5 i6 i7
  obtain ⟨r, h1, h2, f1, k1, f2, R2⟩ := gz_deal R (xs (Int32.toNatClampNeg (nI (8 * j) + (1 : Int32)))) (xs (Int32.toNatClampNeg (nI (8 * j) + (2 : Int32)))) (xs (Int32.toNatClampNeg (nI (8 * j) + (3 : Int32)))) (xs (Int32.toNatClampNeg (nI (8 * j) + (4 : Int32)))) (xs (Int32.toNatClampNeg (nI (8 * j) + (5 : Int32)))) (xs (Int32.toNatClampNeg (nI (8 * j) + (6 : Int32)))) (xs (Int32.toNatClampNeg (nI (8 * j) + (7 : Int32))))
  refine ⟨h2, fun K => ?_, R2⟩
  unfold fL_c18
  simp only [i1, i2, i3, i4, i5, i6, i7, q_ck S0, f1, p_cl, q_ck k1, f2, eq_self, if_true]
theorem pz_19 (hL : L ≤ 4096) (hj : 8 * j + 8 ≤ L) (R : Rl B h) : ∃ h2 : mm_H, (∀ K, fL_c19 L xs B (B + 66) (nI (8 * j)) K h = K h2) ∧ Rl B h2 := by
  have S0 : mm_kd h B = 12 := Rl.k0 R
  have i1 := fun (β : Type) (q : Option β) => ix_k (c := 1) (by decide) hL hj q
  have i2 := fun (β : Type) (q : Option β) => ix_k (c := 2) (by decide) hL hj q
  have e1 : (nI 1 : Int32) = 1 := rfl
  have e2 : (nI 2 : Int32) = 2 := rfl
  simp only [e1, e2] at i1 i2
  obtain ⟨r, f1, k1, f2⟩ := gz_bargain R (xs (Int32.toNatClampNeg (nI (8 * j) + (1 : Int32)))) (xs (Int32.toNatClampNeg (nI (8 * j) + (2 : Int32))))
  refine ⟨h, fun K => ?_, R⟩
  unfold fL_c19
  simp only [i1, i2, q_ck S0, f1, p_cl, q_ck k1, f2, eq_self, if_true]
theorem pz_20 (hL : L ≤ 4096) (hj : 8 * j + 8 ≤ L) (R : Rl B h) : ∃ h2 : mm_H, (∀ K, fL_c20 L xs B (B + 66) (nI (8 * j)) K h = K h2) ∧ Rl B h2 := by
  have S0 : mm_kd h B = 12 := Rl.k0 R
  have i1 := fun (β : Type) (q : Option β) => ix_k (c := 1) (by decide) hL hj q
  have i2 := fun (β : Type) (q : Option β) => ix_k (c := 2) (by decide) hL hj q
  have e1 : (nI 1 : Int32) = 1 := rfl
  have e2 : (nI 2 : Int32) = 2 := rfl
  simp only [e1, e2] at i1 i2
  obtain ⟨r, h1, h2, f1, k1, f2, R2⟩ := gz_surety R (xs (Int32.toNatClampNeg (nI (8 * j) + (1 : Int32)))) (xs (Int32.toNatClampNeg (nI (8 * j) + (2 : Int32))))
  refine ⟨h2, fun K => ?_, R2⟩
  unfold fL_c20
  simp only [i1, i2, q_ck S0, f1, p_cl, q_ck k1, f2, eq_self, if_true]
theorem pz_21 (hL : L ≤ 4096) (hj : 8 * j + 8 ≤ L) (R : Rl B h) : ∃ h2 : mm_H, (∀ K, fL_c21 L xs B (B + 66) (nI (8 * j)) K h = K h2) ∧ Rl B h2 := by
  have S0 : mm_kd h B = 12 := Rl.k0 R
  have i1 := fun (β : Type) (q : Option β) => ix_k (c := 1) (by decide) hL hj q
  have i2 := fun (β : Type) (q : Option β) => ix_k (c := 2) (by decide) hL hj q
  have i3 := fun (β : Type) (q : Option β) => ix_k (c := 3) (by decide) hL hj q
  have e1 : (nI 1 : Int32) = 1 := rfl
  have e2 : (nI 2 : Int32) = 2 := rfl
  have e3 : (nI 3 : Int32) = 3 := rfl
  simp only [e1, e2, e3] at i1 i2 i3
  obtain ⟨r, f1, k1, f2⟩ := gz_sureties R (xs (Int32.toNatClampNeg (nI (8 * j) + (1 : Int32)))) (xs (Int32.toNatClampNeg (nI (8 * j) + (2 : Int32)))) (xs (Int32.toNatClampNeg (nI (8 * j) + (3 : Int32))))
  refine ⟨h, fun K => ?_, R⟩
  unfold fL_c21
  simp only [i1, i2, i3, q_ck S0, f1, p_cl, q_ck k1, f2, eq_self, if_true]
theorem pz_22 (hL : L ≤ 4096) (hj : 8 * j + 8 ≤ L) (R : Rl B h) : ∃ h2 : mm_H, (∀ K, fL_c22 L xs B (B + 66) (nI (8 * j)) K h = K h2) ∧ Rl B h2 := by
  have S0 : mm_kd h B = 12 := Rl.k0 R
  have i1 := fun (β : Type) (q : Option β) => ix_k (c := 1) (by decide) hL hj q
  have i2 := fun (β : Type) (q : Option β) => ix_k (c := 2) (by decide) hL hj q
  have e1 : (nI 1 : Int32) = 1 := rfl
  have e2 : (nI 2 : Int32) = 2 := rfl
  simp only [e1, e2] at i1 i2
  obtain ⟨r, h1, h2, f1, k1, f2, R2⟩ := gz_pay R (xs (Int32.toNatClampNeg (nI (8 * j) + (1 : Int32)))) (xs (Int32.toNatClampNeg (nI (8 * j) + (2 : Int32))))
  refine ⟨h2, fun K => ?_, R2⟩
  unfold fL_c22
  simp only [i1, i2, q_ck S0, f1, p_cl, q_ck k1, f2, eq_self, if_true]
theorem pz_23 (hL : L ≤ 4096) (hj : 8 * j + 8 ≤ L) (R : Rl B h) : ∃ h2 : mm_H, (∀ K, fL_c23 L xs B (B + 66) (nI (8 * j)) K h = K h2) ∧ Rl B h2 := by
  have S0 : mm_kd h B = 12 := Rl.k0 R
  have i1 := fun (β : Type) (q : Option β) => ix_k (c := 1) (by decide) hL hj q
  have e1 : (nI 1 : Int32) = 1 := rfl
  simp only [e1] at i1
  obtain ⟨r, h1, h2, f1, k1, f2, R2⟩ := gz_call R (xs (Int32.toNatClampNeg (nI (8 * j) + (1 : Int32))))
  refine ⟨h2, fun K => ?_, R2⟩
  unfold fL_c23
  simp only [i1, q_ck S0, f1, p_cl, q_ck k1, f2, eq_self, if_true]
theorem pz_24 (hL : L ≤ 4096) (hj : 8 * j + 8 ≤ L) (R : Rl B h) : ∃ h2 : mm_H, (∀ K, fL_c24 L xs B (B + 66) (nI (8 * j)) K h = K h2) ∧ Rl B h2 := by
  have S0 : mm_kd h B = 12 := Rl.k0 R
  have i1 := fun (β : Type) (q : Option β) => ix_k (c := 1) (by decide) hL hj q
  have i2 := fun (β : Type) (q : Option β) => ix_k (c := 2) (by decide) hL hj q
  have i3 := fun (β : Type) (q : Option β) => ix_k (c := 3) (by decide) hL hj q
  have e1 : (nI 1 : Int32) = 1 := rfl
  have e2 : (nI 2 : Int32) = 2 := rfl
  have e3 : (nI 3 : Int32) = 3 := rfl
  simp only [e1, e2, e3] at i1 i2 i3
  obtain ⟨r, h1, h2, f1, k1, f2, R2⟩ := gz_claim R (xs (Int32.toNatClampNeg (nI (8 * j) + (1 : Int32)))) (xs (Int32.toNatClampNeg (nI (8 * j) + (2 : Int32)))) (xs (Int32.toNatClampNeg (nI (8 * j) + (3 : Int32))))
  refine ⟨h2, fun K => ?_, R2⟩
  unfold fL_c24
  simp only [i1, i2, i3, q_ck S0, f1, p_cl, q_ck k1, f2, eq_self, if_true]
theorem pz_25 (hL : L ≤ 4096) (hj : 8 * j + 8 ≤ L) (R : Rl B h) : ∃ h2 : mm_H, (∀ K, fL_c25 L xs B (B + 66) (nI (8 * j)) K h = K h2) ∧ Rl B h2 := by
  have S0 : mm_kd h B = 12 := Rl.k0 R
  have i1 := fun (β : Type) (q : Option β) => ix_k (c := 1) (by decide) hL hj q
  have e1 : (nI 1 : Int32) = 1 := rfl
  simp only [e1] at i1
  obtain ⟨r, f1, k1, f2⟩ := gz_chest R (xs (Int32.toNatClampNeg (nI (8 * j) + (1 : Int32))))
  refine ⟨h, fun K => ?_, R⟩
  unfold fL_c25
  simp only [i1, q_ck S0, f1, p_cl, q_ck k1, f2, eq_self, if_true]
theorem pz_26 (hL : L ≤ 4096) (hj : 8 * j + 8 ≤ L) (R : Rl B h) : ∃ h2 : mm_H, (∀ K, fL_c26 L xs B (B + 66) (nI (8 * j)) K h = K h2) ∧ Rl B h2 := by
  have S0 : mm_kd h B = 12 := Rl.k0 R
  have i1 := fun (β : Type) (q : Option β) => ix_k (c := 1) (by decide) hL hj q
  have i2 := fun (β : Type) (q : Option β) => ix_k (c := 2) (by decide) hL hj q
  have i3 := fun (β : Type) (q : Option β) => ix_k (c := 3) (by decide) hL hj q
  have e1 : (nI 1 : Int32) = 1 := rfl
  have e2 : (nI 2 : Int32) = 2 := rfl
  have e3 : (nI 3 : Int32) = 3 := rfl
  simp only [e1, e2, e3] at i1 i2 i3
  obtain ⟨r, h1, h2, f1, k1, f2, R2⟩ := gz_weigh R (xs (Int32.toNatClampNeg (nI (8 * j) + (1 : Int32)))) (xs (Int32.toNatClampNeg (nI (8 * j) + (2 : Int32)))) (xs (Int32.toNatClampNeg (nI (8 * j) + (3 : Int32))))
  refine ⟨h2, fun K => ?_, R2⟩
  unfold fL_c26
  simp only [i1, i2, i3, q_ck S0, f1, p_cl, q_ck k1, f2, eq_self, if_true]
theorem pz_27 (hL : L ≤ 4096) (hj : 8 * j + 8 ≤ L) (R : Rl B h) : ∃ h2 : mm_H, (∀ K, fL_c27 L xs B (B + 66) (nI (8 * j)) K h = K h2) ∧ Rl B h2 := by
  have S0 : mm_kd h B = 12 := Rl.k0 R
  have i1 := fun (β : Type) (q : Option β) => ix_k (c := 1) (by decide) hL hj q
  have e1 : (nI 1 : Int32) = 1 := rfl
  simp only [e1] at i1
  obtain ⟨r, h1, h2, f1, k1, f2, R2⟩ := gz_takeBack R (xs (Int32.toNatClampNeg (nI (8 * j) + (1 : Int32))))
  refine ⟨h2, fun K => ?_, R2⟩
  unfold fL_c27
  simp only [i1, q_ck S0, f1, p_cl, q_ck k1, f2, eq_self, if_true]
theorem pz_28 (hL : L ≤ 4096) (hj : 8 * j + 8 ≤ L) (R : Rl B h) : ∃ h2 : mm_H, (∀ K, fL_c28 L xs B (B + 66) (nI (8 * j)) K h = K h2) ∧ Rl B h2 := by
  have S0 : mm_kd h B = 12 := Rl.k0 R
  have i1 := fun (β : Type) (q : Option β) => ix_k (c := 1) (by decide) hL hj q
  have i2 := fun (β : Type) (q : Option β) => ix_k (c := 2) (by decide) hL hj q
  have i3 := fun (β : Type) (q : Option β) => ix_k (c := 3) (by decide) hL hj q
  have e1 : (nI 1 : Int32) = 1 := rfl
  have e2 : (nI 2 : Int32) = 2 := rfl
  have e3 : (nI 3 : Int32) = 3 := rfl
  simp only [e1, e2, e3] at i1 i2 i3
  obtain ⟨r, h1, h2, f1, k1, f2, R2⟩ := gz_span R (xs (Int32.toNatClampNeg (nI (8 * j) + (1 : Int32)))) (xs (Int32.toNatClampNeg (nI (8 * j) + (2 : Int32)))) (xs (Int32.toNatClampNeg (nI (8 * j) + (3 : Int32))))
  refine ⟨h2, fun K => ?_, R2⟩
  unfold fL_c28
  simp only [i1, i2, i3, q_ck S0, f1, p_cl, q_ck k1, f2, eq_self, if_true]
theorem pz_29 (hL : L ≤ 4096) (hj : 8 * j + 8 ≤ L) (R : Rl B h) : ∃ h2 : mm_H, (∀ K, fL_c29 L xs B (B + 66) (nI (8 * j)) K h = K h2) ∧ Rl B h2 := by
  have S0 : mm_kd h B = 12 := Rl.k0 R
  have i1 := fun (β : Type) (q : Option β) => ix_k (c := 1) (by decide) hL hj q
  have i2 := fun (β : Type) (q : Option β) => ix_k (c := 2) (by decide) hL hj q
  have i3 := fun (β : Type) (q : Option β) => ix_k (c := 3) (by decide) hL hj q
  have i4 := fun (β : Type) (q : Option β) => ix_k (c := 4) (by decide) hL hj q
  have e1 : (nI 1 : Int32) = 1 := rfl
  have e2 : (nI 2 : Int32) = 2 := rfl
  have e3 : (nI 3 : Int32) = 3 := rfl
  have e4 : (nI 4 : Int32) = 4 := rfl
  simp only [e1, e2, e3, e4] at i1 i2 i3 i4
  obtain ⟨r, h1, h2, f1, k1, f2, R2⟩ := gz_theirs R (xs (Int32.toNatClampNeg (nI (8 * j) + (1 : Int32)))) (xs (Int32.toNatClampNeg (nI (8 * j) + (2 : Int32)))) (xs (Int32.toNatClampNeg (nI (8 * j) + (3 : Int32)))) (xs (Int32.toNatClampNeg (nI (8 * j) + (4 : Int32))))
  refine ⟨h2, fun K => ?_, R2⟩
  unfold fL_c29
  simp only [i1, i2, i3, i4, q_ck S0, f1, p_cl, q_ck k1, f2, eq_self, if_true]
theorem pz_30 (hL : L ≤ 4096) (hj : 8 * j + 8 ≤ L) (R : Rl B h) : ∃ h2 : mm_H, (∀ K, fL_c30 L xs B (B + 66) (nI (8 * j)) K h = K h2) ∧ Rl B h2 := by
  have S0 : mm_kd h B = 12 := Rl.k0 R
  have i1 := fun (β : Type) (q : Option β) => ix_k (c := 1) (by decide) hL hj q
  have i2 := fun (β : Type) (q : Option β) => ix_k (c := 2) (by decide) hL hj q
  have i3 := fun (β : Type) (q : Option β) => ix_k (c := 3) (by decide) hL hj q
  have i4 := fun (β : Type) (q : Option β) => ix_k (c := 4) (by decide) hL hj q
  have e1 : (nI 1 : Int32) = 1 := rfl
  have e2 : (nI 2 : Int32) = 2 := rfl
  have e3 : (nI 3 : Int32) = 3 := rfl
  have e4 : (nI 4 : Int32) = 4 := rfl
  simp only [e1, e2, e3, e4] at i1 i2 i3 i4
  obtain ⟨r, h1, h2, f1, k1, f2, R2⟩ := gz_order R (xs (Int32.toNatClampNeg (nI (8 * j) + (1 : Int32)))) ((((Int32.toInt64 (xs (Int32.toNatClampNeg (nI (8 * j) + (2 : Int32))))) <<< ((32 : Int32).toInt64 &&& 63)) ||| ((Int32.toInt64 (xs (Int32.toNatClampNeg (nI (8 * j) + (3 : Int32))))) &&& (4294967295 : Int64)))) (xs (Int32.toNatClampNeg (nI (8 * j) + (4 : Int32))))
  refine ⟨h2, fun K => ?_, R2⟩
  unfold fL_c30
  simp only [i1, i2, i3, i4, q_ck S0, f1, p_cl, q_ck k1, f2, eq_self, if_true]
theorem pz_31 (hL : L ≤ 4096) (hj : 8 * j + 8 ≤ L) (R : Rl B h) : ∃ h2 : mm_H, (∀ K, fL_c31 L xs B (B + 66) (nI (8 * j)) K h = K h2) ∧ Rl B h2 := by
  have S0 : mm_kd h B = 12 := Rl.k0 R
  have i1 := fun (β : Type) (q : Option β) => ix_k (c := 1) (by decide) hL hj q
  have e1 : (nI 1 : Int32) = 1 := rfl
  simp only [e1] at i1
  obtain ⟨r, f1, k1, f2⟩ := gz_elder R (xs (Int32.toNatClampNeg (nI (8 * j) + (1 : Int32))))
  refine ⟨h, fun K => ?_, R⟩
  unfold fL_c31
  simp only [i1, q_ck S0, f1, p_cl, q_ck k1, f2, eq_self, if_true]
theorem pz_32 (hL : L ≤ 4096) (hj : 8 * j + 8 ≤ L) (R : Rl B h) : ∃ h2 : mm_H, (∀ K, fL_c32 L xs B (B + 66) (nI (8 * j)) K h = K h2) ∧ Rl B h2 := by
  have S0 : mm_kd h B = 12 := Rl.k0 R
  have i1 := fun (β : Type) (q : Option β) => ix_k (c := 1) (by decide) hL hj q
  have i2 := fun (β : Type) (q : Option β) => ix_k (c := 2) (by decide) hL hj q
  have i3 := fun (β : Type) (q : Option β) => ix_k (c := 3) (by decide) hL hj q
  have i4 := fun (β : Type) (q : Option β) => ix_k (c := 4) (by decide) hL hj q
  have e1 : (nI 1 : Int32) = 1 := rfl
  have e2 : (nI 2 : Int32) = 2 := rfl
  have e3 : (nI 3 : Int32) = 3 := rfl
  have e4 : (nI 4 : Int32) = 4 := rfl
  simp only [e1, e2, e3, e4] at i1 i2 i3 i4
  obtain ⟨r, h1, h2, f1, k1, f2, R2⟩ := gz_ship R (xs (Int32.toNatClampNeg (nI (8 * j) + (1 : Int32)))) (xs (Int32.toNatClampNeg (nI (8 * j) + (2 : Int32)))) (xs (Int32.toNatClampNeg (nI (8 * j) + (3 : Int32)))) (xs (Int32.toNatClampNeg (nI (8 * j) + (4 : Int32))))
  refine ⟨h2, fun K => ?_, R2⟩
  unfold fL_c32
  simp only [i1, i2, i3, i4, q_ck S0, f1, p_cl, q_ck k1, f2, eq_self, if_true]
theorem pz_33 (hL : L ≤ 4096) (hj : 8 * j + 8 ≤ L) (R : Rl B h) : ∃ h2 : mm_H, (∀ K, fL_c33 L xs B (B + 66) (nI (8 * j)) K h = K h2) ∧ Rl B h2 := by
  have S0 : mm_kd h B = 12 := Rl.k0 R
  have i1 := fun (β : Type) (q : Option β) => ix_k (c := 1) (by decide) hL hj q
  have i2 := fun (β : Type) (q : Option β) => ix_k (c := 2) (by decide) hL hj q
  have i3 := fun (β : Type) (q : Option β) => ix_k (c := 3) (by decide) hL hj q
  have i4 := fun (β : Type) (q : Option β) => ix_k (c := 4) (by decide) hL hj q
  have e1 : (nI 1 : Int32) = 1 := rfl
  have e2 : (nI 2 : Int32) = 2 := rfl
  have e3 : (nI 3 : Int32) = 3 := rfl
  have e4 : (nI 4 : Int32) = 4 := rfl
  simp only [e1, e2, e3, e4] at i1 i2 i3 i4
  obtain ⟨r, h1, h2, f1, k1, f2, R2⟩ := gz_news R (xs (Int32.toNatClampNeg (nI (8 * j) + (1 : Int32)))) (xs (Int32.toNatClampNeg (nI (8 * j) + (2 : Int32)))) (xs (Int32.toNatClampNeg (nI (8 * j) + (3 : Int32)))) (xs (Int32.toNatClampNeg (nI (8 * j) + (4 : Int32))))
  refine ⟨h2, fun K => ?_, R2⟩
  unfold fL_c33
  simp only [i1, i2, i3, i4, q_ck S0, f1, p_cl, q_ck k1, f2, eq_self, if_true]
theorem pz_34 (hL : L ≤ 4096) (hj : 8 * j + 8 ≤ L) (R : Rl B h) : ∃ h2 : mm_H, (∀ K, fL_c34 L xs B (B + 66) (nI (8 * j)) K h = K h2) ∧ Rl B h2 := by
  have S0 : mm_kd h B = 12 := Rl.k0 R
  have i1 := fun (β : Type) (q : Option β) => ix_k (c := 1) (by decide) hL hj q
  have i2 := fun (β : Type) (q : Option β) => ix_k (c := 2) (by decide) hL hj q
  have i3 := fun (β : Type) (q : Option β) => ix_k (c := 3) (by decide) hL hj q
  have i4 := fun (β : Type) (q : Option β) => ix_k (c := 4) (by decide) hL hj q
  have e1 : (nI 1 : Int32) = 1 := rfl
  have e2 : (nI 2 : Int32) = 2 := rfl
  have e3 : (nI 3 : Int32) = 3 := rfl
  have e4 : (nI 4 : Int32) = 4 := rfl
  simp only [e1, e2, e3, e4] at i1 i2 i3 i4
  obtain ⟨r, f1, k1, f2⟩ := gz_price R (xs (Int32.toNatClampNeg (nI (8 * j) + (1 : Int32)))) (xs (Int32.toNatClampNeg (nI (8 * j) + (2 : Int32)))) (xs (Int32.toNatClampNeg (nI (8 * j) + (3 : Int32)))) (xs (Int32.toNatClampNeg (nI (8 * j) + (4 : Int32))))
  refine ⟨h, fun K => ?_, R⟩
  unfold fL_c34
  simp only [i1, i2, i3, i4, q_ck S0, f1, p_cl, q_ck k1, f2, eq_self, if_true]
theorem pz_35 (hL : L ≤ 4096) (hj : 8 * j + 8 ≤ L) (R : Rl B h) : ∃ h2 : mm_H, (∀ K, fL_c35 L xs B (B + 66) (nI (8 * j)) K h = K h2) ∧ Rl B h2 := by
  have S0 : mm_kd h B = 12 := Rl.k0 R
  have i1 := fun (β : Type) (q : Option β) => ix_k (c := 1) (by decide) hL hj q
  have e1 : (nI 1 : Int32) = 1 := rfl
  simp only [e1] at i1
  obtain ⟨r, h1, h2, f1, k1, f2, R2⟩ := gz_plan R (xs (Int32.toNatClampNeg (nI (8 * j) + (1 : Int32))))
  refine ⟨h2, fun K => ?_, R2⟩
  unfold fL_c35
  simp only [i1, q_ck S0, f1, p_cl, q_ck k1, f2, eq_self, if_true, lg_cmp_eq]
theorem pz_36 (hL : L ≤ 4096) (hj : 8 * j + 8 ≤ L) (R : Rl B h) : ∃ h2 : mm_H, (∀ K, fL_c36 L xs B (B + 66) (nI (8 * j)) K h = K h2) ∧ Rl B h2 := by
  have S0 : mm_kd h B = 12 := Rl.k0 R
  have i1 := fun (β : Type) (q : Option β) => ix_k (c := 1) (by decide) hL hj q
  have i2 := fun (β : Type) (q : Option β) => ix_k (c := 2) (by decide) hL hj q
  have e1 : (nI 1 : Int32) = 1 := rfl
  have e2 : (nI 2 : Int32) = 2 := rfl
  simp only [e1, e2] at i1 i2
  obtain ⟨r, f1, k1, f2⟩ := gz_planned R (xs (Int32.toNatClampNeg (nI (8 * j) + (1 : Int32)))) (xs (Int32.toNatClampNeg (nI (8 * j) + (2 : Int32))))
  refine ⟨h, fun K => ?_, R⟩
  unfold fL_c36
  simp only [i1, i2, q_ck S0, f1, p_cl, q_ck k1, f2, eq_self, if_true]
theorem pz_37 (hL : L ≤ 4096) (hj : 8 * j + 8 ≤ L) (R : Rl B h) : ∃ h2 : mm_H, (∀ K, fL_c37 L xs B (B + 66) (nI (8 * j)) K h = K h2) ∧ Rl B h2 := by
  have S0 : mm_kd h B = 12 := Rl.k0 R
  obtain ⟨r, f1, k1, f2⟩ := gz_high R
  refine ⟨h, fun K => ?_, R⟩
  unfold fL_c37
  simp only [q_ck S0, f1, p_cl, q_ck k1, f2, eq_self, if_true, lg_cmp_eq]
theorem pz_38 (hL : L ≤ 4096) (hj : 8 * j + 8 ≤ L) (R : Rl B h) : ∃ h2 : mm_H, (∀ K, fL_c38 L xs B (B + 66) (nI (8 * j)) K h = K h2) ∧ Rl B h2 := by
  have S0 : mm_kd h B = 12 := Rl.k0 R
  have i1 := fun (β : Type) (q : Option β) => ix_k (c := 1) (by decide) hL hj q
  have i2 := fun (β : Type) (q : Option β) => ix_k (c := 2) (by decide) hL hj q
  have e1 : (nI 1 : Int32) = 1 := rfl
  have e2 : (nI 2 : Int32) = 2 := rfl
  simp only [e1, e2] at i1 i2
  obtain ⟨r, h1, h2, f1, k1, f2, R2⟩ := gz_sail R (xs (Int32.toNatClampNeg (nI (8 * j) + (1 : Int32)))) (xs (Int32.toNatClampNeg (nI (8 * j) + (2 : Int32))))
  refine ⟨h2, fun K => ?_, R2⟩
  unfold fL_c38
  simp only [i1, i2, q_ck S0, f1, p_cl, q_ck k1, f2, eq_self, if_true]
theorem pz_39 (hL : L ≤ 4096) (hj : 8 * j + 8 ≤ L) (R : Rl B h) : ∃ h2 : mm_H, (∀ K, fL_c39 L xs B (B + 66) (nI (8 * j)) K h = K h2) ∧ Rl B h2 := by
  have S0 : mm_kd h B = 12 := Rl.k0 R
  have i1 := fun (β : Type) (q : Option β) => ix_k (c := 1) (by decide) hL hj q
  have e1 : (nI 1 : Int32) = 1 := rfl
  simp only [e1] at i1
  obtain ⟨r, f1, k1, f2⟩ := gz_broke R (xs (Int32.toNatClampNeg (nI (8 * j) + (1 : Int32))))
  refine ⟨h, fun K => ?_, R⟩
  unfold fL_c39
  simp only [i1, q_ck S0, f1, p_cl, q_ck k1, f2, eq_self, if_true]
theorem pz_40 (hL : L ≤ 4096) (hj : 8 * j + 8 ≤ L) (R : Rl B h) : ∃ h2 : mm_H, (∀ K, fL_c40 L xs B (B + 66) (nI (8 * j)) K h = K h2) ∧ Rl B h2 := by
  have S0 : mm_kd h B = 12 := Rl.k0 R
  have i1 := fun (β : Type) (q : Option β) => ix_k (c := 1) (by decide) hL hj q
  have i2 := fun (β : Type) (q : Option β) => ix_k (c := 2) (by decide) hL hj q
  have i3 := fun (β : Type) (q : Option β) => ix_k (c := 3) (by decide) hL hj q
  have i4 := fun (β : Type) (q : Option β) => ix_k (c := 4) (by decide) hL hj q
  have e1 : (nI 1 : Int32) = 1 := rfl
  have e2 : (nI 2 : Int32) = 2 := rfl
  have e3 : (nI 3 : Int32) = 3 := rfl
  have e4 : (nI 4 : Int32) = 4 := rfl
  simp only [e1, e2, e3, e4] at i1 i2 i3 i4
  obtain ⟨r, h1, h2, f1, k1, f2, R2⟩ := gz_hand R (xs (Int32.toNatClampNeg (nI (8 * j) + (1 : Int32)))) (xs (Int32.toNatClampNeg (nI (8 * j) + (2 : Int32)))) (xs (Int32.toNatClampNeg (nI (8 * j) + (3 : Int32)))) (xs (Int32.toNatClampNeg (nI (8 * j) + (4 : Int32))))
  refine ⟨h2, fun K => ?_, R2⟩
  unfold fL_c40
  simp only [i1, i2, i3, i4, q_ck S0, f1, p_cl, q_ck k1, f2, eq_self, if_true]
theorem pz_41 (hL : L ≤ 4096) (hj : 8 * j + 8 ≤ L) (R : Rl B h) : ∃ h2 : mm_H, (∀ K, fL_c41 L xs B (B + 66) (nI (8 * j)) K h = K h2) ∧ Rl B h2 := by
  have S0 : mm_kd h B = 12 := Rl.k0 R
  have i1 := fun (β : Type) (q : Option β) => ix_k (c := 1) (by decide) hL hj q
  have e1 : (nI 1 : Int32) = 1 := rfl
  simp only [e1] at i1
  obtain ⟨r, h1, h2, f1, k1, f2, R2⟩ := gz_breakers R (xs (Int32.toNatClampNeg (nI (8 * j) + (1 : Int32))))
  refine ⟨h2, fun K => ?_, R2⟩
  unfold fL_c41
  simp only [i1, q_ck S0, f1, p_cl, q_ck k1, f2, eq_self, if_true]
theorem pz_42 (hL : L ≤ 4096) (hj : 8 * j + 8 ≤ L) (R : Rl B h) : ∃ h2 : mm_H, (∀ K, fL_c42 L xs B (B + 66) (nI (8 * j)) K h = K h2) ∧ Rl B h2 := by
  have S0 : mm_kd h B = 12 := Rl.k0 R
  have i1 := fun (β : Type) (q : Option β) => ix_k (c := 1) (by decide) hL hj q
  have e1 : (nI 1 : Int32) = 1 := rfl
  simp only [e1] at i1
  obtain ⟨r, f1, k1, f2⟩ := gz_holds R (xs (Int32.toNatClampNeg (nI (8 * j) + (1 : Int32))))
  refine ⟨h, fun K => ?_, R⟩
  unfold fL_c42
  simp only [i1, q_ck S0, f1, p_cl, q_ck k1, f2, eq_self, if_true]
theorem pz_43 (hL : L ≤ 4096) (hj : 8 * j + 8 ≤ L) (R : Rl B h) : ∃ h2 : mm_H, (∀ K, fL_c43 L xs B (B + 66) (nI (8 * j)) K h = K h2) ∧ Rl B h2 := by
  have S0 : mm_kd h B = 12 := Rl.k0 R
  have i1 := fun (β : Type) (q : Option β) => ix_k (c := 1) (by decide) hL hj q
  have i2 := fun (β : Type) (q : Option β) => ix_k (c := 2) (by decide) hL hj q
  have i3 := fun (β : Type) (q : Option β) => ix_k (c := 3) (by decide) hL hj q
  have i4 := fun (β : Type) (q : Option β) => ix_k (c := 4) (by decide) hL hj q
  have e1 : (nI 1 : Int32) = 1 := rfl
  have e2 : (nI 2 : Int32) = 2 := rfl
  have e3 : (nI 3 : Int32) = 3 := rfl
  have e4 : (nI 4 : Int32) = 4 := rfl
  simp only [e1, e2, e3, e4] at i1 i2 i3 i4
  obtain ⟨r, h1, h2, f1, k1, f2, R2⟩ := gz_entry R (xs (Int32.toNatClampNeg (nI (8 * j) + (1 : Int32)))) (xs (Int32.toNatClampNeg (nI (8 * j) + (2 : Int32)))) (xs (Int32.toNatClampNeg (nI (8 * j) + (3 : Int32)))) (xs (Int32.toNatClampNeg (nI (8 * j) + (4 : Int32))))
  refine ⟨h2, fun K => ?_, R2⟩
  unfold fL_c43
  simp only [i1, i2, i3, i4, q_ck S0, f1, p_cl, q_ck k1, f2, eq_self, if_true]
theorem pz_44 (hL : L ≤ 4096) (hj : 8 * j + 8 ≤ L) (R : Rl B h) : ∃ h2 : mm_H, (∀ K, fL_c44 L xs B (B + 66) (nI (8 * j)) K h = K h2) ∧ Rl B h2 := by
  have S0 : mm_kd h B = 12 := Rl.k0 R
  obtain ⟨r, h1, h2, f1, k1, f2, R2⟩ := gz_clear R
  refine ⟨h2, fun K => ?_, R2⟩
  unfold fL_c44
  simp only [q_ck S0, f1, p_cl, q_ck k1, f2, eq_self, if_true]
theorem pz_45 (hL : L ≤ 4096) (hj : 8 * j + 8 ≤ L) (R : Rl B h) : ∃ h2 : mm_H, (∀ K, fL_c45 L xs B (B + 66) (nI (8 * j)) K h = K h2) ∧ Rl B h2 := by
  have S0 : mm_kd h B = 12 := Rl.k0 R
  have i1 := fun (β : Type) (q : Option β) => ix_k (c := 1) (by decide) hL hj q
  have i2 := fun (β : Type) (q : Option β) => ix_k (c := 2) (by decide) hL hj q
  have e1 : (nI 1 : Int32) = 1 := rfl
  have e2 : (nI 2 : Int32) = 2 := rfl
  simp only [e1, e2] at i1 i2
  obtain ⟨r, h1, h2, f1, k1, f2, R2⟩ := gz_join R (xs (Int32.toNatClampNeg (nI (8 * j) + (1 : Int32)))) (xs (Int32.toNatClampNeg (nI (8 * j) + (2 : Int32))))
  refine ⟨h2, fun K => ?_, R2⟩
  unfold fL_c45
  simp only [i1, i2, q_ck S0, f1, p_cl, q_ck k1, f2, eq_self, if_true]
theorem pz_46 (hL : L ≤ 4096) (hj : 8 * j + 8 ≤ L) (R : Rl B h) : ∃ h2 : mm_H, (∀ K, fL_c46 L xs B (B + 66) (nI (8 * j)) K h = K h2) ∧ Rl B h2 := by
  have S0 : mm_kd h B = 12 := Rl.k0 R
  have i1 := fun (β : Type) (q : Option β) => ix_k (c := 1) (by decide) hL hj q
  have e1 : (nI 1 : Int32) = 1 := rfl
  simp only [e1] at i1
  obtain ⟨r, f1, k1, f2⟩ := gz_joined R (xs (Int32.toNatClampNeg (nI (8 * j) + (1 : Int32))))
  refine ⟨h, fun K => ?_, R⟩
  unfold fL_c46
  simp only [i1, q_ck S0, f1, p_cl, q_ck k1, f2, eq_self, if_true]
theorem pz_47 (hL : L ≤ 4096) (hj : 8 * j + 8 ≤ L) (R : Rl B h) : ∃ h2 : mm_H, (∀ K, fL_c47 L xs B (B + 66) (nI (8 * j)) K h = K h2) ∧ Rl B h2 := by
  have S0 : mm_kd h B = 12 := Rl.k0 R
  have i1 := fun (β : Type) (q : Option β) => ix_k (c := 1) (by decide) hL hj q
  have e1 : (nI 1 : Int32) = 1 := rfl
  simp only [e1] at i1
  obtain ⟨r, f1, k1, f2⟩ := gz_count R (xs (Int32.toNatClampNeg (nI (8 * j) + (1 : Int32))))
  refine ⟨h, fun K => ?_, R⟩
  unfold fL_c47
  simp only [i1, q_ck S0, f1, p_cl, q_ck k1, f2, eq_self, if_true, lg_cmp_eq]
theorem pure_iter (B L : Nat) (xs : Nat → Int32) (k : Nat) (hk : k < 48) (h : mm_H) (j : Nat) (R : Rl B h) (hL : L ≤ 4096) (hj : 8 * j + 8 ≤ L) : ∃ h2 : mm_H, (∀ K, fL_k k L xs B (B + 66) (nI (8 * j)) K h = K h2) ∧ Rl B h2 := by
  match k, hk with
  | 0, _ => exact pz_0 (xs := xs) hL hj R
  | 1, _ => exact pz_1 (xs := xs) hL hj R
  | 2, _ => exact pz_2 (xs := xs) hL hj R
  | 3, _ => exact pz_3 (xs := xs) hL hj R
  | 4, _ => exact pz_4 (xs := xs) hL hj R
  | 5, _ => exact pz_5 (xs := xs) hL hj R
  | 6, _ => exact pz_6 (xs := xs) hL hj R
  | 7, _ => exact pz_7 (xs := xs) hL hj R
  | 8, _ => exact pz_8 (xs := xs) hL hj R
  | 9, _ => exact pz_9 (xs := xs) hL hj R
  | 10, _ => exact pz_10 (xs := xs) hL hj R
  | 11, _ => exact pz_11 (xs := xs) hL hj R
  | 12, _ => exact pz_12 (xs := xs) hL hj R
  | 13, _ => exact pz_13 (xs := xs) hL hj R
  | 14, _ => exact pz_14 (xs := xs) hL hj R
  | 15, _ => exact pz_15 (xs := xs) hL hj R
  | 16, _ => exact pz_16 (xs := xs) hL hj R
  | 17, _ => exact pz_17 (xs := xs) hL hj R
  | 18, _ => exact pz_18 (xs := xs) hL hj R
  | 19, _ => exact pz_19 (xs := xs) hL hj R
  | 20, _ => exact pz_20 (xs := xs) hL hj R
  | 21, _ => exact pz_21 (xs := xs) hL hj R
  | 22, _ => exact pz_22 (xs := xs) hL hj R
  | 23, _ => exact pz_23 (xs := xs) hL hj R
  | 24, _ => exact pz_24 (xs := xs) hL hj R
  | 25, _ => exact pz_25 (xs := xs) hL hj R
  | 26, _ => exact pz_26 (xs := xs) hL hj R
  | 27, _ => exact pz_27 (xs := xs) hL hj R
  | 28, _ => exact pz_28 (xs := xs) hL hj R
  | 29, _ => exact pz_29 (xs := xs) hL hj R
  | 30, _ => exact pz_30 (xs := xs) hL hj R
  | 31, _ => exact pz_31 (xs := xs) hL hj R
  | 32, _ => exact pz_32 (xs := xs) hL hj R
  | 33, _ => exact pz_33 (xs := xs) hL hj R
  | 34, _ => exact pz_34 (xs := xs) hL hj R
  | 35, _ => exact pz_35 (xs := xs) hL hj R
  | 36, _ => exact pz_36 (xs := xs) hL hj R
  | 37, _ => exact pz_37 (xs := xs) hL hj R
  | 38, _ => exact pz_38 (xs := xs) hL hj R
  | 39, _ => exact pz_39 (xs := xs) hL hj R
  | 40, _ => exact pz_40 (xs := xs) hL hj R
  | 41, _ => exact pz_41 (xs := xs) hL hj R
  | 42, _ => exact pz_42 (xs := xs) hL hj R
  | 43, _ => exact pz_43 (xs := xs) hL hj R
  | 44, _ => exact pz_44 (xs := xs) hL hj R
  | 45, _ => exact pz_45 (xs := xs) hL hj R
  | 46, _ => exact pz_46 (xs := xs) hL hj R
  | 47, _ => exact pz_47 (xs := xs) hL hj R
  | k + 48, hk => exact absurd hk (by omega)
end RC
