/-! surety -/
section SY
variable {B : Nat} {h hx hy hx' hy' : mm_H} {ow ow' : Nat → Nat × Nat} {n nm nl nb : Nat} {am al : Nat → Nat} {P C : Nat → Nat} {A U U' : Nat → Nat → Nat} {T : Nat → Int32} {x : Nat}
theorem RBg.sur (R : RBg B ow hx hy nm n A U T) (hB : B + 147 ≤ mm_sz hx) {k m i : Nat} (hk : k < n) (hi : i = U 3 k) (hi3 : i < 3) (hm : m < nm) : RBg B ow (mm_setI (mm_setI (mm_setI hx (A 1 k) i (nI m)) (A 3 k) i (nI m)) (A 0 k) 9 (nI (i + 1))) (mm_setI (mm_setI (mm_setI (mm_setI (mm_setI hy (B + 107) (3 * k + i) (nI m)) (B + 108) (3 * k + i) 0) (B + 109) (3 * k + i) (nI m)) (B + 110) (3 * k + i) (T m)) (B + 106) k (nI (i + 1))) nm n A (upU (upU U (4 + i) k m) 3 k (i + 1)) T := by
  have LV := fun {j : Nat} (hj : j < n) => R.lv hj
  obtain ⟨R1, R2, R3, R4, R5⟩ := R
  obtain ⟨L0, L1, L2, L3⟩ := LV hk
  have x0 : mX B (fun a j => a = A 1 k ∨ a = A 3 k ∨ (a = A 0 k ∧ j = 9)) hx (mm_setI (mm_setI (mm_setI hx (A 1 k) i (nI m)) (A 3 k) i (nI m)) (A 0 k) 9 (nI (i + 1))) := (((mX.rf hB).I (Or.inl (Or.inl rfl))).I (Or.inl (Or.inr (Or.inl rfl)))).I (Or.inl (Or.inr (Or.inr ⟨rfl, rfl⟩)))
  refine ⟨R1, R2.up (by omega) x0 mO.rf ?_ ?_, ?_, fun j hj => ⟨?_, ?_⟩, ?_⟩
  · have := L0.1; have := L1.1; have := L3.1
    exact ⟨fun z => by omega, fun z => by omega⟩
  · intro a b q z
    rcases z with z | z | z
    · exact q.ne L1 (Or.inl (by decide)) z
    · exact q.ne L3 (Or.inl (by decide)) z
    · exact q.ne L0 (Or.inl (by decide)) z.1
  · simp only [i_I, q_10, q_01, eq_self, i_I, Nat.reduceEqDiff, Nat.add_left_cancel_iff, Nat.add_eq_left, Nat.left_eq_add, and_false, false_and, and_true, true_and, if_true, if_false, and_self, not_true, not_false_iff, reduceCtorEq]; exact R3
  · obtain ⟨Lj, L5, L6, L7⟩ := LV hj
    have M := (R4 j hj).1
    by_cases e : j = k
    · subst e
      obtain ⟨a1, b1, c1, ⟨d1, d2, d3⟩, g1, i1, j1, k1, l1, m1⟩ := M
      have n01 : A 0 j ≠ A 1 j := L0.ne L1 (Or.inl (by decide))
      have n03 : A 0 j ≠ A 3 j := L0.ne L3 (Or.inl (by decide))
      have n13 : A 1 j ≠ A 3 j := L1.ne L3 (Or.inl (by decide))
      have n10 : A 1 j ≠ A 0 j := L1.ne L0 (Or.inl (by decide))
      have n20 : A 2 j ≠ A 0 j := L2.ne L0 (Or.inl (by decide))
      have n21 : A 2 j ≠ A 1 j := L2.ne L1 (Or.inl (by decide))
      have n23 : A 2 j ≠ A 3 j := L2.ne L3 (Or.inl (by decide))
      have n30 : A 3 j ≠ A 0 j := L3.ne L0 (Or.inl (by decide))
      have n31 : A 3 j ≠ A 1 j := L3.ne L1 (Or.inl (by decide))
      have u0 : ∀ b, b ≠ 3 → b ≠ 4 + i → upU (upU U (4 + i) j m) 3 j (i + 1) b j = U b j := fun b h1 h2 => by rw [upU_ne h1, upU_ne h2]
      have u3 : upU (upU U (4 + i) j m) 3 j (i + 1) 3 j = i + 1 := upU_eq
      have u4 : upU (upU U (4 + i) j m) 3 j (i + 1) (4 + i) j = m := by rw [upU_ne (by omega), upU_eq]
      unfold mBar
      rw [u0 0 (by omega) (by omega), u0 1 (by omega) (by omega), u0 2 (by omega) (by omega), u0 7 (by omega) (by omega), u0 8 (by omega) (by omega), u0 9 (by omega) (by omega), u3]
      have f : ∀ q b, q < 106 → mm_i (mm_setI (mm_setI (mm_setI (mm_setI (mm_setI hy (B + 107) (3 * j + i) (nI m)) (B + 108) (3 * j + i) 0) (B + 109) (3 * j + i) (nI m)) (B + 110) (3 * j + i) (T m)) (B + 106) j (nI (i + 1))) (B + q) b = mm_i hy (B + q) b := fun q b hq => by
        rw [i_I_ne (by omega), i_I_ne (by omega), i_I_ne (by omega), i_I_ne (by omega), i_I_ne (by omega)]
      have e0 : ∀ b, b ≠ 9 → mm_i (mm_setI (mm_setI (mm_setI hx (A 1 j) i (nI m)) (A 3 j) i (nI m)) (A 0 j) 9 (nI (i + 1))) (A 0 j) b = mm_i hx (A 0 j) b := fun b hb => by
        rw [i_I, if_neg (fun z => hb z.2), i_I_ne n03, i_I_ne n01]
      have e2 : ∀ b, mm_i (mm_setI (mm_setI (mm_setI hx (A 1 j) i (nI m)) (A 3 j) i (nI m)) (A 0 j) 9 (nI (i + 1))) (A 2 j) b = mm_i hx (A 2 j) b := fun b => by
        rw [i_I_ne n20, i_I_ne n23, i_I_ne n21]
      simp only [f 96 _ (by omega), f 97 _ (by omega), f 98 _ (by omega), f 99 _ (by omega), f 100 _ (by omega), f 101 _ (by omega), f 102 _ (by omega), f 103 _ (by omega), f 104 _ (by omega), f 105 _ (by omega), e0 0 (by omega), e0 1 (by omega), e0 2 (by omega), e0 3 (by omega), e0 4 (by omega), e0 5 (by omega), e0 6 (by omega), e0 7 (by omega), e0 8 (by omega), e2]
      refine ⟨a1, b1, c1, ⟨i_I_eq, i_I_eq, by omega⟩, g1, i1, j1, fun b hb => ?_, fun b hb hb3 => ?_, m1⟩
      · unfold mSur
        have w1 : mm_i (mm_setI (mm_setI (mm_setI hx (A 1 j) i (nI m)) (A 3 j) i (nI m)) (A 0 j) 9 (nI (i + 1))) (A 1 j) b = if b = i then nI m else mm_i hx (A 1 j) b := by
          rw [i_I_ne n10, i_I_ne n13, i_I_at]
        have w3 : mm_i (mm_setI (mm_setI (mm_setI hx (A 1 j) i (nI m)) (A 3 j) i (nI m)) (A 0 j) 9 (nI (i + 1))) (A 3 j) b = if b = i then nI m else mm_i hx (A 3 j) b := by
          rw [i_I_ne n30, i_I_at, i_I_ne n31]
        have ej : ∀ b i : Nat, (3 * j + b = 3 * j + i) = (b = i) := fun b i => propext ⟨fun z => by omega, fun z => by omega⟩
        rw [w1, w3, e2, u0 (7 + b) (by omega) (by omega)]
        by_cases q : b = i
        · subst q
          rw [u4]
          simp only [i_I, q_10, q_01, eq_self, i_I, Nat.reduceEqDiff, Nat.add_left_cancel_iff, Nat.add_eq_left, Nat.left_eq_add, and_false, false_and, and_true, true_and, if_true, if_false, and_self, not_true, not_false_iff, reduceCtorEq]
          have z0 : U (7 + b) j = 0 := (l1 b (by omega) hi3).2
          have z1 : mm_i hx (A 2 j) b = 0 := (l1 b (by omega) hi3).1
          rw [z0, z1, nI_0]
          exact ⟨hm, ⟨rfl, rfl⟩, Or.inr ⟨m, hm, rfl, rfl⟩⟩
        · rw [u0 (4 + b) (by omega) (by omega)]
          simp only [i_I, ej, q, q_10, q_01, eq_self, i_I, Nat.reduceEqDiff, Nat.add_left_cancel_iff, Nat.add_eq_left, Nat.left_eq_add, and_false, false_and, and_true, true_and, if_true, if_false, and_self, not_true, not_false_iff, reduceCtorEq]
          exact k1 b (by omega)
      · rw [u0 (7 + b) (by omega) (by omega)]
        exact l1 b (by omega) hb3
    · refine M.cg (fun b => by rw [upU_nk e, upU_nk e]) (fun b => ?_) (fun b => ?_) (fun b => ?_) (fun b => ?_) (fun q h1 h2 => ?_) (fun q b h1 h2 h3 => ?_)
      · rw [i_I_ne (Lj.ne L0 (Or.inr e)), i_I_ne (Lj.ne L3 (Or.inr e)), i_I_ne (Lj.ne L1 (Or.inr e))]
      · rw [i_I_ne (L5.ne L0 (Or.inr e)), i_I_ne (L5.ne L3 (Or.inr e)), i_I_ne (L5.ne L1 (Or.inr e))]
      · rw [i_I_ne (L6.ne L0 (Or.inr e)), i_I_ne (L6.ne L3 (Or.inr e)), i_I_ne (L6.ne L1 (Or.inr e))]
      · rw [i_I_ne (L7.ne L0 (Or.inr e)), i_I_ne (L7.ne L3 (Or.inr e)), i_I_ne (L7.ne L1 (Or.inr e))]
      · rw [i_I, if_neg (fun z => e z.2), i_I_ne (by omega), i_I_ne (by omega), i_I_ne (by omega), i_I_ne (by omega)]
      · rw [i_I_ne (by omega), i_I, if_neg (fun z => by omega), i_I, if_neg (fun z => by omega), i_I, if_neg (fun z => by omega), i_I, if_neg (fun z => by omega)]
  · exact (R4 j hj).2
  · intro c hc
    simp only [i_I, q_10, q_01, eq_self, i_I, Nat.reduceEqDiff, Nat.add_left_cancel_iff, Nat.add_eq_left, Nat.left_eq_add, and_false, false_and, and_true, true_and, if_true, if_false, and_self, not_true, not_false_iff, reduceCtorEq]; exact R5 c hc
theorem x_hasSurety_L2 {a v : Nat} {u : Nat → Nat} {q m : Nat} (k1 : mm_kd h a = 1) (i9 : mm_i h a 9 = nI q) (hq3 : q ≤ 3) (r10 : mm_r h a 10 = some v) (kv : mm_kd h v = 14) (nv : mm_n h v = 3) (hu : ∀ i, i < q → mm_i h v i = nI (u i) ∧ u i < 40) (hm : m < 40) (K : mm_H → Option (Int32 × mm_H)) : ∀ (e i fuel : Nat), i + e = q → e < fuel → fX0_hasSurety_L2 a (nI m) K fuel (nI i) h = if anyF (fun i => decide (u i = m)) e i then some (1, h) else K h := by
  intro e
  induction e with
  | zero =>
    intro i fuel hi hf
    obtain ⟨f, rfl⟩ : ∃ f, fuel = f + 1 := ⟨fuel - 1, by omega⟩
    show fX0_hasSurety_L2_b _ _ _ _ _ _ = _
    unfold fX0_hasSurety_L2_b
    simp only [q_rf, q_lt, q_cl, q_jn, q_b, q_b1, q_ck, kd_I, kd_J, kd_R, n_I, n_J, n_R, r_I, r_J, c_I, c_J, c_R, i_J, i_R, j_I, j_R, y_in, y_isDay, x_within, x_isDay, x_isTown, k1, i9]
    rw [if_pos (by rw [show i = q by omega]; exact Int32.le_refl _)]
    simp [anyF]
  | succ e ih =>
    intro i fuel hi hf
    obtain ⟨f, rfl⟩ : ∃ f, fuel = f + 1 := ⟨fuel - 1, by omega⟩
    show fX0_hasSurety_L2_b _ _ _ _ _ _ = _
    unfold fX0_hasSurety_L2_b
    have hx := fun (β : Type) (z : Option β) => q_ckx (show i < 3 by omega) (by decide) z
    have hc := nI_clamp (n := i) (by omega)
    obtain ⟨h1, h2⟩ := hu i (by omega)
    have he : (nI (u i) = nI m) = (u i = m) := propext (nI_eq (by omega) (by omega))
    simp only [q_rf, q_lt, q_cl, q_jn, q_b, q_b1, q_ck, kd_I, kd_J, kd_R, n_I, n_J, n_R, r_I, r_J, c_I, c_J, c_R, i_J, i_R, j_I, j_R, y_in, y_isDay, x_within, x_isDay, x_isTown, k1, i9, r10, kv, nv, hx, hc, h1, he, nI_1, ih (i + 1) f (by omega) (by omega)]
    rw [if_neg (nI_ge (by omega) (by omega))]
    simp only [anyF]
    by_cases q : u i = m <;> simp [q]
theorem y_surety_L59 (S : mS B hy) {k m q : Nat} {u : Nat → Nat} (hk : k < 300) (hm : m < 40) (hq3 : q ≤ 3) (d2 : mm_i hy (B + 106) k = nI q) (hu : ∀ i, i < q → mm_i hy (B + 107) (3 * k + i) = nI (u i) ∧ u i < 40) (K : mm_H → Option (Int32 × mm_H)) : ∀ (e i fuel : Nat), i + e = q → e < fuel → fX12_surety_L59 (B + 66) (nI k) (nI m) K fuel (nI i) hy = if anyF (fun i => decide (u i = m)) e i then some (-1, hy) else K hy := by
  have hq := fun (β : Type) (z : Option β) => q_ckx hk (by decide) z
  have hcl := nI_clamp (n := k) (by omega)
  intro e
  induction e with
  | zero =>
    intro i fuel hi hf
    obtain ⟨f, rfl⟩ : ∃ f, fuel = f + 1 := ⟨fuel - 1, by omega⟩
    show fX12_surety_L59_b _ _ _ _ _ _ _ = _
    unfold fX12_surety_L59_b
    simp only [q_rf, q_lt, q_cl, q_jn, q_b, q_b1, q_ck, kd_I, kd_J, kd_R, n_I, n_J, n_R, r_I, r_J, c_I, c_J, c_R, i_J, i_R, j_I, j_R, y_in, y_isDay, x_within, x_isDay, x_isTown, sb_ybarg S, hq, hcl, d2]
    rw [if_pos (by rw [show i = q by omega]; exact Int32.le_refl _)]
    simp [anyF]
  | succ e ih =>
    intro i fuel hi hf
    obtain ⟨f, rfl⟩ : ∃ f, fuel = f + 1 := ⟨fuel - 1, by omega⟩
    show fX12_surety_L59_b _ _ _ _ _ _ _ = _
    unfold fX12_surety_L59_b
    have hq1 := fun (β : Type) (z : Option β) => q_ckx (show 3 * k + i < 900 by omega) (by decide) z
    have hc := nI_clamp (n := 3 * k + i) (by omega)
    obtain ⟨h1, h2⟩ := hu i (by omega)
    have he : (nI (u i) = nI m) = (u i = m) := propext (nI_eq (by omega) (by omega))
    rw [q_3]
    simp only [q_rf, q_lt, q_cl, q_jn, q_b, q_b1, q_ck, kd_I, kd_J, kd_R, n_I, n_J, n_R, r_I, r_J, c_I, c_J, c_R, i_J, i_R, j_I, j_R, y_in, y_isDay, x_within, x_isDay, x_isTown, sb_ybarg S, hq, hcl, d2, hq1, hc, h1, he, nI_1, ih (i + 1) f (by omega) (by omega)]
    rw [if_neg (nI_ge (by omega) (by omega))]
    simp only [anyF]
    by_cases q : u i = m <;> simp [q]
end SY
