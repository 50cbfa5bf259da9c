/-! a new bargain of the class -/
section NB
variable {B : Nat} {h hx hy hx' hy' : mm_H} {ow ow' : Nat → Nat × Nat} {n nm nl nb nw td tn ta np : Nat} {am al : Nat → Nat} {A U V Z G E : Nat → Nat → Nat} {T : Nat → Int32}
theorem x_newBar (S : mS B hx) (L : mL B ow hx (B + 3) 2 1 n (A 0)) (hn : n < 300) (s b lt pr due now : Int32) : ∃ g1 hx' ow' A', fX0_init (mm_sz hx) s b lt pr due now (mm_new hx 1 0) = some ((), g1) ∧ mS B g1 ∧ fJx4a65c_add_9ea2d (B + 3) (mm_sz hx) g1 = some (1, hx') ∧ mY B ow [7] hx hx' ∧ mO ow ow' hx ∧ mL B ow' hx' (B + 3) 2 1 (n + 1) (A' 0) ∧ (∀ j k, k < n → A' j k = A j k) ∧ A' 0 n = mm_sz hx ∧ mBrf B ow' hx' A' n ∧ (mm_i hx' (mm_sz hx) 0 = s ∧ mm_i hx' (mm_sz hx) 1 = b ∧ mm_i hx' (mm_sz hx) 2 = lt ∧ mm_i hx' (mm_sz hx) 3 = pr ∧ mm_i hx' (mm_sz hx) 4 = due ∧ mm_i hx' (mm_sz hx) 5 = now ∧ mm_i hx' (mm_sz hx) 6 = pr ∧ mm_i hx' (mm_sz hx) 7 = 0 ∧ mm_i hx' (mm_sz hx) 8 = s ∧ mm_i hx' (mm_sz hx) 9 = 0) ∧ (∀ j i, 1 ≤ j → j ≤ 3 → mm_i hx' (A' j n) i = 0) ∧ (∀ t k a, Lv B ow hx t k a → t ≠ 12 → ∀ i, mm_i hx' a i = mm_i hx a i ∧ mm_r hx' a i = mm_r hx a i) := by
  have hB := S.1
  obtain ⟨u, hu⟩ : ∃ u, u = mm_sz hx := ⟨_, rfl⟩
  rw [← hu]
  have z3 : (3 : Int32).toNatClampNeg = 3 := by decide
  -- the object and its fields
  obtain ⟨ga, ea⟩ : ∃ ga, ga = mm_setI (mm_setI (mm_setI (mm_setI (mm_setI (mm_setI (mm_setI (mm_setI (mm_new hx 1 0) u 0 s) u 1 b) u 2 lt) u 3 pr) u 4 due) u 5 now) u 6 pr) u 8 s := ⟨_, rfl⟩
  have sa : mm_sz ga = u + 1 := by rw [ea, hu]; rfl
  have ka : mm_kd ga u = 1 := by rw [ea]; show mm_kd (mm_new hx 1 0) u = 1; rw [kd_N, if_pos hu]
  have xa : mY B ow [] hx ga := by
    rw [ea]
    exact (((((((((mX.rf hB).N).INw (Nat.le_of_eq hu.symm)).INw (Nat.le_of_eq hu.symm)).INw (Nat.le_of_eq hu.symm)).INw (Nat.le_of_eq hu.symm)).INw (Nat.le_of_eq hu.symm)).INw (Nat.le_of_eq hu.symm)).INw (Nat.le_of_eq hu.symm)).INw (Nat.le_of_eq hu.symm)
  obtain ⟨gb, eb⟩ : ∃ gb, gb = mm_setR (mm_new ga 14 3) u 10 (some (u + 1)) := ⟨_, rfl⟩
  obtain ⟨gc, ec⟩ : ∃ gc, gc = mm_setR (mm_new gb 14 3) u 11 (some (u + 2)) := ⟨_, rfl⟩
  obtain ⟨g1, e1⟩ : ∃ g1, g1 = mm_setR (mm_new gc 14 3) u 12 (some (u + 3)) := ⟨_, rfl⟩
  have sb : mm_sz gb = u + 2 := by rw [eb]; show mm_sz ga + 1 = _; omega
  have sc : mm_sz gc = u + 3 := by rw [ec]; show mm_sz gb + 1 = _; omega
  have s1 : mm_sz g1 = u + 4 := by rw [e1]; show mm_sz gc + 1 = _; omega
  have kb : mm_kd (mm_new ga 14 3) u = 1 := by rw [kd_N, if_neg (by omega)]; exact ka
  have kb' : mm_kd gb u = 1 := by rw [eb]; exact kb
  have kc : mm_kd (mm_new gb 14 3) u = 1 := by rw [kd_N, if_neg (by omega)]; exact kb'
  have kc' : mm_kd gc u = 1 := by rw [ec]; exact kc
  have k1 : mm_kd (mm_new gc 14 3) u = 1 := by rw [kd_N, if_neg (by omega)]; exact kc'
  have k1' : mm_kd g1 u = 1 := by rw [e1]; exact k1
  have hinit : fX0_init u s b lt pr due now (mm_new hx 1 0) = some ((), g1) := by
    have k0 : mm_kd (mm_new hx 1 0) u = 1 := by rw [kd_N, if_pos hu]
    unfold fX0_init
    rw [q_ck k0]
    simp only [p_lt, ← ea, z3, sa, q_ck kb, ← eb, sb, q_ck kc, ← ec, sc, q_ck k1, ← e1]
  have x1 : mY B ow [] hx g1 := by
    rw [e1, ec, eb]
    exact (((((xa.N).R (Or.inr (Nat.le_of_eq hu.symm))).N).R (Or.inr (Nat.le_of_eq hu.symm))).N).R (Or.inr (Nat.le_of_eq hu.symm))
  have S1 := x1.S S
  have n1 : ¬ u + 1 = u + 2 := by omega
  have n2 : ¬ u + 1 = u + 3 := by omega
  have n3 : ¬ u + 2 = u + 3 := by omega
  have n4 : ¬ u = u + 1 := by omega
  have n5 : ¬ u = u + 2 := by omega
  have n6 : ¬ u = u + 3 := by omega
  have kd1 : mm_kd g1 (u + 1) = 14 := by rw [e1, kd_R, kd_N, sc, if_neg n2, ec, kd_R, kd_N, sb, if_neg n1, eb, kd_R, kd_N, sa, if_pos rfl]
  have kd2 : mm_kd g1 (u + 2) = 14 := by rw [e1, kd_R, kd_N, sc, if_neg n3, ec, kd_R, kd_N, sb, if_pos rfl]
  have kd3 : mm_kd g1 (u + 3) = 14 := by rw [e1, kd_R, kd_N, sc, if_pos rfl]
  have nn1 : mm_n g1 (u + 1) = 3 := by rw [e1, n_R, n_N, sc, if_neg n2, ec, n_R, n_N, sb, if_neg n1, eb, n_R, n_N, sa, if_pos rfl]
  have nn2 : mm_n g1 (u + 2) = 3 := by rw [e1, n_R, n_N, sc, if_neg n3, ec, n_R, n_N, sb, if_pos rfl]
  have nn3 : mm_n g1 (u + 3) = 3 := by rw [e1, n_R, n_N, sc, if_pos rfl]
  have r12 : mm_r g1 u 12 = some (u + 3) := by rw [e1, r_R, if_pos ⟨rfl, rfl⟩]
  have r11 : mm_r g1 u 11 = some (u + 2) := by rw [e1, r_R, if_neg (by simp), r_N, sc, if_neg n6, ec, r_R, if_pos ⟨rfl, rfl⟩]
  have r10 : mm_r g1 u 10 = some (u + 1) := by rw [e1, r_R, if_neg (by simp), r_N, sc, if_neg n6, ec, r_R, if_neg (by simp), r_N, sb, if_neg n5, eb, r_R, if_pos ⟨rfl, rfl⟩]
  have iu : ∀ j, mm_i g1 u j = mm_i ga u j := fun j => by rw [e1, i_R, i_N, sc, if_neg n6, ec, i_R, i_N, sb, if_neg n5, eb, i_R, i_N, sa, if_neg n4]
  have i1 : ∀ j, mm_i g1 (u + 1) j = 0 := fun j => by rw [e1, i_R, i_N, sc, if_neg n2, ec, i_R, i_N, sb, if_neg n1, eb, i_R, i_N, sa, if_pos rfl]
  have i2 : ∀ j, mm_i g1 (u + 2) j = 0 := fun j => by rw [e1, i_R, i_N, sc, if_neg n3, ec, i_R, i_N, sb, if_pos rfl]
  have i3 : ∀ j, mm_i g1 (u + 3) j = 0 := fun j => by rw [e1, i_R, i_N, sc, if_pos rfl]
  obtain ⟨o1, ho1⟩ : ∃ o1, o1 = oN (oN (oN (oN ow u 3 n) (u + 1) 5 n) (u + 2) 6 n) (u + 3) 7 n := ⟨_, rfl⟩
  have mo1 : mO ow o1 hx := fun a ha => by
    rw [ho1]
    unfold oN
    rw [if_neg (by omega), if_neg (by omega), if_neg (by omega), if_neg (by omega)]
  have ou : o1 u = (3, n) := by rw [ho1]; unfold oN; rw [if_neg (by omega), if_neg (by omega), if_neg (by omega), if_pos rfl]
  have ou1 : o1 (u + 1) = (5, n) := by rw [ho1]; unfold oN; rw [if_neg (by omega), if_neg (by omega), if_pos rfl]
  have ou2 : o1 (u + 2) = (6, n) := by rw [ho1]; unfold oN; rw [if_neg (by omega), if_pos rfl]
  have ou3 : o1 (u + 3) = (7, n) := by rw [ho1]; unfold oN; rw [if_pos rfl]
  have Lu : Lv B o1 g1 3 n u := ⟨by omega, by omega, ou⟩
  have Lu1 : Lv B o1 g1 5 n (u + 1) := ⟨by omega, by omega, ou1⟩
  have Lu2 : Lv B o1 g1 6 n (u + 2) := ⟨by omega, by omega, ou2⟩
  have Lu3 : Lv B o1 g1 7 n (u + 3) := ⟨by omega, by omega, ou3⟩
  have L1 : mL B o1 g1 (B + 3) 2 1 n (A 0) := L.up2 rfl (by omega) x1 mo1 (m := 7) rfl rfl (fun _ => rfl) (by decide)
  obtain ⟨g2, o2, f2, x2, m2, L2⟩ := x_add S1.1 (by omega) (Or.inr (Or.inl ⟨Or.inr (Or.inr (Or.inl rfl)), rfl⟩)) (sk3 S1) (by decide) L1 hn Lu k1'
  have y2 : mY B o1 [7] g1 g2 := wM_wL (m := 7) x2 rfl (by omega) (fun k hk => rfl) (fun _ => rfl) (by decide)
  have keepI : ∀ {t a : Nat}, Lv B o1 g1 t n a → t ≠ 12 → ∀ j, mm_i g2 a j = mm_i g1 a j := fun {t a} La ht j => by
    refine x2.i La.2.1 ?_
    rintro (z | z)
    · have := La.1; omega
    · have := z.2
      rw [La.2.2] at this
      exact ht (Prod.mk.inj this).1
  have keepR : ∀ {t a : Nat}, Lv B o1 g1 t n a → t ≠ 12 → ∀ j, mm_r g2 a j = mm_r g1 a j := fun {t a} La ht j => by
    refine x2.r La.2.1 ?_
    rintro (z | z)
    · have := La.1; omega
    · have := z.2
      rw [La.2.2] at this
      exact ht (Prod.mk.inj this).1
  obtain ⟨A', hA'⟩ : ∃ A' : Nat → Nat → Nat, A' = fun j k => if k = n then u + j else A j k := ⟨_, rfl⟩
  have An : ∀ j, A' j n = u + j := fun j => by rw [hA']; exact if_pos rfl
  have Ao : ∀ j k, k < n → A' j k = A j k := fun j k hk => by rw [hA']; exact if_neg (by omega)
  have A0 : A' 0 = fun k => if k = n then u else A 0 k := by rw [hA']; rfl
  refine ⟨g1, g2, o2, A', hinit, S1, f2, (wM_le x1 (by simp)).tr2 mo1 y2, mo1.tr x1 m2, by rw [A0]; exact L2, Ao, An 0, ⟨⟨?_, ?_, ?_⟩, ⟨?_, ?_, ?_⟩, ⟨?_, ?_, ?_⟩, ?_, ?_, ?_⟩, ?_, fun j i h1 h3 => ?_, fun t k a La ht i => ?_⟩
  · rw [An, An]; exact (keepR Lu (by decide) 10).trans r10
  · rw [An, An]; exact (keepR Lu (by decide) 11).trans r11
  · rw [An, An]; exact (keepR Lu (by decide) 12).trans r12
  · rw [An]; exact Lu1.up x2 m2
  · rw [An]; exact Lu2.up x2 m2
  · rw [An]; exact Lu3.up x2 m2
  · rw [An]; exact (x2.kd Lu1.2.1).trans kd1
  · rw [An]; exact (x2.kd Lu2.2.1).trans kd2
  · rw [An]; exact (x2.kd Lu3.2.1).trans kd3
  · rw [An]; exact (x2.n Lu1.2.1).trans nn1
  · rw [An]; exact (x2.n Lu2.2.1).trans nn2
  · rw [An]; exact (x2.n Lu3.2.1).trans nn3
  · have i0 : ∀ j, mm_i (mm_new hx 1 0) u j = 0 := fun j => by rw [i_N, if_pos hu]
    rw [keepI Lu (by decide), keepI Lu (by decide), keepI Lu (by decide), keepI Lu (by decide), keepI Lu (by decide), keepI Lu (by decide), keepI Lu (by decide), keepI Lu (by decide), keepI Lu (by decide), keepI Lu (by decide), iu, iu, iu, iu, iu, iu, iu, iu, iu, iu, ea]
    simp only [i_I, q_10, q_01, eq_self, i_I, Nat.reduceEqDiff, Nat.add_left_cancel_iff, Nat.add_eq_left, Nat.left_eq_add, and_false, false_and, and_true, true_and, if_true, if_false, and_self, not_true, not_false_iff, reduceCtorEq, i0]
  · have hj : j = 1 ∨ j = 2 ∨ j = 3 := by omega
    rw [An]
    rcases hj with rfl | rfl | rfl
    · exact (keepI Lu1 (by decide) i).trans (i1 i)
    · exact (keepI Lu2 (by decide) i).trans (i2 i)
    · exact (keepI Lu3 (by decide) i).trans (i3 i)
  · have la := La.2.1
    have lb := La.1
    have nw : ¬ wL B o1 (B + 3) 2 a i := by
      rintro (z | z)
      · omega
      · have := z.2
        rw [mo1 a la, La.2.2] at this
        exact ht (Prod.mk.inj this).1
    have nz : ¬ wM B ow [] a i := by unfold wM; simp
    exact ⟨(x2.i (by omega) nw).trans (x1.i la nz), (x2.r (by omega) nw).trans (x1.r la nz)⟩
end NB
