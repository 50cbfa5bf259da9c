/-! a new law of the class -/
section KX
variable {B : Nat} {h hx hy hx' hy' : mm_H} {ow ow' : Nat → Nat × Nat} {n z0 z1 L : Nat} {V Z G E : Nat → Nat → Nat}
theorem w0C {a k : Nat} {ms : List Nat} (h0 : 0 ∈ ms) (z : wC B a k) : wM B ow ms a k := by
  unfold wC at z
  rcases z with rfl | rfl | rfl | rfl | rfl | ⟨rfl, z⟩ | ⟨rfl, z⟩
  · exact wM_F (m := 0) (by omega) rfl h0
  · exact wM_F (m := 0) (by omega) rfl h0
  · exact wM_F (m := 0) (by omega) rfl h0
  · exact wM_F (m := 0) (by omega) rfl h0
  · exact wM_F (m := 0) (by omega) rfl h0
  · refine wM_F (j := 12) (m := 0) (by omega) ?_ h0
    show (if k = 0 then 8 else 0) = 0
    rw [if_neg z]
  · refine wM_F (j := 5) (m := 0) (by omega) ?_ h0
    show (if k = 1 then 9 else 0) = 0
    rw [if_neg (by omega)]
theorem w1Q {a k : Nat} {ms : List Nat} (h0 : 100 ∈ ms) (h8 : 108 ∈ ms) (z : wQy B L a k) : wM B ow ms a k := by
  unfold wQy wR at z
  rcases z with (⟨rfl, z⟩ | ⟨z, -⟩ | rfl) | ⟨z, -⟩ | ⟨rfl, -⟩
  · refine wM_F (j := 66) (m := 100) (by omega) ?_ h0
    have : k = 18 ∨ k = 19 ∨ k = 20 ∨ k = 21 ∨ k = 22 ∨ k = 33 ∨ k = 34 := by omega
    rcases this with rfl | rfl | rfl | rfl | rfl | rfl | rfl <;> rfl
  · rcases z with rfl | rfl <;> exact wM_F (m := 108) (by omega) rfl h8
  · exact wM_F (m := 100) (by omega) rfl h0
  · rcases z with rfl | rfl | rfl <;> exact wM_F (m := 108) (by omega) rfl h8
  · exact wM_F (m := 108) (by omega) rfl h8
/-- the four new cells of a law, as they lie -/
def lwH (h : mm_H) (B z0 z1 : Nat) (a b c : Int32) : mm_H := mm_setR (mm_setR (mm_setR (mm_setI (mm_setI (mm_setI (mm_new (mm_cpI (mm_cpI (mm_cpI (mm_new (mm_new (mm_new h 14 z0) 14 (z0 + 1)) 14 z1) (B + 11) 0 (mm_sz h) 0 z0) (B + 12) 0 (mm_sz h + 1) 0 (z0 + 1)) (B + 10) 0 (mm_sz h + 2) 0 z1) 5 0) (mm_sz h + 3) 0 a) (mm_sz h + 3) 2 b) (mm_sz h + 3) 1 c) (mm_sz h + 3) 3 (some (mm_sz h))) (mm_sz h + 3) 4 (some (mm_sz h + 1))) (mm_sz h + 3) 5 (some (mm_sz h + 2))
theorem x_lawOf (S : mS B h) (h13 : mm_i h (B + 5) 13 = nI z0) (hz0 : z0 ≤ 10) (h10 : mm_i h (B + 5) 10 = nI z1) (hz1 : z1 ≤ 400) (a b c : Int32) : fX5_lawOf (B + 5) a b c h = some (some (mm_sz h + 3), lwH h B z0 z1 a b c) := by
  have hB := S.1
  obtain ⟨g3, e3⟩ : ∃ g, g = mm_new h 14 z0 := ⟨_, rfl⟩
  obtain ⟨g8, e8⟩ : ∃ g, g = mm_new g3 14 (z0 + 1) := ⟨_, rfl⟩
  obtain ⟨g13, e13⟩ : ∃ g, g = mm_new g8 14 z1 := ⟨_, rfl⟩
  obtain ⟨g21, e21⟩ : ∃ g, g = mm_cpI g13 (B + 11) 0 (mm_sz h) 0 z0 := ⟨_, rfl⟩
  obtain ⟨g26, e26⟩ : ∃ g, g = mm_cpI g21 (B + 12) 0 (mm_sz h + 1) 0 (z0 + 1) := ⟨_, rfl⟩
  obtain ⟨g30, e30⟩ : ∃ g, g = mm_cpI g26 (B + 10) 0 (mm_sz h + 2) 0 z1 := ⟨_, rfl⟩
  obtain ⟨g31, e31⟩ : ∃ g, g = mm_new g30 5 0 := ⟨_, rfl⟩
  have x3 : mX B (fun _ _ => False) h g3 := by rw [e3]; exact (mX.rf hB).N
  have x8 : mX B (fun _ _ => False) h g8 := by rw [e8]; exact x3.N
  have x13 : mX B (fun _ _ => False) h g13 := by rw [e13]; exact x8.N
  have x21 : mX B (fun _ _ => False) h g21 := by rw [e21]; exact x13.Cp (Nat.le_refl _)
  have x26 : mX B (fun _ _ => False) h g26 := by rw [e26]; exact x21.Cp (by omega)
  have x30 : mX B (fun _ _ => False) h g30 := by rw [e30]; exact x26.Cp (by omega)
  have z3 : mm_sz g3 = mm_sz h + 1 := by rw [e3]; rfl
  have z8 : mm_sz g8 = mm_sz h + 2 := by rw [e8]; show mm_sz g3 + 1 = _; omega
  have z30 : mm_sz g30 = mm_sz h + 3 := by rw [e30, e26, e21, e13]; show mm_sz g8 + 1 = _; omega
  have f : ∀ {g}, mX B (fun _ _ => False) h g → mm_i g (B + 5) 13 = nI z0 ∧ mm_i g (B + 5) 10 = nI z1 := fun {g} x => ⟨(x.i (by omega) (fun z => z)).trans h13, (x.i (by omega) (fun z => z)).trans h10⟩
  have kd13 : mm_kd g13 (mm_sz h) = 14 ∧ mm_n g13 (mm_sz h) = z0 := by
    rw [e13, kd_N, n_N, if_neg (by omega), if_neg (by omega), e8, kd_N, n_N, if_neg (by omega), if_neg (by omega), e3, kd_N, n_N, if_pos rfl, if_pos rfl]; exact ⟨rfl, rfl⟩
  have kd13' : mm_kd g13 (mm_sz h + 1) = 14 ∧ mm_n g13 (mm_sz h + 1) = z0 + 1 := by
    rw [e13, kd_N, n_N, if_neg (by omega), if_neg (by omega), e8, kd_N, n_N, if_pos z3.symm, if_pos z3.symm]; exact ⟨rfl, rfl⟩
  have kd13'' : mm_kd g13 (mm_sz h + 2) = 14 ∧ mm_n g13 (mm_sz h + 2) = z1 := by
    rw [e13, kd_N, n_N, if_pos z8.symm, if_pos z8.symm]; exact ⟨rfl, rfl⟩
  have k21 : mm_kd g21 = mm_kd g13 ∧ mm_n g21 = mm_n g13 := by rw [e21]; exact ⟨rfl, rfl⟩
  have k26 : mm_kd g26 = mm_kd g13 ∧ mm_n g26 = mm_n g13 := by rw [e26]; exact k21
  have S3 := x3.S S
  have S8 := x8.S S
  have S13 := x13.S S
  have S21 := x21.S S
  have S26 := x26.S S
  have c0 := nI_clamp (n := z0) (by omega)
  have c01 := nI_clamp (n := z0 + 1) (by omega)
  have c1 := nI_clamp (n := z1) (by omega)
  have t0 : Int32.toNatClampNeg (0 : Int32) = 0 := by decide
  have d31 : mm_kd g31 (mm_sz h + 3) = 5 := by rw [e31, kd_N, if_pos z30.symm]
  have hini : fX4_init (mm_sz h + 3) a b c (mm_sz h) (mm_sz h + 1) (mm_sz h + 2) g31 = some ((), lwH h B z0 z1 a b c) := by
    unfold fX4_init lwH
    rw [q_ck d31, p_lt, p_lt, p_lt, p_lt, p_lt, p_lt, e31, e30, e26, e21, e13, e8, e3]
  unfold fX5_lawOf
  rw [q_ck (sk5 S), h13, c0, q_ck ⟨nI_pos (by omega), hz0⟩, ← e3, p_lt, p_lt, q_ck (sk5 S3), (f x3).1, nI_1, c01, q_ck ⟨nI_pos (by omega), by omega⟩, ← e8, p_lt, p_lt, q_ck (sk5 S8), (f x8).2, c1, q_ck ⟨nI_pos (by omega), hz1⟩, ← e13, p_lt, p_lt, z3, z8, q_ck (sk5 S13), sr5_11 S13, p_rf, q_ck (sk11 S13), q_ck kd13.1, (f x13).1, c0, t0, kd13.2, sn11 S13, q_ck ⟨by decide, by decide, nI_pos (by omega), by omega, by omega⟩, ← e21, p_lt, sr5_12 S21, p_rf, q_ck (sk12 S21), q_ck (by rw [k21.1]; exact kd13'.1), (f x21).1, nI_1, c01, k21.2, kd13'.2, ← k21.2, sn12 S21, q_ck ⟨by decide, by decide, nI_pos (by omega), by omega, by omega⟩, ← e26, p_lt, sr5_9 S26, p_rf, q_ck (sk10 S26), (f x26).2, c1, q_ck (by rw [k26.2, kd13''.2, ← k26.2, sn10 S26]; exact ⟨by decide, by decide, nI_pos (by omega), by omega, by omega⟩), ← e30, p_lt, ← e31, p_lt, p_lt, z30, hini, p_cl]
end KX
