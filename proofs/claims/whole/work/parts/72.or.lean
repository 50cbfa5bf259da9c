/-! order -/
/-- the town at place i -/
def dgC (w : Int64) (i : Nat) : Int32 := (Int64.toInt32 ((w.toUInt64 >>> (((4 : Int32) * nI i).toInt64.toUInt64 &&& Int64.toUInt64 63)).toInt64)) &&& (15 : Int32)
def dgR (w : Int64) (i : Nat) : Int32 := Int64.toInt32 ((w >>> (((4 : Int32) * nI i).toInt64 &&& 63)) &&& (15 : Int64))
theorem dg_s1 : ∀ i, i < 8 → ((((4 : Int32) * nI i).toInt64.toUInt64 &&& Int64.toUInt64 63).toBitVec % 64).toNat = 4 * i := by decide +kernel
theorem dg_s2 : ∀ i, i < 8 → ((((4 : Int32) * nI i).toInt64 &&& 63).toBitVec.smod 64).toNat = 4 * i := by decide +kernel
theorem dg_15 : ∀ j, j < 32 → (15#32).getLsbD j = decide (j < 4) := by decide +kernel
theorem dg_15l : ∀ j, j < 32 → (15#64).getLsbD j = decide (j < 4) := by decide +kernel
theorem dg_eq (w : Int64) {i : Nat} (hi : i < 8) : dgR w i = dgC w i := by
  refine Int32.toBitVec_inj.mp ?_
  refine BitVec.eq_of_getLsbD_eq fun j hj => ?_
  have e1 : (dgC w i).toBitVec = ((w.toBitVec >>> (4 * i)).signExtend 32) &&& 15#32 := by
    unfold dgC
    rw [Int32.toBitVec_and, Int64.toBitVec_toInt32, UInt64.toBitVec_toInt64]
    refine congrArg (fun z => BitVec.signExtend 32 z &&& 15#32) ?_
    show w.toBitVec >>> ((((4 : Int32) * nI i).toInt64.toUInt64 &&& Int64.toUInt64 63).toBitVec % 64).toNat = _
    rw [dg_s1 i hi]
  have e2 : (dgR w i).toBitVec = ((w.toBitVec.sshiftRight (4 * i)) &&& 15#64).signExtend 32 := by
    unfold dgR
    rw [Int64.toBitVec_toInt32, Int64.toBitVec_and, Int64.toBitVec_shiftRight]
    unfold BitVec.sshiftRight'
    rw [dg_s2 i hi]
    rfl
  rw [e1, e2, BitVec.getLsbD_signExtend, BitVec.getLsbD_and, BitVec.getLsbD_and, BitVec.getLsbD_signExtend, BitVec.getLsbD_sshiftRight, BitVec.getLsbD_ushiftRight, dg_15 j hj, dg_15l j hj]
  by_cases c : j < 4
  · have : 4 * i + j < 64 := by omega
    have h64 : j < 64 := by omega
    simp [hj, c, this, h64]
  · have h64 : j < 64 := by omega
    simp [c, h64]
theorem dgC_rng (w : Int64) (i : Nat) : ∃ j : Nat, j < 16 ∧ dgC w i = nI j := by
  have h : ∀ x : Int32, ∃ j : Nat, j < 16 ∧ x &&& 15 = nI j := by
    intro x
    refine ⟨(x.toBitVec &&& 15#32).toNat, ?_, ?_⟩
    · rw [BitVec.toNat_and]
      exact Nat.lt_of_le_of_lt Nat.and_le_right (by decide)
    · refine Int32.toBitVec_inj.mp ?_
      rw [Int32.toBitVec_and]
      show _ = BitVec.ofNat 32 _
      rw [BitVec.ofNat_toNat, BitVec.setWidth_eq]
      rfl
  exact h _
def okF (w : Int64) : Nat → Nat → Int32 → Bool
  | 0, _, _ => true
  | e + 1, i, s => !decide (8 ≤ dgC w i) && (decide ((s >>> (dgC w i &&& 31)) &&& 1 = 0) && okF w e (i + 1) (s ||| ((1 : Int32) <<< (dgC w i &&& 31))))
theorem okF_lt {w : Int64} : ∀ {e i : Nat} {s : Int32}, okF w e i s = true → ∀ {j : Nat}, i ≤ j → j < i + e → ¬ 8 ≤ dgC w j := by
  intro e
  induction e with
  | zero => intro i s _ j h1 h2; omega
  | succ e ih =>
    intro i s h j h1 h2
    have hun : okF w (e + 1) i s = (!decide (8 ≤ dgC w i) && (decide ((s >>> (dgC w i &&& 31)) &&& 1 = 0) && okF w e (i + 1) (s ||| ((1 : Int32) <<< (dgC w i &&& 31))))) := rfl
    rw [hun] at h
    simp only [Bool.and_eq_true, Bool.not_eq_true', decide_eq_false_iff_not] at h
    by_cases q : j = i
    · rw [q]; exact h.1
    · exact ih h.2.2 (by omega) (by omega)
section OR
variable {B : Nat} {h hx hy hx' hy' : mm_H} {ow ow' : Nat → Nat × Nat} {n d nm nl nb a : Nat} {am al : Nat → Nat} {P C : Nat → Nat} {A U U' : Nat → Nat → Nat} {T : Nat → Int32} {x : Nat}
theorem bit_01 (s : Int32) {j : Nat} (hj : j < 8) : (s >>> (nI j &&& 31)) &&& 1 = 0 ∨ (s >>> (nI j &&& 31)) &&& 1 = 1 := by
  have := bitI_tb s (s := j) (by omega)
  unfold bitI at this
  rw [this]
  by_cases c : s.toBitVec.getLsbD j = true
  · rw [if_pos c]; exact Or.inr rfl
  · rw [if_neg c]; exact Or.inl rfl
theorem x_order_L35 {b4 : Int32} (w : Int64) (hn : n ≤ 8) (ha : mm_sz h ≤ a) (K : mm_H → Option (Int32 × mm_H)) : ∀ (e i fuel : Nat) (s : Int32) (g : mm_H), i + e = n → e < fuel → mY B ow [] h g → mm_kd g a = 14 → mm_n g a = n → a < mm_sz g → (∀ j, j < i → mm_i g a j = dgC w j) → ∃ g', fX11_order_L35 B (nI n) w b4 a K fuel s (nI i) g = (if okF w e i s = true then K g' else some (0, g')) ∧ mY B ow [] h g' ∧ mm_kd g' a = 14 ∧ mm_n g' a = n ∧ a < mm_sz g' ∧ (okF w e i s = true → ∀ j, j < n → mm_i g' a j = dgC w j) := by
  intro e
  induction e with
  | zero =>
    intro i fuel s g hi hf x k1 k2 k4 k3
    obtain ⟨f, rfl⟩ : ∃ f, fuel = f + 1 := ⟨fuel - 1, by omega⟩
    refine ⟨g, ?_, x, k1, k2, k4, fun _ j hj => k3 j (by omega)⟩
    show fX11_order_L35_b _ _ _ _ _ _ _ _ _ _ = _
    unfold fX11_order_L35_b
    rw [if_pos (by rw [show i = n by omega]; exact Int32.le_refl _)]
    rfl
  | succ e ih =>
    intro i fuel s g hi hf x k1 k2 k4 k3
    obtain ⟨f, rfl⟩ : ∃ f, fuel = f + 1 := ⟨fuel - 1, by omega⟩
    have hq := fun (β : Type) (z : Option β) => q_ckx (show i < n by omega) (by omega) z
    have hcl := nI_clamp (n := i) (by omega)
    have hv : (Int64.toInt32 ((w.toUInt64 >>> (((4 : Int32) * nI i).toInt64.toUInt64 &&& Int64.toUInt64 63)).toInt64)) &&& (15 : Int32) = dgC w i := rfl
    have hun : ∀ s : Int32, okF w (e + 1) i s = (!decide (8 ≤ dgC w i) && (decide ((s >>> (dgC w i &&& 31)) &&& 1 = 0) && okF w e (i + 1) (s ||| ((1 : Int32) <<< (dgC w i &&& 31))))) := fun _ => rfl
    have hst : fX11_order_L35 B (nI n) w b4 a K (f + 1) s (nI i) g = if 8 ≤ dgC w i then some (0, g) else if (s >>> (dgC w i &&& 31)) &&& 1 = 0 then fX11_order_L35 B (nI n) w b4 a K f (s ||| ((1 : Int32) <<< (dgC w i &&& 31))) (nI (i + 1)) (mm_setI g a i (dgC w i)) else some (0, g) := by
      show fX11_order_L35_b _ _ _ _ _ _ _ _ _ _ = _
      unfold fX11_order_L35_b
      rw [if_neg (nI_ge (by omega) (by omega)), hv, q_lt]
      simp only [q_rf, q_lt, q_cl, q_jn, q_b, q_b1, q_ck, kd_I, kd_J, kd_R, n_I, n_J, n_R, r_I, r_J, c_I, c_J, c_R, i_J, i_R, j_I, j_R, y_in, y_isDay, x_within, x_isDay, x_isTown, k1, k2, hq, hcl, nI_1]
    rw [hst]
    by_cases c1 : 8 ≤ dgC w i
    · have e0 : okF w (e + 1) i s = false := by rw [hun]; simp [c1]
      exact ⟨g, by rw [if_pos c1, e0]; simp, x, k1, k2, k4, fun z => by rw [e0] at z; simp at z⟩
    · by_cases c2 : (s >>> (dgC w i &&& 31)) &&& 1 = 0
      · have e0 : okF w (e + 1) i s = okF w e (i + 1) (s ||| ((1 : Int32) <<< (dgC w i &&& 31))) := by rw [hun]; simp [c1, c2]
        obtain ⟨g', q1, q2, q3, q4, q5, q6⟩ := ih (i + 1) f (s ||| ((1 : Int32) <<< (dgC w i &&& 31))) (mm_setI g a i (dgC w i)) (by omega) (by omega) (x.INw ha) k1 k2 k4 (fun j hj => by
          rw [i_I_at]
          by_cases e1 : j = i
          · rw [if_pos e1, e1]
          · rw [if_neg e1]; exact k3 j (by omega))
        refine ⟨g', ?_, q2, q3, q4, q5, ?_⟩
        · rw [if_neg c1, if_pos c2, e0]; exact q1
        · rw [e0]; exact q6
      · have e0 : okF w (e + 1) i s = false := by rw [hun]; simp [c1, c2]
        exact ⟨g, by rw [if_neg c1, if_neg c2, e0]; simp, x, k1, k2, k4, fun z => by rw [e0] at z; simp at z⟩
theorem y_order_L30 {b4 : Int32} (w : Int64) (hn : n ≤ 8) (K : mm_H → Option (Int32 × mm_H)) : ∀ (e i fuel : Nat) (s : Int32), i + e = n → e < fuel → fX12_order_L30 (B + 66) (nI n) w b4 K fuel s (nI i) h = if okF w e i s = true then K h else some (0, h) := by
  intro e
  induction e with
  | zero =>
    intro i fuel s hi hf
    obtain ⟨f, rfl⟩ : ∃ f, fuel = f + 1 := ⟨fuel - 1, by omega⟩
    show fX12_order_L30_b _ _ _ _ _ _ _ _ _ = _
    unfold fX12_order_L30_b
    rw [if_pos (by rw [show i = n by omega]; exact Int32.le_refl _)]
    rfl
  | succ e ih =>
    intro i fuel s hi hf
    obtain ⟨f, rfl⟩ : ∃ f, fuel = f + 1 := ⟨fuel - 1, by omega⟩
    have hv : Int64.toInt32 ((w >>> (((4 : Int32) * nI i).toInt64 &&& 63)) &&& (15 : Int64)) = dgC w i := dg_eq w (by omega)
    show fX12_order_L30_b _ _ _ _ _ _ _ _ _ = _
    unfold fX12_order_L30_b
    rw [if_neg (nI_ge (by omega) (by omega)), hv, q_lt]
    simp only [okF]
    by_cases c1 : 8 ≤ dgC w i
    · simp [c1]
    · obtain ⟨j, hj, ej⟩ := dgC_rng w i
      have hj8 : j < 8 := by
        refine Nat.not_le.mp fun z => c1 ?_
        rw [ej]; exact nI_le (a := 8) z (by omega)
      have hb := bit_01 s hj8
      rw [← ej] at hb
      by_cases c2 : (s >>> (dgC w i &&& 31)) &&& 1 = 0
      · have c3 : ¬ (s >>> (dgC w i &&& 31)) &&& 1 = 1 := by rw [c2]; decide
        simp only [c1, c2, c3, q_lt, nI_1, ih (i + 1) f _ (by omega) (by omega), q_01, if_false, if_true, not_false_iff, decide_true, decide_false, Bool.not_false, Bool.true_and]
      · have c3 : (s >>> (dgC w i &&& 31)) &&& 1 = 1 := by
          rcases hb with hb | hb
          · exact absurd hb c2
          · exact hb
        simp only [c1, c2, c3, q_10, not_true, if_false, decide_false, Bool.not_false, Bool.true_and, Bool.false_and, Bool.false_eq_true]
theorem y_order_L98 (w : Int64) (hn : n ≤ 8) (K : mm_H → Option (Int32 × mm_H)) : ∀ (e i fuel : Nat) (g : mm_H), i + e = n → e < fuel → mS B g → (∀ j, j < i → mm_i g (B + 116) j = dgC w j) → ∃ g', fX12_order_L98 (B + 66) (nI n) w K fuel (nI i) g = K g' ∧ (∀ o : Nat → Nat × Nat, mX B (fun a _ => a = B + 116) g g') ∧ ∀ j, j < n → mm_i g' (B + 116) j = dgC w j := by
  intro e
  induction e with
  | zero =>
    intro i fuel g hi hf S k3
    obtain ⟨f, rfl⟩ : ∃ f, fuel = f + 1 := ⟨fuel - 1, by omega⟩
    refine ⟨g, ?_, fun _ => mX.rf S.1, fun j hj => k3 j (by omega)⟩
    show fX12_order_L98_b _ _ _ _ _ _ _ = _
    unfold fX12_order_L98_b
    rw [if_pos (by rw [show i = n by omega]; exact Int32.le_refl _)]
  | succ e ih =>
    intro i fuel g hi hf S k3
    obtain ⟨f, rfl⟩ : ∃ f, fuel = f + 1 := ⟨fuel - 1, by omega⟩
    have hq := fun (β : Type) (z : Option β) => q_ckx (show i < 8 by omega) (by omega) z
    have hcl := nI_clamp (n := i) (by omega)
    have hv : Int64.toInt32 ((w >>> (((4 : Int32) * nI i).toInt64 &&& 63)) &&& (15 : Int64)) = dgC w i := dg_eq w (by omega)
    have x0 : mX B (fun a _ => a = B + 116) g (mm_setI g (B + 116) i (dgC w i)) := (mX.rf S.1).I (Or.inl rfl)
    obtain ⟨g', q1, q2, q3⟩ := ih (i + 1) f (mm_setI g (B + 116) i (dgC w i)) (by omega) (by omega) (x0.S S) (fun j hj => by
      rw [i_I_at]
      by_cases e1 : j = i
      · rw [if_pos e1, e1]
      · rw [if_neg e1]; exact k3 j (by omega))
    refine ⟨g', ?_, fun o => x0.tr (q2 o), q3⟩
    rw [← q1]
    show fX12_order_L98_b _ _ _ _ _ _ _ = _
    unfold fX12_order_L98_b
    rw [if_neg (nI_ge (by omega) (by omega)), hv]
    simp only [q_rf, q_lt, q_cl, q_jn, q_b, q_b1, q_ck, kd_I, kd_J, kd_R, n_I, n_J, n_R, r_I, r_J, c_I, c_J, c_R, i_J, i_R, j_I, j_R, y_in, y_isDay, x_within, x_isDay, x_isTown, sb_yorder S, hq, hcl, nI_1]
theorem T_order (S : mS B h) (R : REl B ow h h n d a) (b : Int32) (w : Int64) (c : Int32) : ∃ r h1 h2 ow' n' d' a', fX11_order B b w c h = some (r, h1) ∧ fX12_order (B + 66) b w c h1 = some (r, h2) ∧ mY B ow [3, 103] h h2 ∧ mO ow ow' h ∧ REl B ow' h2 h2 n' d' a' := by
  have hB := S.1
  have same : mY B ow [3, 103] h h := mX.rf hB
  unfold fX11_order fX12_order
  by_cases c1 : 1 ≤ b ∧ b ≤ 8
  case neg => exact ⟨0, h, h, ow, n, d, a, by simp only [q_rf, q_lt, q_cl, q_jn, q_b, q_b1, q_ck, kd_I, kd_J, kd_R, n_I, n_J, n_R, r_I, r_J, c_I, c_J, c_R, i_J, i_R, j_I, j_R, y_in, y_isDay, x_within, x_isDay, x_isTown, c1, q_10, q_01, eq_self, i_I, Nat.reduceEqDiff, Nat.add_left_cancel_iff, Nat.add_eq_left, Nat.left_eq_add, and_false, false_and, and_true, true_and, if_true, if_false, and_self, not_true, not_false_iff, reduceCtorEq], by simp only [q_rf, q_lt, q_cl, q_jn, q_b, q_b1, q_ck, kd_I, kd_J, kd_R, n_I, n_J, n_R, r_I, r_J, c_I, c_J, c_R, i_J, i_R, j_I, j_R, y_in, y_isDay, x_within, x_isDay, x_isTown, c1, q_10, q_01, eq_self, i_I, Nat.reduceEqDiff, Nat.add_left_cancel_iff, Nat.add_eq_left, Nat.left_eq_add, and_false, false_and, and_true, true_and, if_true, if_false, and_self, not_true, not_false_iff, reduceCtorEq], same, mO.rf, R⟩
  by_cases c2 : 1 ≤ c ∧ c ≤ 400
  case neg => exact ⟨0, h, h, ow, n, d, a, by simp only [q_rf, q_lt, q_cl, q_jn, q_b, q_b1, q_ck, kd_I, kd_J, kd_R, n_I, n_J, n_R, r_I, r_J, c_I, c_J, c_R, i_J, i_R, j_I, j_R, y_in, y_isDay, x_within, x_isDay, x_isTown, c1, c2, q_10, q_01, eq_self, i_I, Nat.reduceEqDiff, Nat.add_left_cancel_iff, Nat.add_eq_left, Nat.left_eq_add, and_false, false_and, and_true, true_and, if_true, if_false, and_self, not_true, not_false_iff, reduceCtorEq], by simp only [q_rf, q_lt, q_cl, q_jn, q_b, q_b1, q_ck, kd_I, kd_J, kd_R, n_I, n_J, n_R, r_I, r_J, c_I, c_J, c_R, i_J, i_R, j_I, j_R, y_in, y_isDay, x_within, x_isDay, x_isTown, c1, c2, q_10, q_01, eq_self, i_I, Nat.reduceEqDiff, Nat.add_left_cancel_iff, Nat.add_eq_left, Nat.left_eq_add, and_false, false_and, and_true, true_and, if_true, if_false, and_self, not_true, not_false_iff, reduceCtorEq], same, mO.rf, R⟩
  obtain ⟨m, hm, rfl⟩ := nI_of (Int32.not_lt.mpr (Int32.le_trans (by decide) c1.1))
  obtain ⟨e, he, rfl⟩ := nI_of (Int32.not_lt.mpr (Int32.le_trans (by decide) c2.1))
  have m1 : 1 ≤ m := (nI_leI (a := 1) (by omega) hm).mp c1.1
  have m8 : m ≤ 8 := (nI_leI (b := 8) hm (by omega)).mp c1.2
  have e1 : 1 ≤ e := (nI_leI (a := 1) (by omega) he).mp c2.1
  have e4 : e ≤ 400 := (nI_leI (b := 400) he (by omega)).mp c2.2
  have hcl := nI_clamp hm
  have k0 : ¬ nI m < 0 ∧ m ≤ 8 := ⟨nI_pos hm, m8⟩
  have k1 : mm_kd (mm_new h 14 m) (mm_sz h) = 14 := by rw [kd_N, if_pos rfl]
  have k2 : mm_n (mm_new h 14 m) (mm_sz h) = m := by rw [n_N, if_pos rfl]
  obtain ⟨g, q1, q2, q3, q4, q5, q6⟩ := x_order_L35 (B := B) (ow := ow) (h := h) (b4 := nI e) w m8 (Nat.le_refl _) (fun g22 => mm_ck (mm_kd g22 B = 12) (mm_lt (mm_setR g22 B 13 (some (mm_sz h))) fun g24 => mm_lt (mm_setI g24 B 14 (nI e)) fun g25 => some ((1 : Int32), g25))) m 0 mm_F 0 (mm_new h 14 m) (by omega) (by unfold mm_F; omega) (mX.rf hB).N k1 k2 (Nat.lt_succ_self _) (fun j hj => by omega)
  rw [nI_0] at q1
  have Sg := q2.S S
  have q7 := fun g => y_order_L30 (B := B) (h := g) (b4 := nI e) w m8 (fun g15 => mm_ck (mm_kd g15 (B + 66) = 13) (mm_lt (mm_setI g15 (B + 66) 73 (nI m)) fun g17 => mm_lt (mm_setI g17 (B + 66) 74 (nI e)) fun g18 => fX12_order_L98 (B + 66) (nI m) w (fun g26 => some ((1 : Int32), g26)) mm_F 0 g18)) m 0 mm_F 0 (by omega) (by unfold mm_F; omega)
  simp only [nI_0] at q7
  by_cases w1 : okF w m 0 0 = true
  case neg =>
    rw [if_neg w1] at q1
    have q8 := q7 g
    rw [if_neg w1] at q8
    refine ⟨0, g, g, ow, n, d, a, ?_, ?_, wM_le q2 (by simp), mO.rf, R.up q2 mO.rf q2 (by decide) (by decide)⟩
    · simp only [q_rf, q_lt, q_cl, q_jn, q_b, q_b1, q_ck, kd_I, kd_J, kd_R, n_I, n_J, n_R, r_I, r_J, c_I, c_J, c_R, i_J, i_R, j_I, j_R, y_in, y_isDay, x_within, x_isDay, x_isTown, c1, c2, hcl, q_10, q_01, eq_self, i_I, Nat.reduceEqDiff, Nat.add_left_cancel_iff, Nat.add_eq_left, Nat.left_eq_add, and_false, false_and, and_true, true_and, if_true, if_false, and_self, not_true, not_false_iff, reduceCtorEq]
      rw [q_ck k0]; exact q1
    · simp only [q_rf, q_lt, q_cl, q_jn, q_b, q_b1, q_ck, kd_I, kd_J, kd_R, n_I, n_J, n_R, r_I, r_J, c_I, c_J, c_R, i_J, i_R, j_I, j_R, y_in, y_isDay, x_within, x_isDay, x_isTown, c1, c2, q_10, q_01, eq_self, i_I, Nat.reduceEqDiff, Nat.add_left_cancel_iff, Nat.add_eq_left, Nat.left_eq_add, and_false, false_and, and_true, true_and, if_true, if_false, and_self, not_true, not_false_iff, reduceCtorEq]; exact q8
  case pos =>
    rw [if_pos w1] at q1
    obtain ⟨h1, f1⟩ : ∃ h1, h1 = mm_setI (mm_setR g B 13 (some (mm_sz h))) B 14 (nI e) := ⟨_, rfl⟩
    have x1 : mY B ow [3] g h1 := by
      rw [f1]
      exact ((mX.rf Sg.1).R (Or.inl ⟨wM_Z (m := 3) rfl (by decide), Or.inl ⟨rfl, rfl⟩⟩)).I0 (m := 3) rfl (by decide)
    have S1 := x1.S Sg
    have x2 : mY B ow [3] h h1 := (wM_le q2 (by simp)).tr x1
    have o1 : mO ow (oN ow (mm_sz h) 11 0) h := oN.mO (Nat.le_refl _)
    have q8 := q7 h1
    rw [if_pos w1] at q8
    obtain ⟨g2, f2⟩ : ∃ g2, g2 = mm_setI (mm_setI h1 (B + 66) 73 (nI m)) (B + 66) 74 (nI e) := ⟨_, rfl⟩
    have x3 : ∀ o : Nat → Nat × Nat, mY B o [103] h1 g2 := fun o => by
      rw [f2]
      exact ((mX.rf S1.1).IF (m := 103) (by omega) rfl (by decide)).IF (m := 103) (by omega) rfl (by decide)
    have S2 := (x3 ow).S S1
    obtain ⟨h2, p1, p2, p3⟩ := y_order_L98 (B := B) w m8 (fun g26 => some ((1 : Int32), g26)) m 0 mm_F g2 (by omega) (by unfold mm_F; omega) S2 (fun j hj => by omega)
    rw [nI_0] at p1
    have x4 : ∀ o : Nat → Nat × Nat, mY B o [103] g2 h2 := fun o => (p2 o).up fun a k _ z => by
      subst z; exact wM_F (m := 103) (by omega) rfl (by decide)
    have x5 : ∀ o : Nat → Nat × Nat, mY B o [103] h1 h2 := fun o => (x3 o).tr (x4 o)
    have Lg : Lv B (oN ow (mm_sz h) 11 0) h1 11 0 (mm_sz h) := ⟨hB, by have := x1.1.1; omega, oN.at⟩
    have kg : mm_kd h1 (mm_sz h) = 14 := by rw [f1]; exact q3
    have ng : mm_n h1 (mm_sz h) = m := by rw [f1]; exact q4
    have ig : ∀ j, mm_i h1 (mm_sz h) j = mm_i g (mm_sz h) j := fun j => by
      rw [f1, i_I_ne (by omega)]; rfl
    refine ⟨1, h1, h2, oN ow (mm_sz h) 11 0, m, e, mm_sz h, ?_, ?_, (wM_le x2 (by simp)).tr (wM_le (x5 ow) (by simp)), o1, ⟨?_, ?_, ?_⟩, ⟨m1, m8⟩, Or.inr (Lg.up (x5 (oN ow (mm_sz h) 11 0)) mO.rf), ?_, ⟨?_, ?_, e1, e4⟩, fun i hi => ?_⟩
    · simp only [q_rf, q_lt, q_cl, q_jn, q_b, q_b1, q_ck, kd_I, kd_J, kd_R, n_I, n_J, n_R, r_I, r_J, c_I, c_J, c_R, i_J, i_R, j_I, j_R, y_in, y_isDay, x_within, x_isDay, x_isTown, c1, c2, hcl, q_10, q_01, eq_self, i_I, Nat.reduceEqDiff, Nat.add_left_cancel_iff, Nat.add_eq_left, Nat.left_eq_add, and_false, false_and, and_true, true_and, if_true, if_false, and_self, not_true, not_false_iff, reduceCtorEq]
      rw [q_ck k0]
      refine q1.trans ?_
      rw [q_ck (sk0 Sg), q_lt, q_lt, f1]
    · simp only [q_rf, q_lt, q_cl, q_jn, q_b, q_b1, q_ck, kd_I, kd_J, kd_R, n_I, n_J, n_R, r_I, r_J, c_I, c_J, c_R, i_J, i_R, j_I, j_R, y_in, y_isDay, x_within, x_isDay, x_isTown, c1, c2, q_10, q_01, eq_self, i_I, Nat.reduceEqDiff, Nat.add_left_cancel_iff, Nat.add_eq_left, Nat.left_eq_add, and_false, false_and, and_true, true_and, if_true, if_false, and_self, not_true, not_false_iff, reduceCtorEq]
      refine q8.trans ?_
      rw [q_ck (sk66 S1), q_lt, q_lt, ← f2]
      exact p1
    · rw [(x5 ow).r0 (m := 3) rfl (by decide), f1, r_I, r_R, if_pos ⟨rfl, rfl⟩]
    · rw [(x5 ow).kd Lg.2.1]; exact kg
    · rw [(x5 ow).n Lg.2.1]; exact ng
    · rw [(p2 ow).i (by have := S2.1; omega) (by omega), f2]
      simp only [i_I, q_10, q_01, eq_self, i_I, Nat.reduceEqDiff, Nat.add_left_cancel_iff, Nat.add_eq_left, Nat.left_eq_add, and_false, false_and, and_true, true_and, if_true, if_false, and_self, not_true, not_false_iff, reduceCtorEq]
    · rw [(x5 ow).i0 (m := 3) rfl (by decide), f1]
      simp only [i_I, q_10, q_01, eq_self, i_I, Nat.reduceEqDiff, Nat.add_left_cancel_iff, Nat.add_eq_left, Nat.left_eq_add, and_false, false_and, and_true, true_and, if_true, if_false, and_self, not_true, not_false_iff, reduceCtorEq]
    · rw [(p2 ow).i (by have := S2.1; omega) (by omega), f2]
      simp only [i_I, q_10, q_01, eq_self, i_I, Nat.reduceEqDiff, Nat.add_left_cancel_iff, Nat.add_eq_left, Nat.left_eq_add, and_false, false_and, and_true, true_and, if_true, if_false, and_self, not_true, not_false_iff, reduceCtorEq]
    · rw [p3 i hi, (x5 (oN ow (mm_sz h) 11 0)).iL (m := 3) Lg rfl (by decide), ig, q6 w1 i hi]
      obtain ⟨j, hj, ej⟩ := dgC_rng w i
      have h8 := okF_lt w1 (j := i) (by omega) (by omega)
      have hj8 : j ≤ 7 := Nat.not_lt.mp fun z => h8 (by rw [ej]; exact nI_le (a := 8) z (by omega))
      rw [ej]
      exact ⟨rfl, nI_pos' (by omega), nI_le (b := 7) hj8 (by omega)⟩
end OR
