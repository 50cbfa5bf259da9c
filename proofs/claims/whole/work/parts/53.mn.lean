/-! the men: man, leave, broke -/
def sumN (f : Nat → Nat) : Nat → Nat
  | 0 => 0
  | n + 1 => sumN f n + f n
theorem sumN_s {f : Nat → Nat} {n : Nat} : sumN f (n + 1) = sumN f n + f n := rfl
def mMan (B : Nat) (hx hy : mm_H) (k a : Nat) : Prop := (mm_i hy (B + 67) k = mm_i hx a 0 ∧ 0 ≤ mm_i hx a 0 ∧ mm_i hx a 0 ≤ 8) ∧ ((mm_i hx a 1 = 0 ∨ mm_i hx a 1 = 1) ∧ mm_i hy (B + 73) k = mm_i hx a 1) ∧ (mm_i hy (B + 69) k = mm_i hx a 2 ∧ 0 ≤ mm_i hx a 2 ∧ mm_i hx a 2 ≤ mm_i hx B 11) ∧ ((mm_i hx a 4 = -1 ∧ mm_i hy (B + 70) k = 100000) ∨ (0 ≤ mm_i hx a 4 ∧ mm_i hx a 4 ≤ mm_i hx B 11 ∧ mm_i hy (B + 70) k = mm_i hx a 4))
def RMn (B : Nat) (ow : Nat → Nat × Nat) (hx hy : mm_H) (n : Nat) (am : Nat → Nat) : Prop := n ≤ 40 ∧ mL B ow hx (B + 1) 0 8 n am ∧ mm_i hy (B + 66) 2 = nI n ∧ ∀ k, k < n → mMan B hx hy k (am k)
def bitI (x : Int32) (s : Nat) : Int32 := (x >>> (nI s &&& 31)) &&& 1
def RSl (B : Nat) (hx hy : mm_H) (n : Nat) (am : Nat → Nat) : Prop := (∀ k, k < n → mm_i hy (B + 71) k = mm_i hx (am k) 5 ∧ ∀ s, s < 20 → mm_i hy (B + 126) (40 * s + k) = bitI (mm_i hx (am k) 6) s) ∧ ∀ k, n ≤ k → k < 40 → mm_i hy (B + 71) k = 0 ∧ ∀ s, s < 20 → mm_i hy (B + 126) (40 * s + k) = 0
def RCo (B : Nat) (hx hy : mm_H) (n : Nat) (am : Nat → Nat) (P C : Nat → Nat) : Prop := mm_j hx B 12 = 0 ∧ (∀ k, k < n → mm_i hx (am k) 3 = nI (P k) ∧ mm_i hy (B + 68) k = nI (P k)) ∧ (∀ c, c < 10 → mm_i hx (B + 4) c = nI (C c) ∧ mm_i hy (B + 72) c = nI (C c)) ∧ sumN P n + sumN C 10 ≤ 1000000 * n
section MN
variable {B : Nat} {h hx hy hx' hy' : mm_H} {ow ow' : Nat → Nat × Nat} {n : Nat} {am : Nat → Nat} {P C : Nat → Nat}
theorem mMan.up {k a : Nat} (M : mMan B hx hy k a) {ms : List Nat} (L : Lv B ow hx 1 k a) (x : mY B ow ms hx hx') {ms' : List Nat} (y : mY B ow ms' hy hy') (h1 : 4 ∉ ms ∧ 24 ∉ ms) (h2 : 104 ∉ ms' ∧ 124 ∉ ms') (h3 : mm_i hx B 11 ≤ mm_i hx' B 11) : mMan B hx' hy' k a := by
  unfold mMan at *
  rw [y.iF (j := 67) (m := 104) (by omega) rfl h2.1, y.iF (j := 73) (m := 104) (by omega) rfl h2.1, y.iF (j := 69) (m := 104) (by omega) rfl h2.1, y.iF (j := 70) (m := 124) (by omega) rfl h2.2, x.iL (m := 4) (k := 0) L rfl h1.1, x.iL (m := 4) (k := 1) L rfl h1.1, x.iL (m := 4) (k := 2) L rfl h1.1, x.iL (m := 24) (k := 4) L rfl h1.2]
  obtain ⟨a1, a2, ⟨a3, a4, a5⟩, a6⟩ := M
  refine ⟨a1, a2, ⟨a3, a4, Int32.le_trans a5 h3⟩, a6.imp id fun z => ⟨z.1, Int32.le_trans z.2.1 h3, z.2.2⟩⟩
theorem RMn.up (R : RMn B ow hx hy n am) {ms : List Nat} (x : mY B ow ms hx hx') (o : mO ow ow' hx) {ms' : List Nat} (y : mY B ow ms' hy hy') (h1 : 4 ∉ ms ∧ 24 ∉ ms) (h2 : 104 ∉ ms' ∧ 124 ∉ ms') (h3 : mm_i hx B 11 ≤ mm_i hx' B 11) : RMn B ow' hx' hy' n am := by
  obtain ⟨a1, a2, a3, a4⟩ := R
  refine ⟨a1, a2.up2 rfl (by omega) x o (m := 4) rfl rfl (fun _ => rfl) h1.1, (y.iF (m := 104) (by omega) rfl h2.1).trans a3, fun k hk => (a4 k hk).up (a2.2.2.2 k hk).1 x y h1 h2 h3⟩
theorem RSl.up (R : RSl B hx hy n am) (R0 : mL B ow hx (B + 1) 0 8 n am) {ms : List Nat} (x : mY B ow ms hx hx') {ms' : List Nat} (y : mY B ow ms' hy hy') (h1 : 5 ∉ ms) (h2 : 105 ∉ ms') : RSl B hx' hy' n am := by
  obtain ⟨a1, a2⟩ := R
  refine ⟨fun k hk => ⟨?_, fun s hs => ?_⟩, fun k hk hk2 => ⟨?_, fun s hs => ?_⟩⟩
  · rw [y.iF (m := 105) (by omega) rfl h2, x.iL (m := 5) (R0.2.2.2 k hk).1 rfl h1]; exact (a1 k hk).1
  · rw [y.iF (m := 105) (by omega) rfl h2, x.iL (m := 5) (R0.2.2.2 k hk).1 rfl h1]; exact (a1 k hk).2 s hs
  · rw [y.iF (m := 105) (by omega) rfl h2]; exact (a2 k hk hk2).1
  · rw [y.iF (m := 105) (by omega) rfl h2]; exact (a2 k hk hk2).2 s hs
theorem RCo.up (R : RCo B hx hy n am P C) (R0 : mL B ow hx (B + 1) 0 8 n am) {ms : List Nat} (x : mY B ow ms hx hx') {ms' : List Nat} (y : mY B ow ms' hy hy') (h1 : 2 ∉ ms) (h2 : 102 ∉ ms') : RCo B hx' hy' n am P C := by
  obtain ⟨a1, a2, a3, a4⟩ := R
  refine ⟨(x.j0 (m := 2) rfl h1).trans a1, fun k hk => ⟨?_, ?_⟩, fun c hc => ⟨?_, ?_⟩, a4⟩
  · rw [x.iL (m := 2) (R0.2.2.2 k hk).1 rfl h1]; exact (a2 k hk).1
  · rw [y.iF (m := 102) (by omega) rfl h2]; exact (a2 k hk).2
  · rw [x.iF (m := 2) (by omega) rfl h1]; exact (a3 c hc).1
  · rw [y.iF (m := 102) (by omega) rfl h2]; exact (a3 c hc).2
theorem x_man7 {a b c d : Int32} (hb : b = 0 ∨ b = 1) (hB : B + 147 ≤ mm_sz h) : ∃ g1, fX7_init (mm_sz h) a b c d (mm_new h 8 0) = some ((), g1) ∧ mY B ow [] h g1 ∧ mm_sz g1 = mm_sz h + 1 ∧ mm_kd g1 (mm_sz h) = 8 ∧ (mm_i g1 (mm_sz h) 0 = a ∧ mm_i g1 (mm_sz h) 1 = b ∧ mm_i g1 (mm_sz h) 2 = d ∧ mm_i g1 (mm_sz h) 3 = c ∧ mm_i g1 (mm_sz h) 4 = -1 ∧ mm_i g1 (mm_sz h) 5 = 0 ∧ mm_i g1 (mm_sz h) 6 = 0) := by
  have k1 : mm_kd (mm_new h 8 0) (mm_sz h) = 8 := by rw [kd_N, if_pos rfl]
  have i1 : ∀ k, mm_i (mm_new h 8 0) (mm_sz h) k = 0 := fun k => by rw [i_N, if_pos rfl]
  refine ⟨mm_setI (mm_setI (mm_setI (mm_setI (mm_setI (mm_new h 8 0) (mm_sz h) 0 a) (mm_sz h) 1 b) (mm_sz h) 2 d) (mm_sz h) 3 c) (mm_sz h) 4 (-1), by unfold fX7_init; simp only [q_rf, q_lt, q_cl, q_jn, q_b, q_b1, q_ck, kd_I, kd_J, kd_R, n_I, n_J, n_R, r_I, r_J, c_I, c_J, c_R, i_J, i_R, j_I, j_R, y_in, y_isDay, x_within, x_isDay, x_isTown, k1, hb], ?_, rfl, k1, ?_⟩
  · exact ((((((mX.rf hB).N).INw (Nat.le_refl _)).INw (Nat.le_refl _)).INw (Nat.le_refl _)).INw (Nat.le_refl _)).INw (Nat.le_refl _)
  · simp only [q_10, q_01, eq_self, i_I, Nat.reduceEqDiff, Nat.add_left_cancel_iff, Nat.add_eq_left, Nat.left_eq_add, and_false, false_and, and_true, true_and, if_true, if_false, and_self, not_true, not_false_iff, reduceCtorEq, i1]
theorem x_manAt (S : mS B h) (L : mL B ow h (B + 1) 0 8 n am) {k : Nat} (hk : k < n) : fJx4a65c_get_915e3 (B + 1) (nI k) h = some (some (am k), h) := x_get (sk1 S) L hk
theorem sumN_le {f g : Nat → Nat} : ∀ {n : Nat}, (∀ k, k < n → f k = g k) → sumN f n = sumN g n := by
  intro n
  induction n with
  | zero => intro _; rfl
  | succ n ih => intro e; simp only [sumN]; rw [ih (fun k hk => e k (by omega)), e n (by omega)]
theorem bitI_0 (s : Nat) : bitI 0 s = 0 := by
  unfold bitI
  rw [Int32.zero_shiftRight, Int32.zero_and]
theorem T_man (S : mS B h) (N : RNow B h) (R : RMn B ow h h n am) (Q : RSl B h h n am) (M : RCo B h h n am P C) {a b c : Int32} (hb : b = 0 ∨ b = 1) : ∃ r h1 h2 ow' n' am' P', fX11_man B a b c h = some (r, h1) ∧ fX12_man (B + 66) a b c h1 = some (r, h2) ∧ mY B ow [4, 102, 104, 124] h h2 ∧ mO ow ow' h ∧ RMn B ow' h2 h2 n' am' ∧ RSl B h2 h2 n' am' ∧ RCo B h2 h2 n' am' P' C ∧ n ≤ n' ∧ ∀ k, k < n → am' k = am k := by
  obtain ⟨R1, R2, R3, R4⟩ := id R
  obtain ⟨N1, N2, N3⟩ := N
  have hB := S.1
  have hsz := x_size (sk1 S) R2
  have e40 : ((40 : Int32) ≤ nI n) = (40 ≤ n) := propext (nI_leI (a := 40) (by omega) (by omega))
  have e40' : (nI n = 40) = (n = 40) := propext (nI_eq (b := 40) (by omega) (by omega))
  have same : mY B ow [4, 102, 104, 124] h h := mX.rf hB
  unfold fX11_man fX12_man
  by_cases c1 : n = 40
  case pos =>
    have k1 : (40 ≤ n) = True := eq_true (by omega)
    have k2 : (nI n = 40) = True := by rw [e40']; exact eq_true c1
    exact ⟨-1, h, h, ow, n, am, P, by simp only [q_rf, q_lt, q_cl, q_jn, q_b, q_b1, q_ck, kd_I, kd_J, kd_R, n_I, n_J, n_R, r_I, r_J, c_I, c_J, c_R, i_J, i_R, j_I, j_R, y_in, y_isDay, x_within, x_isDay, x_isTown, sb_xbase S, hsz, e40, k1, if_true], by simp only [q_rf, q_lt, q_cl, q_jn, q_b, q_b1, q_ck, kd_I, kd_J, kd_R, n_I, n_J, n_R, r_I, r_J, c_I, c_J, c_R, i_J, i_R, j_I, j_R, y_in, y_isDay, x_within, x_isDay, x_isTown, sk66 S, R3, k2, if_true], same, mO.rf, R, Q, M, Nat.le_refl _, fun _ _ => rfl⟩
  have k1 : ¬ 40 ≤ n := by omega
  by_cases c2 : 0 ≤ a ∧ a ≤ 8
  case neg => exact ⟨-1, h, h, ow, n, am, P, by simp only [q_rf, q_lt, q_cl, q_jn, q_b, q_b1, q_ck, kd_I, kd_J, kd_R, n_I, n_J, n_R, r_I, r_J, c_I, c_J, c_R, i_J, i_R, j_I, j_R, y_in, y_isDay, x_within, x_isDay, x_isTown, sb_xbase S, hsz, e40, k1, c2, q_10, q_01, eq_self, i_I, Nat.reduceEqDiff, Nat.add_left_cancel_iff, Nat.add_eq_left, Nat.left_eq_add, and_false, false_and, and_true, true_and, if_true, if_false, and_self, not_true, not_false_iff, reduceCtorEq], by simp only [q_rf, q_lt, q_cl, q_jn, q_b, q_b1, q_ck, kd_I, kd_J, kd_R, n_I, n_J, n_R, r_I, r_J, c_I, c_J, c_R, i_J, i_R, j_I, j_R, y_in, y_isDay, x_within, x_isDay, x_isTown, sk66 S, R3, e40', c1, c2, q_10, q_01, eq_self, i_I, Nat.reduceEqDiff, Nat.add_left_cancel_iff, Nat.add_eq_left, Nat.left_eq_add, and_false, false_and, and_true, true_and, if_true, if_false, and_self, not_true, not_false_iff, reduceCtorEq], same, mO.rf, R, Q, M, Nat.le_refl _, fun _ _ => rfl⟩
  by_cases c3 : 0 ≤ c ∧ c ≤ 1000000
  case neg => exact ⟨-1, h, h, ow, n, am, P, by simp only [q_rf, q_lt, q_cl, q_jn, q_b, q_b1, q_ck, kd_I, kd_J, kd_R, n_I, n_J, n_R, r_I, r_J, c_I, c_J, c_R, i_J, i_R, j_I, j_R, y_in, y_isDay, x_within, x_isDay, x_isTown, sb_xbase S, hsz, e40, k1, c2, c3, q_10, q_01, eq_self, i_I, Nat.reduceEqDiff, Nat.add_left_cancel_iff, Nat.add_eq_left, Nat.left_eq_add, and_false, false_and, and_true, true_and, if_true, if_false, and_self, not_true, not_false_iff, reduceCtorEq], by simp only [q_rf, q_lt, q_cl, q_jn, q_b, q_b1, q_ck, kd_I, kd_J, kd_R, n_I, n_J, n_R, r_I, r_J, c_I, c_J, c_R, i_J, i_R, j_I, j_R, y_in, y_isDay, x_within, x_isDay, x_isTown, sk66 S, R3, e40', c1, c2, c3, q_10, q_01, eq_self, i_I, Nat.reduceEqDiff, Nat.add_left_cancel_iff, Nat.add_eq_left, Nat.left_eq_add, and_false, false_and, and_true, true_and, if_true, if_false, and_self, not_true, not_false_iff, reduceCtorEq], same, mO.rf, R, Q, M, Nat.le_refl _, fun _ _ => rfl⟩
  obtain ⟨g1, f1, x1, z1, d1, v0, v1, v2, v3, v4, v5, v6⟩ := x_man7 (ow := ow) (a := a) (c := c) (d := mm_i h B 11) hb hB
  have o1 : mO ow (oN ow (mm_sz h) 1 n) h := oN.mO (Nat.le_refl _)
  have L1 : mL B (oN ow (mm_sz h) 1 n) g1 (B + 1) 0 8 n am := R2.up2 rfl (by omega) x1 o1 (m := 4) rfl rfl (fun _ => rfl) (by decide)
  have U1 : Lv B (oN ow (mm_sz h) 1 n) g1 1 n (mm_sz h) := ⟨hB, by omega, oN.at⟩
  have S1 := x1.S S
  obtain ⟨g2, ow2, f2, x2, o2, L2⟩ := x_add S1.1 (by omega) (Or.inr (Or.inl ⟨Or.inl rfl, rfl⟩)) (sk1 S1) (by decide) L1 (by omega) U1 d1
  have y2 : mY B (oN ow (mm_sz h) 1 n) [4] g1 g2 := wM_wL (m := 4) x2 rfl (by omega) (fun k hk => rfl) (fun _ => rfl) (by decide)
  have S2 := x2.S S1
  have x3 : mY B ow [4] h g2 := (wM_le x1 (by simp)).tr2 o1 y2
  have o3 : mO ow ow2 h := o1.tr x1 o2
  have hsz2 := x_size (sk1 S2) L2
  have kB : mm_kd (mm_new h 8 0) B = 12 := by rw [kd_N, if_neg (by omega)]; exact sk0 S
  have iB : mm_i (mm_new h 8 0) B 11 = mm_i h B 11 := by rw [i_N, if_neg (by omega)]
  have r3 : mm_i g2 (B + 66) 2 = nI n := (x3.iF (m := 104) (by omega) rfl (by decide)).trans R3
  have r1 : mm_i g2 (B + 66) 1 = mm_i h B 11 := (x3.iF (m := 101) (by omega) rfl (by decide)).trans N1
  have hn : n < 40 := by omega
  have hx := fun (β : Type) (k : Option β) => q_ckx hn (by decide) k
  have hc := nI_clamp (n := n) (by omega)
  obtain ⟨h2, e2⟩ : ∃ h2, h2 = mm_setI (mm_setI (mm_setI (mm_setI (mm_setI (mm_setI g2 (B + 67) n a) (B + 73) n (b &&& 1)) (B + 68) n c) (B + 69) n (mm_i h B 11)) (B + 70) n 100000) (B + 66) 2 (nI (n + 1)) := ⟨_, rfl⟩
  have y4 : mY B ow [102, 104, 124] g2 h2 := by
    rw [e2]
    exact ((((((mX.rf S2.1).IF (m := 104) (by omega) rfl (by decide)).IF (m := 104) (by omega) rfl (by decide)).IF (m := 102) (by omega) rfl (by decide)).IF (m := 104) (by omega) rfl (by decide)).IF (m := 124) (by omega) rfl (by decide)).IF (m := 104) (by omega) rfl (by decide)
  have y5 : mY B ow2 [102, 104, 124] g2 h2 := by
    rw [e2]
    exact ((((((mX.rf S2.1).IF (m := 104) (by omega) rfl (by decide)).IF (m := 104) (by omega) rfl (by decide)).IF (m := 102) (by omega) rfl (by decide)).IF (m := 104) (by omega) rfl (by decide)).IF (m := 124) (by omega) rfl (by decide)).IF (m := 104) (by omega) rfl (by decide)
  have am_new : (fun k => if k = n then mm_sz h else am k) n = mm_sz h := if_pos rfl
  have am_old : ∀ {k}, k ≠ n → (fun k => if k = n then mm_sz h else am k) k = am k := fun e => if_neg e
  have U4 : ∀ j, mm_i h2 (mm_sz h) j = mm_i g1 (mm_sz h) j := fun j => by
    rw [e2]
    have q1 : ∀ i, i < 147 → ¬ mm_sz h = B + i := fun i hi => by omega
    simp only [i_I, q1 67 (by omega), q1 73 (by omega), q1 68 (by omega), q1 69 (by omega), q1 70 (by omega), q1 66 (by omega), false_and, if_false]
    refine x2.i (by omega) ?_
    rintro (z | z)
    · omega
    · have := z.2
      rw [oN.at] at this
      simp at this
  have old4 : ∀ {k j}, k < n → mm_i h2 (am k) j = mm_i h (am k) j := fun {k j} hk => by
    have Lk := (R2.2.2.2 k hk).1
    have := Lk.1
    rw [e2]
    have q1 : ∀ i, i < 147 → ¬ am k = B + i := fun i hi => by omega
    simp only [i_I, q1 67 (by omega), q1 73 (by omega), q1 68 (by omega), q1 69 (by omega), q1 70 (by omega), q1 66 (by omega), false_and, if_false]
    rw [x2.i (by have := Lk.2.1; omega) ?_]
    · exact x1.i Lk.2.1 (by unfold wM; simp)
    · rintro (z | z)
      · omega
      · have := z.2
        rw [(L1.2.2.2 k hk).1.2.2] at this
        simp at this
  refine ⟨nI n, g2, h2, ow2, n + 1, fun k => if k = n then mm_sz h else am k, fun k => if k = n then c.toNatClampNeg else P k, ?_, ?_, ?_, o3, ?_, ?_, ?_, Nat.le_succ _, fun k hk => if_neg (by omega)⟩
  · simp only [q_rf, q_lt, q_cl, q_jn, q_b, q_b1, q_ck, kd_I, kd_J, kd_R, n_I, n_J, n_R, r_I, r_J, c_I, c_J, c_R, i_J, i_R, j_I, j_R, y_in, y_isDay, x_within, x_isDay, x_isTown, sb_xbase S, hsz, e40, k1, c2, c3, kB, iB, f1, f2, sk1 S1, sk0 S2, sk1 S2, sr0_0 S2, hsz2, nI_pred, q_10, q_01, eq_self, i_I, Nat.reduceEqDiff, Nat.add_left_cancel_iff, Nat.add_eq_left, Nat.left_eq_add, and_false, false_and, and_true, true_and, if_true, if_false, and_self, not_true, not_false_iff, reduceCtorEq]
  · simp only [q_rf, q_lt, q_cl, q_jn, q_b, q_b1, q_ck, kd_I, kd_J, kd_R, n_I, n_J, n_R, r_I, r_J, c_I, c_J, c_R, i_J, i_R, j_I, j_R, y_in, y_isDay, x_within, x_isDay, x_isTown, sb_ymen S2, r3, e40', c1, c2, c3, hx, hc, r1, nI_1, nI_pred, q_10, q_01, eq_self, i_I, Nat.reduceEqDiff, Nat.add_left_cancel_iff, Nat.add_eq_left, Nat.left_eq_add, and_false, false_and, and_true, true_and, if_true, if_false, and_self, not_true, not_false_iff, reduceCtorEq, e2]
  · exact (wM_le x3 (by simp)).tr (wM_le y4 (by simp))
  · refine ⟨by omega, L2.up2 rfl (by omega) y5 mO.rf (m := 4) rfl rfl (fun _ => rfl) (by decide), by rw [e2, i_I, if_pos ⟨rfl, rfl⟩], fun k hk => ?_⟩
    have iN : mm_i h2 B 11 = mm_i h B 11 := (y5.i0 (m := 1) rfl (by decide)).trans (x3.i0 (m := 1) rfl (by decide))
    by_cases e : k = n
    · subst e
      rw [am_new]
      unfold mMan
      rw [U4 0, U4 1, U4 2, U4 4, v0, v1, v2, v4, iN]
      have w67 : mm_i h2 (B + 67) k = a := by rw [e2]; simp only [i_I, q_10, q_01, eq_self, i_I, Nat.reduceEqDiff, Nat.add_left_cancel_iff, Nat.add_eq_left, Nat.left_eq_add, and_false, false_and, and_true, true_and, if_true, if_false, and_self, not_true, not_false_iff, reduceCtorEq]
      have w73 : mm_i h2 (B + 73) k = b &&& 1 := by rw [e2]; simp only [i_I, q_10, q_01, eq_self, i_I, Nat.reduceEqDiff, Nat.add_left_cancel_iff, Nat.add_eq_left, Nat.left_eq_add, and_false, false_and, and_true, true_and, if_true, if_false, and_self, not_true, not_false_iff, reduceCtorEq]
      have w69 : mm_i h2 (B + 69) k = mm_i h B 11 := by rw [e2]; simp only [i_I, q_10, q_01, eq_self, i_I, Nat.reduceEqDiff, Nat.add_left_cancel_iff, Nat.add_eq_left, Nat.left_eq_add, and_false, false_and, and_true, true_and, if_true, if_false, and_self, not_true, not_false_iff, reduceCtorEq]
      have w70 : mm_i h2 (B + 70) k = 100000 := by rw [e2]; simp only [i_I, q_10, q_01, eq_self, i_I, Nat.reduceEqDiff, Nat.add_left_cancel_iff, Nat.add_eq_left, Nat.left_eq_add, and_false, false_and, and_true, true_and, if_true, if_false, and_self, not_true, not_false_iff, reduceCtorEq]
      rw [w67, w73, w69, w70]
      refine ⟨⟨rfl, c2.1, c2.2⟩, ⟨hb, ?_⟩, ⟨rfl, N2, Int32.le_refl _⟩, Or.inl ⟨rfl, rfl⟩⟩
      rcases hb with rfl | rfl <;> decide
    · rw [am_old e]
      have hk2 : k < n := by omega
      have M0 := R4 k hk2
      have Lk := (R2.2.2.2 k hk2).1
      unfold mMan at *
      rw [old4 hk2, old4 hk2, old4 hk2, old4 hk2, iN]
      have w67 : mm_i h2 (B + 67) k = mm_i h (B + 67) k := by rw [e2]; simp only [i_I, q_10, q_01, eq_self, i_I, Nat.reduceEqDiff, Nat.add_left_cancel_iff, Nat.add_eq_left, Nat.left_eq_add, and_false, false_and, and_true, true_and, if_true, if_false, and_self, not_true, not_false_iff, reduceCtorEq, e]; exact x3.iF (m := 104) (by omega) rfl (by decide)
      have w73 : mm_i h2 (B + 73) k = mm_i h (B + 73) k := by rw [e2]; simp only [i_I, q_10, q_01, eq_self, i_I, Nat.reduceEqDiff, Nat.add_left_cancel_iff, Nat.add_eq_left, Nat.left_eq_add, and_false, false_and, and_true, true_and, if_true, if_false, and_self, not_true, not_false_iff, reduceCtorEq, e]; exact x3.iF (m := 104) (by omega) rfl (by decide)
      have w69 : mm_i h2 (B + 69) k = mm_i h (B + 69) k := by rw [e2]; simp only [i_I, q_10, q_01, eq_self, i_I, Nat.reduceEqDiff, Nat.add_left_cancel_iff, Nat.add_eq_left, Nat.left_eq_add, and_false, false_and, and_true, true_and, if_true, if_false, and_self, not_true, not_false_iff, reduceCtorEq, e]; exact x3.iF (m := 104) (by omega) rfl (by decide)
      have w70 : mm_i h2 (B + 70) k = mm_i h (B + 70) k := by rw [e2]; simp only [i_I, q_10, q_01, eq_self, i_I, Nat.reduceEqDiff, Nat.add_left_cancel_iff, Nat.add_eq_left, Nat.left_eq_add, and_false, false_and, and_true, true_and, if_true, if_false, and_self, not_true, not_false_iff, reduceCtorEq, e]; exact x3.iF (m := 124) (by omega) rfl (by decide)
      rw [w67, w73, w69, w70]
      exact M0
  · refine ⟨fun k hk => ?_, fun k hk hk2 => ⟨?_, fun s hs => ?_⟩⟩
    · by_cases e : k = n
      · subst e
        rw [am_new, U4 5, U4 6, v5, v6]
        refine ⟨?_, fun s hs => ?_⟩
        · rw [y5.iF (m := 105) (by omega) rfl (by decide), x3.iF (m := 105) (by omega) rfl (by decide)]
          exact (Q.2 k (Nat.le_refl _) hn).1
        · rw [bitI_0, y5.iF (m := 105) (by omega) rfl (by decide), x3.iF (m := 105) (by omega) rfl (by decide)]
          exact (Q.2 k (Nat.le_refl _) hn).2 s hs
      · rw [am_old e]
        have hk2 : k < n := by omega
        rw [old4 hk2, old4 hk2]
        obtain ⟨q1, q2⟩ := Q.1 k hk2
        refine ⟨?_, fun s hs => ?_⟩
        · rw [y5.iF (m := 105) (by omega) rfl (by decide), x3.iF (m := 105) (by omega) rfl (by decide)]; exact q1
        · rw [y5.iF (m := 105) (by omega) rfl (by decide), x3.iF (m := 105) (by omega) rfl (by decide)]; exact q2 s hs
    · rw [y5.iF (m := 105) (by omega) rfl (by decide), x3.iF (m := 105) (by omega) rfl (by decide)]
      exact (Q.2 k (by omega) hk2).1
    · rw [y5.iF (m := 105) (by omega) rfl (by decide), x3.iF (m := 105) (by omega) rfl (by decide)]
      exact (Q.2 k (by omega) hk2).2 s hs
  · obtain ⟨q1, q2, q3, q4⟩ := M
    obtain ⟨c9, hc9, rfl⟩ := nI_of (Int32.not_lt.mpr c3.1)
    have c8 : c9 ≤ 1000000 := (nI_leI (b := 1000000) hc9 (by omega)).mp c3.2
    have hcl9 := nI_clamp hc9
    refine ⟨?_, fun k hk => ?_, fun t ht => ⟨?_, ?_⟩, ?_⟩
    · rw [y5.j0 (m := 2) rfl (by decide), x3.j0 (m := 2) rfl (by decide)]; exact q1
    · by_cases e : k = n
      · subst e
        rw [am_new, U4 3, v3]
        have w68 : mm_i h2 (B + 68) k = nI c9 := by rw [e2]; simp only [i_I, q_10, q_01, eq_self, i_I, Nat.reduceEqDiff, Nat.add_left_cancel_iff, Nat.add_eq_left, Nat.left_eq_add, and_false, false_and, and_true, true_and, if_true, if_false, and_self, not_true, not_false_iff, reduceCtorEq]
        simp only [w68, if_true, hcl9, and_self]
      · rw [am_old e, old4 (by omega)]
        have w68 : mm_i h2 (B + 68) k = mm_i h (B + 68) k := by rw [e2]; simp only [i_I, q_10, q_01, eq_self, i_I, Nat.reduceEqDiff, Nat.add_left_cancel_iff, Nat.add_eq_left, Nat.left_eq_add, and_false, false_and, and_true, true_and, if_true, if_false, and_self, not_true, not_false_iff, reduceCtorEq, e]; exact x3.iF (m := 102) (by omega) rfl (by decide)
        simp only [w68, e, if_false]
        exact q2 k (by omega)
    · rw [y5.iF (m := 2) (by omega) rfl (by decide), x3.iF (m := 2) (by omega) rfl (by decide)]; exact (q3 t ht).1
    · have w72 : mm_i h2 (B + 72) t = mm_i h (B + 72) t := by rw [e2]; simp only [i_I, q_10, q_01, eq_self, i_I, Nat.reduceEqDiff, Nat.add_left_cancel_iff, Nat.add_eq_left, Nat.left_eq_add, and_false, false_and, and_true, true_and, if_true, if_false, and_self, not_true, not_false_iff, reduceCtorEq]; exact x3.iF (m := 102) (by omega) rfl (by decide)
      rw [w72]; exact (q3 t ht).2
    · have e1 : sumN (fun k => if k = n then (nI c9).toNatClampNeg else P k) n = sumN P n := sumN_le fun k hk => if_neg (by omega)
      rw [sumN_s, e1, if_pos rfl, hcl9]
      omega
end MN
