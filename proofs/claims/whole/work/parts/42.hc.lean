/-! hands, the end -/
def wHx (B : Nat) : Nat → Nat → Prop := fun a k => (a = B + 47 ∧ k = 5) ∨ a = B + 51
def wHy (B : Nat) : Nat → Nat → Prop := fun a k => (a = B + 66 ∧ k = 103) ∨ a = B + 140
theorem stL_congr {P Q : Nat → Bool} : ∀ {e s : Nat}, (∀ j, P j = Q j) → stL P e s = stL Q e s := by
  intro e
  induction e with
  | zero => intro s _; rfl
  | succ e ih => intro s h; simp only [stL]; rw [h s, ih h]
theorem hdS_congr {f0 f1 f2 g0 g1 g2 : Nat → Int32} {p : Nat} (hf : ∀ i, i < p → g0 i = f0 i ∧ g1 i = f1 i ∧ g2 i = f2 i) (s : Nat) : hdS g0 g1 g2 p s = hdS f0 f1 f2 p s := by
  unfold hdS
  congr 1
  refine anyF_congr fun j _ hj => ?_
  obtain ⟨h1, h2, h3⟩ := hf j (by omega)
  unfold hdB hdP
  rw [h1, h2, h3]
section HC
variable {B : Nat}
theorem x_fh_L14 {p : Nat} (hp : p ≤ 8) (f0 f1 f2 : Nat → Int32) : ∀ (e s m : Nat) (h : mm_H) (fuel : Nat), s + e = 2 ^ p → e < fuel → m ≤ s → mS B h → mm_i h (B + 48) = f0 → mm_i h (B + 49) = f1 → mm_i h (B + 50) = f2 → mm_i h (B + 47) 5 = nI m → ∃ h', (∀ K, fX3_findHolding_L14 (B + 47) (nI p) K fuel (nI s) h = K h') ∧ mW (wHx B) h h' ∧ mm_i h' (B + 47) 5 = nI (m + (stL (hdS f0 f1 f2 p) e s).length) ∧ (∀ k, k < m → mm_i h' (B + 51) k = mm_i h (B + 51) k) ∧ ∀ k, k < (stL (hdS f0 f1 f2 p) e s).length → mm_i h' (B + 51) (m + k) = nI ((stL (hdS f0 f1 f2 p) e s).getD k 0) := by
  have h256 := p_256 p hp
  intro e
  induction e with
  | zero =>
    intro s m h fuel hi hf hm S r0 r1 r2 r5
    obtain ⟨f, rfl⟩ : ∃ f, fuel = f + 1 := ⟨fuel - 1, by omega⟩
    refine ⟨h, fun K => ?_, mW.rf, r5, fun k _ => rfl, fun k hk => absurd hk (Nat.not_lt_zero k)⟩
    show fX3_findHolding_L14_b _ _ _ _ _ _ = _
    unfold fX3_findHolding_L14_b
    rw [sh_p p hp, if_pos (by rw [show s = 2 ^ p by omega]; exact Int32.le_refl _)]
  | succ e ih =>
    intro s m h fuel hi hf hm S r0 r1 r2 r5
    obtain ⟨f, rfl⟩ : ∃ f, fuel = f + 1 := ⟨fuel - 1, by omega⟩
    have hx := fun (β : Type) (k : Option β) => q_ckx (show m < 256 by omega) (by decide) k
    have hc := nI_clamp (n := m) (by omega)
    have hst := x_isStable S hp (show s < 2 ^ p by omega)
    rw [r0, r1, r2] at hst
    rcases Bool.eq_false_or_eq_true (hdS f0 f1 f2 p s) with e1 | e1
    · obtain ⟨h', q1, q2, q3, q4, q5⟩ := ih (s + 1) (m + 1) (mm_setI (mm_setI h (B + 51) m (nI s)) (B + 47) 5 (nI (m + 1))) f (by omega) (by omega) (by omega) S (by rw [← r0]; funext y; simp [i_I]) (by rw [← r1]; funext y; simp [i_I]) (by rw [← r2]; funext y; simp [i_I]) (by simp [i_I])
      refine ⟨h', fun K => ?_, ⟨q2.1, fun a k w => ?_⟩, ?_, fun k hk => ?_, fun k hk => ?_⟩
      · show fX3_findHolding_L14_b _ _ _ _ _ _ = _
        unfold fX3_findHolding_L14_b
        rw [sh_p p hp, if_neg (nI_ge (by omega) (by omega))]
        simp only [q_rf, q_lt, q_cl, q_jn, q_b, q_b1, q_ck, kd_I, kd_J, kd_R, n_I, n_J, n_R, r_I, r_J, c_I, c_J, c_R, i_J, i_R, j_I, j_R, y_in, y_isDay, x_within, x_isDay, x_isTown, sb_xhands S, hst, e1, r5, hx, hc, nI_1, q_10, q_01, eq_self, i_I, Nat.reduceEqDiff, Nat.add_left_cancel_iff, Nat.add_eq_left, Nat.left_eq_add, and_false, false_and, and_true, true_and, if_true, if_false, and_self, not_true, not_false_iff, reduceCtorEq]
        exact q1 K
      · obtain ⟨w1, w2⟩ := q2.2 a k w
        refine ⟨w1.trans ?_, w2⟩
        have n1 : ¬ (a = B + 47 ∧ k = 5) := fun z => w (Or.inl z)
        have n2 : ¬ (a = B + 51 ∧ k = m) := fun z => w (Or.inr z.1)
        rw [i_I, if_neg n1, i_I, if_neg n2]
      · rw [q3]
        simp only [stL, e1, if_true, List.length_cons]
        congr 1
        omega
      · rw [q4 k (by omega)]
        have n2 : ¬ k = m := by omega
        simp [i_I, n2]
      · simp only [stL, e1, if_true, List.length_cons] at hk ⊢
        cases k with
        | zero =>
          show mm_i h' (B + 51) m = nI s
          rw [q4 m (by omega)]
          simp [i_I]
        | succ k =>
          rw [show m + (k + 1) = m + 1 + k by omega, q5 k (by omega)]
          rfl
    · obtain ⟨h', q1, q2, q3, q4, q5⟩ := ih (s + 1) m h f (by omega) (by omega) (by omega) S r0 r1 r2 r5
      refine ⟨h', fun K => ?_, q2, ?_, q4, ?_⟩
      · show fX3_findHolding_L14_b _ _ _ _ _ _ = _
        unfold fX3_findHolding_L14_b
        rw [sh_p p hp, if_neg (nI_ge (by omega) (by omega))]
        simp only [q_rf, q_lt, q_cl, q_jn, q_b, q_b1, q_ck, kd_I, kd_J, kd_R, n_I, n_J, n_R, r_I, r_J, c_I, c_J, c_R, i_J, i_R, j_I, j_R, y_in, y_isDay, x_within, x_isDay, x_isTown, sb_xhands S, hst, e1, nI_1, q_10, q_01, eq_self, i_I, Nat.reduceEqDiff, Nat.add_left_cancel_iff, Nat.add_eq_left, Nat.left_eq_add, and_false, false_and, and_true, true_and, if_true, if_false, and_self, not_true, not_false_iff, reduceCtorEq, Bool.false_eq_true]
        exact q1 K
      · simp only [stL, e1, Bool.false_eq_true, if_false]; exact q3
      · simp only [stL, e1, Bool.false_eq_true, if_false]; exact q5
theorem y_br_L27 {p : Nat} (hp : p ≤ 8) (f0 f1 f2 : Nat → Int32) : ∀ (e s m : Nat) (h : mm_H) (fuel : Nat), s + e = 2 ^ p → e < fuel → m ≤ s → mS B h → mm_i h (B + 137) = f0 → mm_i h (B + 138) = f1 → mm_i h (B + 139) = f2 → mm_i h (B + 66) 103 = nI m → ∃ h', (∀ K, fX12_breakers_L27 (B + 66) (nI p) K fuel (nI s) h = K h') ∧ mW (wHy B) h h' ∧ mm_i h' (B + 66) 103 = nI (m + (stL (hdS f0 f1 f2 p) e s).length) ∧ (∀ k, k < m → mm_i h' (B + 140) k = mm_i h (B + 140) k) ∧ ∀ k, k < (stL (hdS f0 f1 f2 p) e s).length → mm_i h' (B + 140) (m + k) = nI ((stL (hdS f0 f1 f2 p) e s).getD k 0) := by
  have h256 := p_256 p hp
  intro e
  induction e with
  | zero =>
    intro s m h fuel hi hf hm S r0 r1 r2 r5
    obtain ⟨f, rfl⟩ : ∃ f, fuel = f + 1 := ⟨fuel - 1, by omega⟩
    refine ⟨h, fun K => ?_, mW.rf, r5, fun k _ => rfl, fun k hk => absurd hk (Nat.not_lt_zero k)⟩
    show fX12_breakers_L27_b _ _ _ _ _ _ = _
    unfold fX12_breakers_L27_b
    rw [sh_p p hp, if_pos (by rw [show s = 2 ^ p by omega]; exact Int32.le_refl _)]
  | succ e ih =>
    intro s m h fuel hi hf hm S r0 r1 r2 r5
    obtain ⟨f, rfl⟩ : ∃ f, fuel = f + 1 := ⟨fuel - 1, by omega⟩
    have hx := fun (β : Type) (k : Option β) => q_ckx (show m < 256 by omega) (by decide) k
    have hc := nI_clamp (n := m) (by omega)
    have hL39 : ∀ K' : Int32 → mm_H → Option (Int32 × mm_H), fX12_breakers_L39 (B + 66) (nI p) (nI s) K' mm_F 0 0 h = K' (pcF (nI s) p 0 0) h := fun K' => by
      have := y_breakers_L39 (B := B) (h := h) (nI p) (nI s) p rfl hp K' p 0 mm_F 0 (by omega) (by unfold mm_F; omega)
      rwa [nI_0] at this
    have hL66 : ∀ K' : Int32 → mm_H → Option (Int32 × mm_H), fX12_breakers_L66 (B + 66) (nI p) (nI s) (pcF (nI s) p 0 0) K' mm_F 1 0 h = K' (if hdS f0 f1 f2 p s then 1 else 0) h := fun K' => by
      have := y_breakers_L66 S hp (show s < 2 ^ p by omega) (pcF (nI s) p 0 0) K' p 0 mm_F 1 (by omega) (by unfold mm_F; omega) (Or.inr rfl)
      rw [nI_0, r0, r1, r2] at this
      rw [this]
      unfold hdS
      rcases Bool.eq_false_or_eq_true (anyF (hdB f0 f1 f2 (nI s) (pcF (nI s) p 0 0)) p 0) with z | z <;> simp [z]
    rcases Bool.eq_false_or_eq_true (hdS f0 f1 f2 p s) with e1 | e1
    · obtain ⟨h', q1, q2, q3, q4, q5⟩ := ih (s + 1) (m + 1) (mm_setI (mm_setI h (B + 140) m (nI s)) (B + 66) 103 (nI (m + 1))) f (by omega) (by omega) (by omega) S (by rw [← r0]; funext y; simp [i_I]) (by rw [← r1]; funext y; simp [i_I]) (by rw [← r2]; funext y; simp [i_I]) (by simp [i_I])
      refine ⟨h', fun K => ?_, ⟨q2.1, fun a k w => ?_⟩, ?_, fun k hk => ?_, fun k hk => ?_⟩
      · show fX12_breakers_L27_b _ _ _ _ _ _ = _
        unfold fX12_breakers_L27_b
        rw [sh_p p hp, if_neg (nI_ge (by omega) (by omega)), hL39, hL66]
        simp only [q_rf, q_lt, q_cl, q_jn, q_b, q_b1, q_ck, kd_I, kd_J, kd_R, n_I, n_J, n_R, r_I, r_J, c_I, c_J, c_R, i_J, i_R, j_I, j_R, y_in, y_isDay, x_within, x_isDay, x_isTown, sb_yhands S, e1, r5, hx, hc, nI_1, q_10, q_01, eq_self, i_I, Nat.reduceEqDiff, Nat.add_left_cancel_iff, Nat.add_eq_left, Nat.left_eq_add, and_false, false_and, and_true, true_and, if_true, if_false, and_self, not_true, not_false_iff, reduceCtorEq]
        exact q1 K
      · obtain ⟨w1, w2⟩ := q2.2 a k w
        refine ⟨w1.trans ?_, w2⟩
        have n1 : ¬ (a = B + 66 ∧ k = 103) := fun z => w (Or.inl z)
        have n2 : ¬ (a = B + 140 ∧ k = m) := fun z => w (Or.inr z.1)
        rw [i_I, if_neg n1, i_I, if_neg n2]
      · rw [q3]
        simp only [stL, e1, if_true, List.length_cons]
        congr 1
        omega
      · rw [q4 k (by omega)]
        have n2 : ¬ k = m := by omega
        simp [i_I, n2]
      · simp only [stL, e1, if_true, List.length_cons] at hk ⊢
        cases k with
        | zero =>
          show mm_i h' (B + 140) m = nI s
          rw [q4 m (by omega)]
          simp [i_I]
        | succ k =>
          rw [show m + (k + 1) = m + 1 + k by omega, q5 k (by omega)]
          rfl
    · obtain ⟨h', q1, q2, q3, q4, q5⟩ := ih (s + 1) m h f (by omega) (by omega) (by omega) S r0 r1 r2 r5
      refine ⟨h', fun K => ?_, q2, ?_, q4, ?_⟩
      · show fX12_breakers_L27_b _ _ _ _ _ _ = _
        unfold fX12_breakers_L27_b
        rw [sh_p p hp, if_neg (nI_ge (by omega) (by omega)), hL39, hL66]
        simp only [q_rf, q_lt, q_cl, q_jn, q_b, q_b1, q_ck, kd_I, kd_J, kd_R, n_I, n_J, n_R, r_I, r_J, c_I, c_J, c_R, i_J, i_R, j_I, j_R, y_in, y_isDay, x_within, x_isDay, x_isTown, sb_yhands S, e1, nI_1, q_10, q_01, eq_self, i_I, Nat.reduceEqDiff, Nat.add_left_cancel_iff, Nat.add_eq_left, Nat.left_eq_add, and_false, false_and, and_true, true_and, if_true, if_false, and_self, not_true, not_false_iff, reduceCtorEq, Bool.false_eq_true]
        exact q1 K
      · simp only [stL, e1, Bool.false_eq_true, if_false]; exact q3
      · simp only [stL, e1, Bool.false_eq_true, if_false]; exact q5
variable {h : mm_H}
theorem T_holds (S : mS B h) (R : RHa B h) (a : Int32) : ∃ r, fX11_holds B a h = some (r, h) ∧ fX12_holds_ (B + 66) a h = some (r, h) := by
  obtain ⟨-, m, m1, m2, m3, m4⟩ := R
  unfold fX11_holds fX12_holds_
  by_cases c0 : a < 0
  case pos =>
    have c1 : ¬ (0 ≤ a ∧ a ≤ nI m - 1) := fun z => absurd z.1 (Int32.not_le.mpr c0)
    exact ⟨-1, by simp only [c0, q_rf, q_lt, q_cl, q_jn, q_b, q_b1, q_ck, kd_I, kd_J, kd_R, n_I, n_J, n_R, r_I, r_J, c_I, c_J, c_R, i_J, i_R, j_I, j_R, y_in, y_isDay, x_within, x_isDay, x_isTown, q_10, q_01, eq_self, i_I, Nat.reduceEqDiff, Nat.add_left_cancel_iff, Nat.add_eq_left, Nat.left_eq_add, and_false, false_and, and_true, true_and, if_true, if_false, and_self, not_true, not_false_iff, reduceCtorEq, sb_xhands S], by simp only [c1, m3, q_rf, q_lt, q_cl, q_jn, q_b, q_b1, q_ck, kd_I, kd_J, kd_R, n_I, n_J, n_R, r_I, r_J, c_I, c_J, c_R, i_J, i_R, j_I, j_R, y_in, y_isDay, x_within, x_isDay, x_isTown, q_10, q_01, eq_self, i_I, Nat.reduceEqDiff, Nat.add_left_cancel_iff, Nat.add_eq_left, Nat.left_eq_add, and_false, false_and, and_true, true_and, if_true, if_false, and_self, not_true, not_false_iff, reduceCtorEq, sb_yhands S]⟩
  obtain ⟨j, hj, rfl⟩ := nI_of c0
  by_cases c1 : j < m
  case neg =>
    have c2 : ¬ nI j < nI m := nI_nlt (by omega) hj
    have c3 : ¬ (0 ≤ nI j ∧ nI j ≤ nI m - 1) := by
      rintro ⟨-, z2⟩
      rcases Nat.eq_zero_or_pos m with e | e
      · subst e
        exact absurd (Int32.le_trans (nI_pos' hj) z2) (by decide)
      · obtain ⟨q, rfl⟩ : ∃ q, m = q + 1 := ⟨m - 1, by omega⟩
        rw [nI_pred] at z2
        exact nI_ge (by omega) hj z2
    exact ⟨-1, by simp only [c0, c2, m2, q_rf, q_lt, q_cl, q_jn, q_b, q_b1, q_ck, kd_I, kd_J, kd_R, n_I, n_J, n_R, r_I, r_J, c_I, c_J, c_R, i_J, i_R, j_I, j_R, y_in, y_isDay, x_within, x_isDay, x_isTown, q_10, q_01, eq_self, i_I, Nat.reduceEqDiff, Nat.add_left_cancel_iff, Nat.add_eq_left, Nat.left_eq_add, and_false, false_and, and_true, true_and, if_true, if_false, and_self, not_true, not_false_iff, reduceCtorEq, sb_xhands S], by simp only [c3, m3, q_rf, q_lt, q_cl, q_jn, q_b, q_b1, q_ck, kd_I, kd_J, kd_R, n_I, n_J, n_R, r_I, r_J, c_I, c_J, c_R, i_J, i_R, j_I, j_R, y_in, y_isDay, x_within, x_isDay, x_isTown, q_10, q_01, eq_self, i_I, Nat.reduceEqDiff, Nat.add_left_cancel_iff, Nat.add_eq_left, Nat.left_eq_add, and_false, false_and, and_true, true_and, if_true, if_false, and_self, not_true, not_false_iff, reduceCtorEq, sb_yhands S]⟩
  have hx := fun (β : Type) (k : Option β) => q_ckx (show j < 256 by omega) (by decide) k
  have hc := nI_clamp (n := j) hj
  have c2 : nI j < nI m := nI_lt c1 (by omega)
  have c3 : 0 ≤ nI j ∧ nI j ≤ nI m - 1 := by
    obtain ⟨q, rfl⟩ : ∃ q, m = q + 1 := ⟨m - 1, by omega⟩
    rw [nI_pred]
    exact ⟨nI_pos' hj, nI_le (by omega) (by omega)⟩
  exact ⟨mm_i h (B + 51) j, by simp only [c0, c2, m2, hx, hc, q_rf, q_lt, q_cl, q_jn, q_b, q_b1, q_ck, kd_I, kd_J, kd_R, n_I, n_J, n_R, r_I, r_J, c_I, c_J, c_R, i_J, i_R, j_I, j_R, y_in, y_isDay, x_within, x_isDay, x_isTown, q_10, q_01, eq_self, i_I, Nat.reduceEqDiff, Nat.add_left_cancel_iff, Nat.add_eq_left, Nat.left_eq_add, and_false, false_and, and_true, true_and, if_true, if_false, and_self, not_true, not_false_iff, reduceCtorEq, sb_xhands S], by simp only [c3, m3, hx, hc, m4 j c1, q_rf, q_lt, q_cl, q_jn, q_b, q_b1, q_ck, kd_I, kd_J, kd_R, n_I, n_J, n_R, r_I, r_J, c_I, c_J, c_R, i_J, i_R, j_I, j_R, y_in, y_isDay, x_within, x_isDay, x_isTown, q_10, q_01, eq_self, i_I, Nat.reduceEqDiff, Nat.add_left_cancel_iff, Nat.add_eq_left, Nat.left_eq_add, and_false, false_and, and_true, true_and, if_true, if_false, and_self, not_true, not_false_iff, reduceCtorEq, sb_yhands S]⟩
theorem T_breakers (S : mS B h) (R : RHa B h) (a : Int32) : ∃ r h1 h2, fX11_breakers B a h = some (r, h1) ∧ fX12_breakers (B + 66) a h1 = some (r, h2) ∧ mW (fun a k => wHx B a k ∨ wHy B a k) h h2 ∧ RHa B h2 := by
  obtain ⟨⟨n, h1, h2, h3, h4⟩, m, m1, m2, m3, m4⟩ := id R
  unfold fX11_breakers fX3_findHolding fX12_breakers
  by_cases c1 : 1 ≤ a ∧ a ≤ nI n
  case neg =>
    refine ⟨-1, h, h, by simp only [c1, h2, q_rf, q_lt, q_cl, q_jn, q_b, q_b1, q_ck, kd_I, kd_J, kd_R, n_I, n_J, n_R, r_I, r_J, c_I, c_J, c_R, i_J, i_R, j_I, j_R, y_in, y_isDay, x_within, x_isDay, x_isTown, q_10, q_01, eq_self, i_I, Nat.reduceEqDiff, Nat.add_left_cancel_iff, Nat.add_eq_left, Nat.left_eq_add, and_false, false_and, and_true, true_and, if_true, if_false, and_self, not_true, not_false_iff, reduceCtorEq, sb_xhands S], ?_, mW.rf, R⟩
    by_cases c2 : 1 ≤ a ∧ a ≤ 8
    · have c3 : ¬ a ≤ nI n := fun z => c1 ⟨c2.1, z⟩
      simp only [c2, c3, h3, q_rf, q_lt, q_cl, q_jn, q_b, q_b1, q_ck, kd_I, kd_J, kd_R, n_I, n_J, n_R, r_I, r_J, c_I, c_J, c_R, i_J, i_R, j_I, j_R, y_in, y_isDay, x_within, x_isDay, x_isTown, q_10, q_01, eq_self, i_I, Nat.reduceEqDiff, Nat.add_left_cancel_iff, Nat.add_eq_left, Nat.left_eq_add, and_false, false_and, and_true, true_and, if_true, if_false, and_self, not_true, not_false_iff, reduceCtorEq, sb_yhands S]
    · simp only [c2, q_rf, q_lt, q_cl, q_jn, q_b, q_b1, q_ck, kd_I, kd_J, kd_R, n_I, n_J, n_R, r_I, r_J, c_I, c_J, c_R, i_J, i_R, j_I, j_R, y_in, y_isDay, x_within, x_isDay, x_isTown, q_10, q_01, eq_self, i_I, Nat.reduceEqDiff, Nat.add_left_cancel_iff, Nat.add_eq_left, Nat.left_eq_add, and_false, false_and, and_true, true_and, if_true, if_false, and_self, not_true, not_false_iff, reduceCtorEq, sb_yhands S]
  have hp0 : ¬ a < 0 := Int32.not_lt.mpr (Int32.le_trans (by decide) c1.1)
  obtain ⟨p, hp, rfl⟩ := nI_of hp0
  have p1 : p ≤ n := (nI_leI hp (by omega)).mp c1.2
  have p8 : p ≤ 8 := by omega
  have c2 : 1 ≤ nI p ∧ nI p ≤ 8 := ⟨c1.1, nI_le (b := 8) p8 (by decide)⟩
  have c3 : ¬ 8 < nI p := Int32.not_lt.mpr c2.2
  have h256 := p_256 p p8
  obtain ⟨hx, a1, a2, a3, a4, a5⟩ := x_fh_L14 p8 (mm_i h (B + 48)) (mm_i h (B + 49)) (mm_i h (B + 50)) (2 ^ p) 0 0 (mm_setI h (B + 47) 5 0) mm_F (by omega) (by unfold mm_F; omega) (Nat.le_refl _) S (by funext y; simp [i_I]) (by funext y; simp [i_I]) (by funext y; simp [i_I]) (by simp [i_I, nI_0])
  have Sx : mS B hx := a2.S S
  have wx : mW (wHx B) h hx := ⟨a2.1, fun b k w => by
    obtain ⟨w1, w2⟩ := a2.2 b k w
    refine ⟨w1.trans ?_, w2⟩
    have n1 : ¬ (b = B + 47 ∧ k = 5) := fun z => w (Or.inl z)
    rw [i_I, if_neg n1]⟩
  have kx : ∀ c, c ≠ 47 → c ≠ 51 → mm_i hx (B + c) = mm_i h (B + c) := fun c e1 e2 => by
    funext y
    exact wx.i (by unfold wHx; omega)
  obtain ⟨hy, b1, b2, b3, b4, b5⟩ := y_br_L27 p8 (mm_i h (B + 137)) (mm_i h (B + 138)) (mm_i h (B + 139)) (2 ^ p) 0 0 (mm_setI hx (B + 66) 103 0) mm_F (by omega) (by unfold mm_F; omega) (Nat.le_refl _) Sx (by funext y; rw [← kx 137 (by decide) (by decide)]; simp [i_I]) (by funext y; rw [← kx 138 (by decide) (by decide)]; simp [i_I]) (by funext y; rw [← kx 139 (by decide) (by decide)]; simp [i_I]) (by simp [i_I, nI_0])
  have Sy : mS B hy := b2.S Sx
  have wy : mW (wHy B) hx hy := ⟨b2.1, fun b k w => by
    obtain ⟨w1, w2⟩ := b2.2 b k w
    refine ⟨w1.trans ?_, w2⟩
    have n1 : ¬ (b = B + 66 ∧ k = 103) := fun z => w (Or.inl z)
    rw [i_I, if_neg n1]⟩
  have eL : stL (hdS (mm_i h (B + 137)) (mm_i h (B + 138)) (mm_i h (B + 139)) p) (2 ^ p) 0 = stL (hdS (mm_i h (B + 48)) (mm_i h (B + 49)) (mm_i h (B + 50)) p) (2 ^ p) 0 := stL_congr fun s => hdS_congr (fun i hi => h4 i (by omega)) s
  rw [eL] at b3 b5
  have hl := stL_len (P := hdS (mm_i h (B + 48)) (mm_i h (B + 49)) (mm_i h (B + 50)) p) (2 ^ p) 0
  generalize stL (hdS (mm_i h (B + 48)) (mm_i h (B + 49)) (mm_i h (B + 50)) p) (2 ^ p) 0 = L at *
  rw [nI_0] at a1 b1
  have kc : mm_i hx (B + 66) 102 = nI n := by rw [kx 66 (by decide) (by decide)]; exact h3
  refine ⟨nI (0 + L.length), hx, hy, ?_, ?_, wx.tr wy, ⟨n, h1, ?_, ?_, fun k hk => ?_⟩, L.length, by omega, ?_, ?_, fun k hk => ?_⟩
  · simp only [c1, c3, h2, q_rf, q_lt, q_cl, q_jn, q_b, q_b1, q_ck, kd_I, kd_J, kd_R, n_I, n_J, n_R, r_I, r_J, c_I, c_J, c_R, i_J, i_R, j_I, j_R, y_in, y_isDay, x_within, x_isDay, x_isTown, q_10, q_01, eq_self, i_I, Nat.reduceEqDiff, Nat.add_left_cancel_iff, Nat.add_eq_left, Nat.left_eq_add, and_false, false_and, and_true, true_and, if_true, if_false, and_self, not_true, not_false_iff, reduceCtorEq, sb_xhands S, a1, sk47 Sx, a3]
  · simp only [c2, kc, c1, q_rf, q_lt, q_cl, q_jn, q_b, q_b1, q_ck, kd_I, kd_J, kd_R, n_I, n_J, n_R, r_I, r_J, c_I, c_J, c_R, i_J, i_R, j_I, j_R, y_in, y_isDay, x_within, x_isDay, x_isTown, q_10, q_01, eq_self, i_I, Nat.reduceEqDiff, Nat.add_left_cancel_iff, Nat.add_eq_left, Nat.left_eq_add, and_false, false_and, and_true, true_and, if_true, if_false, and_self, not_true, not_false_iff, reduceCtorEq, sk66 Sx, b1, sk66 Sy, b3]
  · rw [wy.i (by unfold wHy; omega), wx.i (by unfold wHx; omega)]; exact h2
  · rw [wy.i (by unfold wHy; omega)]; exact kc
  · have := h4 k hk
    rw [wy.i (by unfold wHy; omega), wy.i (by unfold wHy; omega), wy.i (by unfold wHy; omega), wy.i (by unfold wHy; omega), wy.i (by unfold wHy; omega), wy.i (by unfold wHy; omega), kx 137 (by decide) (by decide), kx 138 (by decide) (by decide), kx 139 (by decide) (by decide), kx 48 (by decide) (by decide), kx 49 (by decide) (by decide), kx 50 (by decide) (by decide)]
    exact this
  · rw [wy.i (by unfold wHy; omega), a3, Nat.zero_add]
  · rw [b3, Nat.zero_add]
  · have q1 := a5 k hk
    have q2 := b5 k hk
    rw [Nat.zero_add] at q1 q2
    rw [q2, wy.i (by unfold wHy; omega), q1]
end HC
