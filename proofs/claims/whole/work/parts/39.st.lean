/-! spans and theirs, the end -/
theorem bestF_congr {P Q : Nat → Bool} {bt : Nat → Nat → Bool} : ∀ {n : Nat}, (∀ j, j < n → P j = Q j) → bestF P bt n = bestF Q bt n := by
  intro n
  induction n with
  | zero => intro _; rfl
  | succ n ih => intro h; simp only [bestF]; rw [h n (by omega), ih (fun j hj => h j (by omega))]
theorem q_05 {c : Int32} (h1 : 0 ≤ c) (h2 : c ≤ 5) : c = 0 ∨ c = 1 ∨ c = 2 ∨ c = 3 ∨ c = 4 ∨ c = 5 := by
  rw [Int32.le_iff_toInt_le] at h1 h2
  have e0 : (0 : Int32).toInt = 0 := by decide
  have e1 : (1 : Int32).toInt = 1 := by decide
  have e2 : (2 : Int32).toInt = 2 := by decide
  have e3 : (3 : Int32).toInt = 3 := by decide
  have e4 : (4 : Int32).toInt = 4 := by decide
  have e5 : (5 : Int32).toInt = 5 := by decide
  rw [e0] at h1
  rw [e5] at h2
  have : c.toInt = 0 ∨ c.toInt = 1 ∨ c.toInt = 2 ∨ c.toInt = 3 ∨ c.toInt = 4 ∨ c.toInt = 5 := by omega
  rcases this with h | h | h | h | h | h
  · exact Or.inl (Int32.toInt_inj.mp (h.trans e0.symm))
  · exact Or.inr (Or.inl (Int32.toInt_inj.mp (h.trans e1.symm)))
  · exact Or.inr (Or.inr (Or.inl (Int32.toInt_inj.mp (h.trans e2.symm))))
  · exact Or.inr (Or.inr (Or.inr (Or.inl (Int32.toInt_inj.mp (h.trans e3.symm)))))
  · exact Or.inr (Or.inr (Or.inr (Or.inr (Or.inl (Int32.toInt_inj.mp (h.trans e4.symm))))))
  · exact Or.inr (Or.inr (Or.inr (Or.inr (Or.inr (Int32.toInt_inj.mp (h.trans e5.symm))))))
section ST
variable {B : Nat} {h : mm_H} {n : Nat}
theorem xq_first (R : RW2 B n h) {t d : Int32} (hK : ∀ k, k < n → xKn h B t d k = yKn h B t d k) : oI (firstF (fun k => xKn h B t d k && g_qu (wO h B) (wT h B) (xKn h B t d) k) n 0) = sG (qF (wO h B) (wT h B) (yKn h B t d) n) := by
  have hn := R.1
  have e : firstF (fun k => xKn h B t d k && g_qu (wO h B) (wT h B) (xKn h B t d) k) n 0 = firstF (fun k => yKn h B t d k && g_qu (wO h B) (wT h B) (yKn h B t d) k) n 0 := firstF_congr fun j _ hj => by
    show (_ && _) = (_ && _)
    rw [hK j (by omega)]
    congr 1
    exact anyF_congr fun v _ hv => by
      show (_ && _) = (_ && _)
      rw [hK v (by omega)]
  have q := qF_first (O := wO h B) (T := wT h B) (kn := yKn h B t d) (e := n) (i := 0) rfl
  rw [Nat.zero_add] at q
  rw [e, q]
  cases hf : firstF (fun k => yKn h B t d k && g_qu (wO h B) (wT h B) (yKn h B t d) k) n 0 with
  | none => rfl
  | some k =>
    have h1 := (firstF_lt hf).2.2
    simp only [Bool.and_eq_true] at h1
    have h2 : (firstF (g_P (wO h B) (wT h B) (yKn h B t d) k) k 0).isSome = true := anyF_first.symm.trans h1.2
    cases hg : firstF (g_P (wO h B) (wT h B) (yKn h B t d) k) k 0 with
    | none => rw [hg] at h2; cases h2
    | some v => simp only [hg]; rfl
theorem x_greater (S : mS B h) (R : RW2 B n h) {t d : Int32} (hK : ∀ k, k < n → xKn h B t d k = yKn h B t d k) : fX8_greaterQuarreller (B + 17) t d h = some (sG (qF (wO h B) (wT h B) (yKn h B t d) n), h) := by
  rw [x_greaterQuarreller S R, xq_first R hK]
theorem x_lesser (S : mS B h) (R : RW2 B n h) {t d : Int32} (hK : ∀ k, k < n → xKn h B t d k = yKn h B t d k) : fX8_lesserQuarreller (B + 17) t d (sG (qF (wO h B) (wT h B) (yKn h B t d) n)) h = some (sE (qF (wO h B) (wT h B) (yKn h B t d) n), h) := by
  have hn := R.1
  unfold fX8_lesserQuarreller
  cases hq : qF (wO h B) (wT h B) (yKn h B t d) n with
  | none => simp only [sG, sE, x_isW0 S, q_rf, q_lt, q_cl, q_jn, q_b, q_b1, q_ck, kd_I, kd_J, kd_R, n_I, n_J, n_R, r_I, r_J, c_I, c_J, c_R, i_J, i_R, j_I, j_R, y_in, y_isDay, x_within, x_isDay, x_isTown, q_10, q_01, eq_self, i_I, Nat.reduceEqDiff, Nat.add_left_cancel_iff, Nat.add_eq_left, Nat.left_eq_add, and_false, false_and, and_true, true_and, if_true, if_false, and_self, not_true, not_false_iff, reduceCtorEq, sb_xmeas S]
  | some p =>
    have hp := qF_lt hq
    have q := qF_first (O := wO h B) (T := wT h B) (kn := yKn h B t d) (e := n) (i := 0) rfl
    rw [Nat.zero_add, hq] at q
    cases hf : firstF (fun k => yKn h B t d k && g_qu (wO h B) (wT h B) (yKn h B t d) k) n 0 with
    | none => rw [hf] at q; cases q
    | some k =>
      rw [hf] at q
      have h1 := (firstF_lt hf).2
      simp only [Bool.and_eq_true] at h1
      cases hg : firstF (g_P (wO h B) (wT h B) (yKn h B t d) k) k 0 with
      | none => simp only [hg] at q; cases q
      | some v =>
        simp only [hg] at q
        cases q
        have hk : k < n := by omega
        have hL := x_lesserQuarreller_L23 S R t d hk (fun g30 => some ((-1 : Int32), g30)) k 0 mm_F (by omega) (by unfold mm_F; omega)
        have e : firstF (fun v => xKn h B t d v && (g_bar (wO h B) (wT h B) v k || g_bar (wO h B) (wT h B) k v)) k 0 = some v := by
          rw [← hg]
          exact firstF_congr fun j _ hj => by
            show (_ && _) = (_ && _)
            rw [hK j (by omega)]
        rw [e, nI_0] at hL
        simp only [sG, sE, x_isW S R hk, x_isKnown S R hk, hK k hk, h1.2.1, q_rf, q_lt, q_cl, q_jn, q_b, q_b1, q_ck, kd_I, kd_J, kd_R, n_I, n_J, n_R, r_I, r_J, c_I, c_J, c_R, i_J, i_R, j_I, j_R, y_in, y_isDay, x_within, x_isDay, x_isTown, q_10, q_01, eq_self, i_I, Nat.reduceEqDiff, Nat.add_left_cancel_iff, Nat.add_eq_left, Nat.left_eq_add, and_false, false_and, and_true, true_and, if_true, if_false, and_self, not_true, not_false_iff, reduceCtorEq, sb_xmeas S, hL]
theorem x_gl (S : mS B h) (R : RW2 B n h) {t d : Int32} (hK : ∀ k, k < n → xKn h B t d k = yKn h B t d k) : fX8_greatestLower (B + 17) t d h = some (oI (bestF (yKn h B t d) (g_lx (wO h B) (wT h B)) n), h) := by
  rw [x_greatestLower S R, bestF_congr hK]
theorem x_lu (S : mS B h) (R : RW2 B n h) {t d : Int32} (hK : ∀ k, k < n → xKn h B t d k = yKn h B t d k) : fX8_leastUpper (B + 17) t d h = some (oI (bestF (yKn h B t d) (g_ux (wO h B) (wT h B)) n), h) := by
  rw [x_leastUpper S R, bestF_congr hK]
theorem x_la (S : mS B h) (R : RW2 B n h) (o : Option Nat) (ho : ∀ k, o = some k → k < n) : fX8_lowerAbove (B + 17) (oI o) h = some ((sA (wT h B) o).toInt32, h) := by
  cases o with
  | none => unfold fX8_lowerAbove; simp only [oI, x_isW0 S, q_rf, q_lt, q_cl, q_jn, q_b, q_b1, q_ck, kd_I, kd_J, kd_R, n_I, n_J, n_R, r_I, r_J, c_I, c_J, c_R, i_J, i_R, j_I, j_R, y_in, y_isDay, x_within, x_isDay, x_isTown, q_10, q_01, eq_self, i_I, Nat.reduceEqDiff, Nat.add_left_cancel_iff, Nat.add_eq_left, Nat.left_eq_add, and_false, false_and, and_true, true_and, if_true, if_false, and_self, not_true, not_false_iff, reduceCtorEq, sb_xmeas S]; rfl
  | some k => simp only [oI, x_lowerAbove S R (ho k rfl), sA, lN_i]
theorem x_lb (S : mS B h) (R : RW2 B n h) (o : Option Nat) (ho : ∀ k, o = some k → k < n) : fX8_lowerBelow (B + 17) (oI o) h = some ((sB (wO h B) o).toInt32, h) := by
  cases o with
  | none => unfold fX8_lowerBelow; simp only [oI, x_isW0 S, q_rf, q_lt, q_cl, q_jn, q_b, q_b1, q_ck, kd_I, kd_J, kd_R, n_I, n_J, n_R, r_I, r_J, c_I, c_J, c_R, i_J, i_R, j_I, j_R, y_in, y_isDay, x_within, x_isDay, x_isTown, q_10, q_01, eq_self, i_I, Nat.reduceEqDiff, Nat.add_left_cancel_iff, Nat.add_eq_left, Nat.left_eq_add, and_false, false_and, and_true, true_and, if_true, if_false, and_self, not_true, not_false_iff, reduceCtorEq, sb_xmeas S]; rfl
  | some k => simp only [oI, x_lowerBelow S R (ho k rfl), sB, lN_i]
theorem x_ua (S : mS B h) (R : RW2 B n h) (o : Option Nat) (ho : ∀ k, o = some k → k < n) : fX8_upperAbove (B + 17) (oI o) h = some ((sC (wT h B) o).toInt32, h) := by
  cases o with
  | none => unfold fX8_upperAbove; simp only [oI, x_isW0 S, q_rf, q_lt, q_cl, q_jn, q_b, q_b1, q_ck, kd_I, kd_J, kd_R, n_I, n_J, n_R, r_I, r_J, c_I, c_J, c_R, i_J, i_R, j_I, j_R, y_in, y_isDay, x_within, x_isDay, x_isTown, q_10, q_01, eq_self, i_I, Nat.reduceEqDiff, Nat.add_left_cancel_iff, Nat.add_eq_left, Nat.left_eq_add, and_false, false_and, and_true, true_and, if_true, if_false, and_self, not_true, not_false_iff, reduceCtorEq, sb_xmeas S]; rfl
  | some k => simp only [oI, x_upperAbove S R (ho k rfl), sC, lN_i]
theorem x_ub (S : mS B h) (R : RW2 B n h) (o : Option Nat) (ho : ∀ k, o = some k → k < n) : fX8_upperBelow (B + 17) (oI o) h = some ((sD (wO h B) o).toInt32, h) := by
  cases o with
  | none => unfold fX8_upperBelow; simp only [oI, x_isW0 S, q_rf, q_lt, q_cl, q_jn, q_b, q_b1, q_ck, kd_I, kd_J, kd_R, n_I, n_J, n_R, r_I, r_J, c_I, c_J, c_R, i_J, i_R, j_I, j_R, y_in, y_isDay, x_within, x_isDay, x_isTown, q_10, q_01, eq_self, i_I, Nat.reduceEqDiff, Nat.add_left_cancel_iff, Nat.add_eq_left, Nat.left_eq_add, and_false, false_and, and_true, true_and, if_true, if_false, and_self, not_true, not_false_iff, reduceCtorEq, sb_xmeas S]; rfl
  | some k => simp only [oI, x_upperBelow S R (ho k rfl), sD, lN_i]
theorem T_span (S : mS B h) (R : RWe B h) (a b c : Int32) : ∃ r h1 h2, fX11_span B a b c h = some (r, h1) ∧ fX12_span (B + 66) a b c h1 = some (r, h2) ∧ mW (wSp B) h h2 := by
  obtain ⟨n, R2, hK⟩ := RWe_2 R
  unfold fX11_span fX12_span
  by_cases c1 : 0 ≤ a ∧ a ≤ 7
  case neg => exact ⟨-1, h, h, by simp only [c1, x_isKind, q_rf, q_lt, q_cl, q_jn, q_b, q_b1, q_ck, kd_I, kd_J, kd_R, n_I, n_J, n_R, r_I, r_J, c_I, c_J, c_R, i_J, i_R, j_I, j_R, y_in, y_isDay, x_within, x_isDay, x_isTown, q_10, q_01, eq_self, i_I, Nat.reduceEqDiff, Nat.add_left_cancel_iff, Nat.add_eq_left, Nat.left_eq_add, and_false, false_and, and_true, true_and, if_true, if_false, and_self, not_true, not_false_iff, reduceCtorEq, sb_xmeas S], by simp only [c1, q_rf, q_lt, q_cl, q_jn, q_b, q_b1, q_ck, kd_I, kd_J, kd_R, n_I, n_J, n_R, r_I, r_J, c_I, c_J, c_R, i_J, i_R, j_I, j_R, y_in, y_isDay, x_within, x_isDay, x_isTown, q_10, q_01, eq_self, i_I, Nat.reduceEqDiff, Nat.add_left_cancel_iff, Nat.add_eq_left, Nat.left_eq_add, and_false, false_and, and_true, true_and, if_true, if_false, and_self, not_true, not_false_iff, reduceCtorEq, sb_yweigh S], mW.rf⟩
  by_cases c2 : 0 ≤ b ∧ b ≤ 3999
  case neg => exact ⟨-1, h, h, by simp only [c1, c2, x_isKind, q_rf, q_lt, q_cl, q_jn, q_b, q_b1, q_ck, kd_I, kd_J, kd_R, n_I, n_J, n_R, r_I, r_J, c_I, c_J, c_R, i_J, i_R, j_I, j_R, y_in, y_isDay, x_within, x_isDay, x_isTown, q_10, q_01, eq_self, i_I, Nat.reduceEqDiff, Nat.add_left_cancel_iff, Nat.add_eq_left, Nat.left_eq_add, and_false, false_and, and_true, true_and, if_true, if_false, and_self, not_true, not_false_iff, reduceCtorEq, sb_xmeas S], by simp only [c1, c2, q_rf, q_lt, q_cl, q_jn, q_b, q_b1, q_ck, kd_I, kd_J, kd_R, n_I, n_J, n_R, r_I, r_J, c_I, c_J, c_R, i_J, i_R, j_I, j_R, y_in, y_isDay, x_within, x_isDay, x_isTown, q_10, q_01, eq_self, i_I, Nat.reduceEqDiff, Nat.add_left_cancel_iff, Nat.add_eq_left, Nat.left_eq_add, and_false, false_and, and_true, true_and, if_true, if_false, and_self, not_true, not_false_iff, reduceCtorEq, sb_yweigh S], mW.rf⟩
  have hK := hK a b c2
  by_cases c3 : 0 ≤ c ∧ c ≤ 5
  case neg =>
    have n0 : ¬ c = 0 := fun z => c3 (by rw [z]; decide)
    have n1 : ¬ c = 1 := fun z => c3 (by rw [z]; decide)
    have n2 : ¬ c = 2 := fun z => c3 (by rw [z]; decide)
    have n3 : ¬ c = 3 := fun z => c3 (by rw [z]; decide)
    have n4 : ¬ c = 4 := fun z => c3 (by rw [z]; decide)
    have n5 : ¬ c = 5 := fun z => c3 (by rw [z]; decide)
    exact ⟨-1, h, h, by simp only [c1, c2, n0, n1, n2, n3, n4, n5, x_isKind, q_rf, q_lt, q_cl, q_jn, q_b, q_b1, q_ck, kd_I, kd_J, kd_R, n_I, n_J, n_R, r_I, r_J, c_I, c_J, c_R, i_J, i_R, j_I, j_R, y_in, y_isDay, x_within, x_isDay, x_isTown, q_10, q_01, eq_self, i_I, Nat.reduceEqDiff, Nat.add_left_cancel_iff, Nat.add_eq_left, Nat.left_eq_add, and_false, false_and, and_true, true_and, if_true, if_false, and_self, not_true, not_false_iff, reduceCtorEq, sb_xmeas S], by simp only [c1, c2, c3, q_rf, q_lt, q_cl, q_jn, q_b, q_b1, q_ck, kd_I, kd_J, kd_R, n_I, n_J, n_R, r_I, r_J, c_I, c_J, c_R, i_J, i_R, j_I, j_R, y_in, y_isDay, x_within, x_isDay, x_isTown, q_10, q_01, eq_self, i_I, Nat.reduceEqDiff, Nat.add_left_cancel_iff, Nat.add_eq_left, Nat.left_eq_add, and_false, false_and, and_true, true_and, if_true, if_false, and_self, not_true, not_false_iff, reduceCtorEq, sb_yweigh S], mW.rf⟩
  have hl := fun k (e : bestF (yKn h B a b) (g_lx (wO h B) (wT h B)) n = some k) => bestF_lt e
  have hu := fun k (e : bestF (yKn h B a b) (g_ux (wO h B) (wT h B)) n = some k) => bestF_lt e
  have g0 := x_gl S R2 hK
  have g1 := x_lu S R2 hK
  have g2 := x_la S R2 _ hl
  have g3 := x_lb S R2 _ hl
  have g4 := x_ua S R2 _ hu
  have g5 := x_ub S R2 _ hu
  have g6 := x_greater S R2 hK
  have g7 := x_lesser S R2 hK
  have hy := y_spans S R2 a b
  have r10 : ¬ (1 : Int32) = 0 := by decide
  have r20 : ¬ (2 : Int32) = 0 := by decide
  have r21 : ¬ (2 : Int32) = 1 := by decide
  have r30 : ¬ (3 : Int32) = 0 := by decide
  have r31 : ¬ (3 : Int32) = 1 := by decide
  have r32 : ¬ (3 : Int32) = 2 := by decide
  have r40 : ¬ (4 : Int32) = 0 := by decide
  have r41 : ¬ (4 : Int32) = 1 := by decide
  have r42 : ¬ (4 : Int32) = 2 := by decide
  have r43 : ¬ (4 : Int32) = 3 := by decide
  have r50 : ¬ (5 : Int32) = 0 := by decide
  have r51 : ¬ (5 : Int32) = 1 := by decide
  have r52 : ¬ (5 : Int32) = 2 := by decide
  have r53 : ¬ (5 : Int32) = 3 := by decide
  have r54 : ¬ (5 : Int32) = 4 := by decide
  unfold stF at hy
  rcases q_05 c3.1 c3.2 with e | e | e | e | e | e <;> subst e
  · exact ⟨_, h, _, by simp only [c1, c2, x_isKind, q_rf, q_lt, q_cl, q_jn, q_b, q_b1, q_ck, kd_I, kd_J, kd_R, n_I, n_J, n_R, r_I, r_J, c_I, c_J, c_R, i_J, i_R, j_I, j_R, y_in, y_isDay, x_within, x_isDay, x_isTown, q_10, q_01, eq_self, i_I, Nat.reduceEqDiff, Nat.add_left_cancel_iff, Nat.add_eq_left, Nat.left_eq_add, and_false, false_and, and_true, true_and, if_true, if_false, and_self, not_true, not_false_iff, reduceCtorEq, sb_xmeas S, g0, g2]; rfl, by simp only [c1, c2, c3, q_rf, q_lt, q_cl, q_jn, q_b, q_b1, q_ck, kd_I, kd_J, kd_R, n_I, n_J, n_R, r_I, r_J, c_I, c_J, c_R, i_J, i_R, j_I, j_R, y_in, y_isDay, x_within, x_isDay, x_isTown, q_10, q_01, eq_self, i_I, Nat.reduceEqDiff, Nat.add_left_cancel_iff, Nat.add_eq_left, Nat.left_eq_add, and_false, false_and, and_true, true_and, if_true, if_false, and_self, not_true, not_false_iff, reduceCtorEq, sb_yweigh S, hy, spH_kd, spH_j67]; rfl, spH_W⟩
  · exact ⟨_, h, _, by simp only [c1, c2, x_isKind, q_rf, q_lt, q_cl, q_jn, q_b, q_b1, q_ck, kd_I, kd_J, kd_R, n_I, n_J, n_R, r_I, r_J, c_I, c_J, c_R, i_J, i_R, j_I, j_R, y_in, y_isDay, x_within, x_isDay, x_isTown, q_10, q_01, eq_self, i_I, Nat.reduceEqDiff, Nat.add_left_cancel_iff, Nat.add_eq_left, Nat.left_eq_add, and_false, false_and, and_true, true_and, if_true, if_false, and_self, not_true, not_false_iff, reduceCtorEq, sb_xmeas S, g0, g3, r10]; rfl, by simp only [c1, c2, c3, q_rf, q_lt, q_cl, q_jn, q_b, q_b1, q_ck, kd_I, kd_J, kd_R, n_I, n_J, n_R, r_I, r_J, c_I, c_J, c_R, i_J, i_R, j_I, j_R, y_in, y_isDay, x_within, x_isDay, x_isTown, q_10, q_01, eq_self, i_I, Nat.reduceEqDiff, Nat.add_left_cancel_iff, Nat.add_eq_left, Nat.left_eq_add, and_false, false_and, and_true, true_and, if_true, if_false, and_self, not_true, not_false_iff, reduceCtorEq, sb_yweigh S, hy, spH_kd, spH_j68, r10]; rfl, spH_W⟩
  · exact ⟨_, h, _, by simp only [c1, c2, x_isKind, q_rf, q_lt, q_cl, q_jn, q_b, q_b1, q_ck, kd_I, kd_J, kd_R, n_I, n_J, n_R, r_I, r_J, c_I, c_J, c_R, i_J, i_R, j_I, j_R, y_in, y_isDay, x_within, x_isDay, x_isTown, q_10, q_01, eq_self, i_I, Nat.reduceEqDiff, Nat.add_left_cancel_iff, Nat.add_eq_left, Nat.left_eq_add, and_false, false_and, and_true, true_and, if_true, if_false, and_self, not_true, not_false_iff, reduceCtorEq, sb_xmeas S, g1, g4, r20, r21]; rfl, by simp only [c1, c2, c3, q_rf, q_lt, q_cl, q_jn, q_b, q_b1, q_ck, kd_I, kd_J, kd_R, n_I, n_J, n_R, r_I, r_J, c_I, c_J, c_R, i_J, i_R, j_I, j_R, y_in, y_isDay, x_within, x_isDay, x_isTown, q_10, q_01, eq_self, i_I, Nat.reduceEqDiff, Nat.add_left_cancel_iff, Nat.add_eq_left, Nat.left_eq_add, and_false, false_and, and_true, true_and, if_true, if_false, and_self, not_true, not_false_iff, reduceCtorEq, sb_yweigh S, hy, spH_kd, spH_j69, r20, r21]; rfl, spH_W⟩
  · exact ⟨_, h, _, by simp only [c1, c2, x_isKind, q_rf, q_lt, q_cl, q_jn, q_b, q_b1, q_ck, kd_I, kd_J, kd_R, n_I, n_J, n_R, r_I, r_J, c_I, c_J, c_R, i_J, i_R, j_I, j_R, y_in, y_isDay, x_within, x_isDay, x_isTown, q_10, q_01, eq_self, i_I, Nat.reduceEqDiff, Nat.add_left_cancel_iff, Nat.add_eq_left, Nat.left_eq_add, and_false, false_and, and_true, true_and, if_true, if_false, and_self, not_true, not_false_iff, reduceCtorEq, sb_xmeas S, g1, g5, r30, r31, r32]; rfl, by simp only [c1, c2, c3, q_rf, q_lt, q_cl, q_jn, q_b, q_b1, q_ck, kd_I, kd_J, kd_R, n_I, n_J, n_R, r_I, r_J, c_I, c_J, c_R, i_J, i_R, j_I, j_R, y_in, y_isDay, x_within, x_isDay, x_isTown, q_10, q_01, eq_self, i_I, Nat.reduceEqDiff, Nat.add_left_cancel_iff, Nat.add_eq_left, Nat.left_eq_add, and_false, false_and, and_true, true_and, if_true, if_false, and_self, not_true, not_false_iff, reduceCtorEq, sb_yweigh S, hy, spH_kd, spH_j70, r30, r31, r32]; rfl, spH_W⟩
  · exact ⟨_, h, _, by simp only [c1, c2, x_isKind, q_rf, q_lt, q_cl, q_jn, q_b, q_b1, q_ck, kd_I, kd_J, kd_R, n_I, n_J, n_R, r_I, r_J, c_I, c_J, c_R, i_J, i_R, j_I, j_R, y_in, y_isDay, x_within, x_isDay, x_isTown, q_10, q_01, eq_self, i_I, Nat.reduceEqDiff, Nat.add_left_cancel_iff, Nat.add_eq_left, Nat.left_eq_add, and_false, false_and, and_true, true_and, if_true, if_false, and_self, not_true, not_false_iff, reduceCtorEq, sb_xmeas S, g6, g7, r40, r41, r42, r43]; rfl, by simp only [c1, c2, c3, q_rf, q_lt, q_cl, q_jn, q_b, q_b1, q_ck, kd_I, kd_J, kd_R, n_I, n_J, n_R, r_I, r_J, c_I, c_J, c_R, i_J, i_R, j_I, j_R, y_in, y_isDay, x_within, x_isDay, x_isTown, q_10, q_01, eq_self, i_I, Nat.reduceEqDiff, Nat.add_left_cancel_iff, Nat.add_eq_left, Nat.left_eq_add, and_false, false_and, and_true, true_and, if_true, if_false, and_self, not_true, not_false_iff, reduceCtorEq, sb_yweigh S, hy, spH_kd, spH_i71, r40, r41, r42, r43]; rfl, spH_W⟩
  · exact ⟨_, h, _, by simp only [c1, c2, x_isKind, q_rf, q_lt, q_cl, q_jn, q_b, q_b1, q_ck, kd_I, kd_J, kd_R, n_I, n_J, n_R, r_I, r_J, c_I, c_J, c_R, i_J, i_R, j_I, j_R, y_in, y_isDay, x_within, x_isDay, x_isTown, q_10, q_01, eq_self, i_I, Nat.reduceEqDiff, Nat.add_left_cancel_iff, Nat.add_eq_left, Nat.left_eq_add, and_false, false_and, and_true, true_and, if_true, if_false, and_self, not_true, not_false_iff, reduceCtorEq, sb_xmeas S, g6, r50, r51, r52, r53, r54]; rfl, by simp only [c1, c2, c3, q_rf, q_lt, q_cl, q_jn, q_b, q_b1, q_ck, kd_I, kd_J, kd_R, n_I, n_J, n_R, r_I, r_J, c_I, c_J, c_R, i_J, i_R, j_I, j_R, y_in, y_isDay, x_within, x_isDay, x_isTown, q_10, q_01, eq_self, i_I, Nat.reduceEqDiff, Nat.add_left_cancel_iff, Nat.add_eq_left, Nat.left_eq_add, and_false, false_and, and_true, true_and, if_true, if_false, and_self, not_true, not_false_iff, reduceCtorEq, sb_yweigh S, hy, spH_kd, spH_i72, r50, r51, r52, r53, r54]; rfl, spH_W⟩
end ST
