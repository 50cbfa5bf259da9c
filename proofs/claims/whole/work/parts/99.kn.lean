/-! a clause's verb, on the side of the reference -/
def wV (B : Nat) : Nat → Nat → Prop := fun x i => x = B + 66 ∧ 18 ≤ i ∧ i ≤ 20
def yV (B : Nat) (h : mm_H) (t : Nat → Int32) (n L p f : Nat) : Prop := (tY B h t n ∧ mT h ∧ mS B h ∧ mm_i h (B + 66) 23 = nI L ∧ L < 30) ∧ (mm_i h (B + 66) 18 = nI p ∧ p ≤ n) ∧ mm_i h (B + 66) 20 = nI f
section KP
variable {B : Nat} {h h' : mm_H} {t : Nat → Int32} {n L p d c f i q : Nat}
theorem yV.mk' {p' f' : Nat} (Y : yV B h t n L p f) (x : mX B (wV B) h h') (e18 : mm_i h' (B + 66) 18 = nI p') (hp : p' ≤ n) (e20 : mm_i h' (B + 66) 20 = nI f') : yV B h' t n L p' f' := by
  obtain ⟨⟨⟨a1, a2, a3⟩, a4, a5, a6, a7⟩, -⟩ := Y
  have hB := x.1.2.2
  exact ⟨⟨⟨a1, by rw [x.i (by omega) (by unfold wV; omega)]; exact a2, fun k hk => by rw [x.i (by omega) (by unfold wV; omega)]; exact a3 k hk⟩, a4.up x, x.S a5, by rw [x.i (by omega) (by unfold wV; omega)]; exact a6, a7⟩, ⟨e18, hp⟩, e20⟩
theorem yV.setp {p' : Nat} (Y : yV B h t n L p f) (hp : p' ≤ n) : yV B (mm_setI h (B + 66) 18 (nI p')) t n L p' f ∧ mX B (wV B) h (mm_setI h (B + 66) 18 (nI p')) := by
  have x : mX B (wV B) h (mm_setI h (B + 66) 18 (nI p')) := (mX.rf (W := wV B) Y.1.2.2.1.1).I (Or.inl (by unfold wV; omega))
  exact ⟨Y.mk' x (by rw [i_I_eq]) hp (by rw [i_I, if_neg (fun z => by omega)]; exact Y.2.2), x⟩
theorem yV.setf {f' : Nat} (Y : yV B h t n L p f) : yV B (mm_setI h (B + 66) 20 (nI f')) t n L p f' ∧ mX B (wV B) h (mm_setI h (B + 66) 20 (nI f')) := by
  have x : mX B (wV B) h (mm_setI h (B + 66) 20 (nI f')) := (mX.rf (W := wV B) Y.1.2.2.1.1).I (Or.inl (by unfold wV; omega))
  exact ⟨Y.mk' x (by rw [i_I, if_neg (fun z => by omega)]; exact Y.2.1.1) Y.2.1.2 (by rw [i_I_eq]), x⟩
theorem yV.set19 {v : Int32} (Y : yV B h t n L p f) : yV B (mm_setI h (B + 66) 19 v) t n L p f ∧ mX B (wV B) h (mm_setI h (B + 66) 19 v) := by
  have x : mX B (wV B) h (mm_setI h (B + 66) 19 v) := (mX.rf (W := wV B) Y.1.2.2.1.1).I (Or.inl (by unfold wV; omega))
  exact ⟨Y.mk' x (by rw [i_I, if_neg (fun z => by omega)]; exact Y.2.1.1) Y.2.1.2 (by rw [i_I, if_neg (fun z => by omega)]; exact Y.2.2), x⟩
theorem z_fails (Y : yV B h t n L p f) (k a : Nat) (hf : f < 2 ^ 30) : ∃ h', fX12_fails (B + 66) (nI k) (nI a) h = some ((), h') ∧ mX B (wV B) h h' ∧ yV B h' t n L p (fl f k a) ∧ mm_i h' (B + 66) 19 = mm_i h (B + 66) 19 := by
  have S := Y.1.2.2.1
  have hf2 := Y.2.2
  unfold fX12_fails fl
  by_cases e : f = 0
  · have z : mm_i h (B + 66) 20 = 0 := by rw [hf2, e, nI_0]
    obtain ⟨Y2, x2⟩ := Y.setf (f' := 1 + 8 * a + k)
    refine ⟨_, ?_, x2, by rw [if_pos e]; exact Y2, by rw [i_I, if_neg (fun z => by omega)]⟩
    rw [q_ck (sk66 S), z, if_neg (not_not_intro rfl), show (8 : Int32) = nI 8 by decide +kernel, show (1 : Int32) = nI 1 by decide +kernel, nI_mul, nI_add, nI_add, p_lt]
  · refine ⟨h, ?_, mX.rf S.1, by rw [if_neg e]; exact Y, rfl⟩
    rw [q_ck (sk66 S), hf2, if_pos (show ¬ nI f = (0 : Int32) from fun z => e ((nI_eq (b := 0) (by omega) (by omega)).mp z))]
theorem z_sign (Y : yV B h t n L p f) : fX12_sign (B + 66) h = some (if p < n then t p else -1, h) := by
  have S := Y.1.2.2.1
  obtain ⟨n9, t1, t2⟩ := Y.1.1
  obtain ⟨b1, b2⟩ := Y.2.1
  unfold fX12_sign
  rw [q_ck (sk66 S), t1, b1]
  by_cases e : p < n
  · have hq := fun (β : Type) (z : Option β) => q_ckx (show p < 400 by omega) (by decide) z
    rw [if_neg (nI_ge e (by omega)), sr66_16 S, p_rf, q_ck (sk79 S), sn79 S, hq, nI_clamp (by omega), t2 p e, if_pos e]
  · rw [if_pos (nI_le (by omega) (by omega)), if_neg e]
theorem z_bl_L0 (K : mm_H → Option (Unit × mm_H)) : ∀ (e p fuel : Nat) (h : mm_H), p + e = n → e < fuel → yV B h t n L p f → ∃ h', fX12_blanks_L0 (B + 66) K fuel h = K h' ∧ mX B (wV B) h h' ∧ yV B h' t n L (runF isBl t e p) f := by
  intro e
  induction e with
  | zero =>
    intro p fuel h hp hf Y
    obtain ⟨g, rfl⟩ : ∃ f, fuel = f + 1 := ⟨fuel - 1, by omega⟩
    have S := Y.1.2.2.1
    obtain ⟨n9, t1, t2⟩ := Y.1.1
    refine ⟨h, ?_, mX.rf S.1, Y⟩
    show fX12_blanks_L0_b _ _ _ _ = _
    unfold fX12_blanks_L0_b
    rw [q_ck (sk66 S), t1, Y.2.1.1, if_pos (nI_le (show n ≤ p by omega) (by omega))]
  | succ e ih =>
    intro p fuel h hp hf Y
    obtain ⟨g, rfl⟩ : ∃ f, fuel = f + 1 := ⟨fuel - 1, by omega⟩
    have S := Y.1.2.2.1
    obtain ⟨n9, t1, t2⟩ := Y.1.1
    have hq := fun (β : Type) (z : Option β) => q_ckx (show p < 400 by omega) (by decide) z
    simp only [runF]
    by_cases c1 : isBl (t p) = true
    · obtain ⟨Y2, x2⟩ := Y.setp (p' := p + 1) (by omega)
      obtain ⟨h', q1, q2, q3⟩ := ih (p + 1) g _ (by omega) (by omega) Y2
      refine ⟨h', ?_, x2.tr q2, by rw [if_pos c1]; exact q3⟩
      rw [← q1]
      show fX12_blanks_L0_b _ _ _ _ = _
      unfold fX12_blanks_L0_b
      rw [q_ck (sk66 S), t1, Y.2.1.1, if_neg (nI_ge (show p < n by omega) (by omega)), sr66_16 S, p_rf, q_ck (sk79 S), sn79 S, hq, nI_clamp (by omega), t2 p (by omega), if_neg (not_not_intro (of_decide_eq_true c1)), nI_1, p_lt]
    · refine ⟨h, ?_, mX.rf S.1, by rw [if_neg c1]; exact Y⟩
      show fX12_blanks_L0_b _ _ _ _ = _
      unfold fX12_blanks_L0_b
      rw [q_ck (sk66 S), t1, Y.2.1.1, if_neg (nI_ge (show p < n by omega) (by omega)), sr66_16 S, p_rf, q_ck (sk79 S), sn79 S, hq, nI_clamp (by omega), t2 p (by omega), if_pos (fun z => c1 (decide_eq_true z))]
theorem z_blanks (Y : yV B h t n L p f) : ∃ h', fX12_blanks (B + 66) h = some ((), h') ∧ mX B (wV B) h h' ∧ yV B h' t n L (skF t n p) f ∧ mm_i h' (B + 66) 19 = nI (skF t n p) := by
  have hp := Y.2.1.2
  have n9 := Y.1.1.1
  obtain ⟨h', q1, q2, q3⟩ := z_bl_L0 (fun (g8 : mm_H) => mm_ck (mm_kd g8 (B + 66) = 13) <| mm_lt (mm_setI g8 (B + 66) 19 ((mm_i g8 (B + 66) 18))) fun g10 => some ((), g10)) (n - p) p mm_F h (by omega) (by unfold mm_F; omega) Y
  obtain ⟨Y2, x2⟩ := q3.set19 (v := mm_i h' (B + 66) 18)
  refine ⟨_, ?_, q2.tr x2, Y2, by rw [i_I_eq]; exact q3.2.1.1⟩
  unfold fX12_blanks
  rw [q1, q_ck (sk66 q3.1.2.2.1), p_lt]
theorem z_we_L5 (Y : yV B h t n L p f) (K : Int32 → mm_H → Option (Int32 × mm_H)) : ∀ (e q fuel : Nat), q + e = n → e < fuel → fX12_wordEnd_L5 (B + 66) K fuel (nI q) h = K (nI (runF isLt t e q)) h := by
  have S := Y.1.2.2.1
  obtain ⟨n9, t1, t2⟩ := Y.1.1
  intro e
  induction e with
  | zero =>
    intro q fuel hq hf
    obtain ⟨g, rfl⟩ : ∃ f, fuel = f + 1 := ⟨fuel - 1, by omega⟩
    show fX12_wordEnd_L5_b _ _ _ _ _ = _
    unfold fX12_wordEnd_L5_b
    rw [q_ck (sk66 S), t1, if_pos (nI_le (show n ≤ q by omega) (by omega))]
    rfl
  | succ e ih =>
    intro q fuel hq hf
    obtain ⟨g, rfl⟩ : ∃ f, fuel = f + 1 := ⟨fuel - 1, by omega⟩
    have hx := fun (β : Type) (z : Option β) => q_ckx (show q < 400 by omega) (by decide) z
    have hcl := nI_clamp (n := q) (by omega)
    show fX12_wordEnd_L5_b _ _ _ _ _ = _
    unfold fX12_wordEnd_L5_b
    simp only [hcl, runF]
    rw [q_ck (sk66 S), t1, if_neg (nI_ge (show q < n by omega) (by omega)), sr66_16 S, p_rf, q_ck (sk79 S), sn79 S, hx, t2 q (by omega), hx]
    unfold isLt
    by_cases c1 : t q < 97
    · rw [if_pos c1, decide_eq_false (Int32.not_le.mpr c1), Bool.false_and, if_neg (by decide)]
    · rw [if_neg c1, decide_eq_true (Int32.not_lt.mp c1), Bool.true_and]
      by_cases c2 : 122 < t q
      · rw [if_pos c2, decide_eq_false (Int32.not_le.mpr c2), if_neg (by decide)]
      · rw [if_neg c2, decide_eq_true (Int32.not_lt.mp c2), if_pos rfl, p_lt, nI_1]
        exact ih (q + 1) g (by omega) (by omega)
theorem z_wordEnd (Y : yV B h t n L p f) : fX12_wordEnd (B + 66) h = some (nI (weF t n p), h) := by
  have S := Y.1.2.2.1
  have n9 := Y.1.1.1
  have hp := Y.2.1.2
  unfold fX12_wordEnd
  rw [q_ck (sk66 S), Y.2.1.1, p_lt, z_we_L5 Y _ (n - p) p mm_F (by omega) (by unfold mm_F; omega)]
  rfl
theorem z_is (Y : yV B h t n L p f) {e k : Nat} (he : p ≤ e) (hen : e ≤ n) (hk : k < 22) (hk9 : mm_sl k ≤ 126) : fX12_is (B + 66) (mm_c h (10 + k)) (nI e) h = some (if rIs t p e k = true then 1 else 0, h) := by
  have S := Y.1.2.2.1
  have M := Y.1.2.1
  obtain ⟨n9, t1, t2⟩ := Y.1.1
  have k1 := (M.1 k hk).1
  have hk2 : 20 ≤ mm_kd h (mm_c h (10 + k)) ∧ mm_kd h (mm_c h (10 + k)) < 42 := by rw [k1]; omega
  have hlen := x_tlen M hk
  have hL : ∀ K : Int32 → mm_H → Option (Int32 × mm_H), e - p = mm_sl k → ∀ (m j fuel : Nat) (ok : Bool), j + m = mm_sl k → m < fuel → fX12_is_L22 (B + 66) (mm_c h (10 + k)) K fuel (if ok = true then 1 else 0) (nI j) h = K (if (ok && !anyF (fun j => !decide (t (p + j) = mm_sb k j)) m j) = true then 1 else 0) h := by
    intro K hel m
    induction m with
    | zero =>
      intro j fuel ok hj hf
      obtain ⟨g, rfl⟩ : ∃ f, fuel = f + 1 := ⟨fuel - 1, by omega⟩
      show fX12_is_L22_b _ _ _ _ _ _ _ = _
      unfold fX12_is_L22_b
      rw [q_ck hk2, hlen, p_cl, if_pos (nI_le (show mm_sl k ≤ j by omega) (by omega))]
      show _ = K (if (ok && !false) = true then 1 else 0) h
      rw [Bool.not_false, Bool.and_true]
    | succ m ih =>
      intro j fuel ok hj hf
      obtain ⟨g, rfl⟩ : ∃ f, fuel = f + 1 := ⟨fuel - 1, by omega⟩
      show fX12_is_L22_b _ _ _ _ _ _ _ = _
      unfold fX12_is_L22_b
      rw [q_ck hk2, hlen, p_cl, if_neg (nI_ge (show j < mm_sl k by omega) (by omega))]
      cases ok with
      | false =>
        rw [if_neg (show ¬ false = true by decide), if_pos rfl, Bool.false_and, if_neg (by decide)]
      | true =>
        have hx := fun (β : Type) (z : Option β) => q_ckx (show p + j < 400 by omega) (by decide) z
        rw [if_pos rfl, if_neg (by decide), q_ck (sk66 S), sr66_16 S, p_rf, q_ck (sk79 S), Y.2.1.1, nI_add, sn79 S, hx, q_ck hk2, x_tchr M hk (show j < mm_sl k by omega) (by omega), p_cl, nI_clamp (by omega), t2 _ (by omega)]
        have ea : ∀ P : Nat → Bool, anyF P (m + 1) j = (P j || anyF P m (j + 1)) := fun _ => rfl
        rw [ea]
        refine (jn_eq (if decide (t (p + j) = mm_sb k j) = true then (1 : Int32) else 0) (fun q' => ?_)).trans ?_
        · by_cases c1 : t (p + j) = mm_sb k j
          · rw [if_neg (not_not_intro c1), decide_eq_true c1, if_pos rfl]
          · rw [if_pos c1, decide_eq_false c1, if_neg (by decide)]
        · rw [nI_1, p_lt, ih (j + 1) g (decide (t (p + j) = mm_sb k j)) (by omega) (by omega), Bool.not_or, Bool.not_not, Bool.true_and]
  unfold fX12_is
  rw [q_ck (sk66 S), q_ck hk2, hlen, p_cl, Y.2.1.1, nI_sub he]
  unfold rIs
  by_cases c1 : e - p = mm_sl k
  · refine (jn_eq (1 : Int32) (fun q' => by rw [if_neg (not_not_intro (by rw [c1]))])).trans ?_
    have := hL (fun (z26 : Int32) (g27 : mm_H) => mm_ck (z26 = 0 ∨ z26 = 1) <| some (z26, g27)) c1 (mm_sl k) 0 mm_F true (by omega) (by unfold mm_F; omega)
    rw [if_pos rfl, nI_0, Bool.true_and] at this
    rw [this, decide_eq_true c1, Bool.true_and]
    exact q_ck (by cases (!anyF (fun j => !decide (t (p + j) = mm_sb k j)) (mm_sl k) 0) <;> simp)
  · refine (jn_eq (0 : Int32) (fun q' => by rw [if_pos (fun z => c1 ((nI_eq (by omega) (by omega)).mp z))])).trans ?_
    rw [decide_eq_false c1, Bool.false_and, if_neg (by decide)]
    show fX12_is_L22_b _ _ _ _ _ _ _ = _
    unfold fX12_is_L22_b
    rw [q_ck hk2, hlen, p_cl, if_pos (show (0 : Int32) = 0 from rfl), ite_self]
    exact q_ck (Or.inl rfl)
theorem z_nu_L4 (K : Int32 → Int32 → mm_H → Option (Int32 × mm_H)) {p0 a : Nat} : ∀ (e p fuel : Nat) (h : mm_H), p + e = n → e < fuel → p0 ≤ p → yV B h t n L p f → mm_i h (B + 66) 19 = nI a → ∃ h', fX12_number_L4 (B + 66) K fuel (nI (nvA t p0 p)) (nI (p - p0)) h = K (nI (nvA t p0 (runF isDg t e p))) (nI (runF isDg t e p - p0)) h' ∧ mX B (wV B) h h' ∧ yV B h' t n L (runF isDg t e p) f ∧ mm_i h' (B + 66) 19 = nI a := by
  intro e
  induction e with
  | zero =>
    intro p fuel h hp hf h0 Y ha
    obtain ⟨g, rfl⟩ : ∃ f, fuel = f + 1 := ⟨fuel - 1, by omega⟩
    have S := Y.1.2.2.1
    obtain ⟨n9, t1, t2⟩ := Y.1.1
    refine ⟨h, ?_, mX.rf S.1, Y, ha⟩
    show fX12_number_L4_b _ _ _ _ _ _ = _
    unfold fX12_number_L4_b
    rw [q_ck (sk66 S), t1, Y.2.1.1, if_pos (nI_le (show n ≤ p by omega) (by omega))]
    rfl
  | succ e ih =>
    intro p fuel h hp hf h0 Y ha
    obtain ⟨g, rfl⟩ : ∃ f, fuel = f + 1 := ⟨fuel - 1, by omega⟩
    have S := Y.1.2.2.1
    obtain ⟨n9, t1, t2⟩ := Y.1.1
    have hq := fun (β : Type) (z : Option β) => q_ckx (show p < 400 by omega) (by decide) z
    simp only [runF]
    by_cases c1 : isDg (t p) = true
    · obtain ⟨v, v1, v2, v3, v4⟩ := dg_v c1
      obtain ⟨Y2, x2⟩ := Y.setp (p' := p + 1) (by omega)
      obtain ⟨h', q1, q2, q3, q4⟩ := ih (p + 1) g _ (by omega) (by omega) (by omega) Y2 (by rw [i_I, if_neg (fun z => by omega)]; exact ha)
      refine ⟨h', ?_, x2.tr q2, by rw [if_pos c1]; exact q3, q4⟩
      rw [if_pos c1, ← q1]
      show fX12_number_L4_b _ _ _ _ _ _ = _
      unfold fX12_number_L4_b
      rw [q_ck (sk66 S), t1, Y.2.1.1, if_neg (nI_ge (show p < n by omega) (by omega)), sr66_16 S, p_rf, q_ck (sk79 S), sn79 S, hq, nI_clamp (by omega), t2 p (by omega), y_dig, p_cl, if_pos c1, if_neg (by decide)]
      refine (jn_eq (nI (nvA t p0 (p + 1))) (fun q' => ?_)).trans ?_
      · rw [nvA_s h0]
        by_cases c5 : 5 ≤ p - p0
        · rw [if_pos (show (5 : Int32) ≤ nI (p - p0) from nI_le (a := 5) c5 (by omega)), if_pos c5]
        · rw [if_neg (show ¬ (5 : Int32) ≤ nI (p - p0) from nI_ge (b := 5) (by omega) (by omega)), if_neg c5, q_ck (sk66 S), sr66_16 S, p_rf, q_ck (sk79 S), Y.2.1.1, sn79 S, hq, nI_clamp (by omega), t2 p (by omega), v2, show nI (48 + v) - 48 = nI v by rw [show (48 : Int32) = nI 48 by decide +kernel, nI_sub (by omega), Nat.add_sub_cancel_left], nI_clamp (by omega), show (10 : Int32) = nI 10 by decide +kernel, show (48 : Int32) = nI 48 by decide +kernel, nI_mul, nI_add, nI_sub (by omega), show 10 * nvA t p0 p + (48 + v) - 48 = 10 * nvA t p0 p + v by omega]
      · rw [nI_1, p_lt, q_ck (sk66 S), Y.2.1.1, nI_1, p_lt, show p - p0 + 1 = p + 1 - p0 by omega]
    · refine ⟨h, ?_, mX.rf S.1, by rw [if_neg c1]; exact Y, ha⟩
      rw [if_neg c1]
      show fX12_number_L4_b _ _ _ _ _ _ = _
      unfold fX12_number_L4_b
      rw [q_ck (sk66 S), t1, Y.2.1.1, if_neg (nI_ge (show p < n by omega) (by omega)), sr66_16 S, p_rf, q_ck (sk79 S), sn79 S, hq, nI_clamp (by omega), t2 p (by omega), y_dig, p_cl, if_neg c1, if_pos rfl]
theorem z_number (Y : yV B h t n L p f) {a : Nat} (ha : mm_i h (B + 66) 19 = nI a) (hf : f < 2 ^ 30) : ∃ h', fX12_number (B + 66) h = some (nI (nvA t p (deF t n p)), h') ∧ mX B (wV B) h h' ∧ yV B h' t n L (deF t n p) (if 5 < deF t n p - p then fl f 1 a else f) := by
  have hp := Y.2.1.2
  have n9 := Y.1.1.1
  have hde := de_le (t := t) hp
  obtain ⟨h', q1, q2, q3, q4⟩ := z_nu_L4 (a := a) (p0 := p) (fun (z20 : Int32) (z21 : Int32) (g22 : mm_H) => if z21 ≤ (5 : Int32) then (some (z20, g22)) else (mm_ck (mm_kd g22 (B + 66) = 13) <| mm_cl (fX12_fails (B + 66) (1 : Int32) ((mm_i g22 (B + 66) 19)) g22) fun _ g25 => some (z20, g25))) (n - p) p mm_F h (by omega) (by unfold mm_F; omega) (Nat.le_refl _) Y ha
  rw [Nat.sub_self, nI_0, show nvA t p p = 0 by unfold nvA; rw [Nat.sub_self]; rfl, nI_0] at q1
  unfold fX12_number
  rw [q1, show runF isDg t (n - p) p = deF t n p from rfl]
  have q3' : yV B h' t n L (deF t n p) f := q3
  by_cases e : 5 < deF t n p - p
  · obtain ⟨h2, k1, k2, k3, -⟩ := z_fails q3' 1 a hf
    refine ⟨h2, ?_, q2.tr k2, by rw [if_pos e]; exact k3⟩
    rw [if_neg (show ¬ nI (deF t n p - p) ≤ (5 : Int32) from nI_ge (a := 5) e (by omega)), q_ck (sk66 q3'.1.2.2.1), q4, show (1 : Int32) = nI 1 by decide +kernel, k1, p_cl]
  · refine ⟨h', ?_, q2, by rw [if_neg e]; exact q3'⟩
    rw [if_pos (show nI (deF t n p - p) ≤ (5 : Int32) from nI_le (b := 5) (by omega) (by omega))]
theorem z_sgn (Y : yV B h t n L p f) : fX12_sign (B + 66) h = some (sgn t n p, h) := z_sign Y
/-- behind the blanks -/
theorem z_bl (Y : yV B h t n L p f) (e : skF t n p = plF t n i) : ∃ h', fX12_blanks (B + 66) h = some ((), h') ∧ mX B (wV B) h h' ∧ yV B h' t n L (plF t n i) f ∧ mm_i h' (B + 66) 19 = nI (plF t n i) := by
  have := z_blanks Y
  rw [e] at this
  exact this
end KP
