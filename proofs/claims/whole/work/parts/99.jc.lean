/-! the books joined: the class, on -/
section JC
variable {B a : Nat} {h hx hy h' : mm_H} {n0 n1 : Nat} {m0 m1 : Nat → Int32} {c0 c1 d0 d1 : Nat → Nat} {co da : Nat} {w : Nat → Nat → Nat}
/-- the pairs' worths -/
def xW (B : Nat) (h : mm_H) (n0 n1 : Nat) (w : Nat → Nat → Nat) : Prop := ∀ i j, i < n0 → j < n1 → mm_i h (B + 64) (i * 10 + j) = nI (w i j) ∧ w i j ≤ 100020001
/-- the best worths of the rows from i on -/
def xR (h : mm_H) (a n0 n1 : Nat) (w : Nat → Nat → Nat) (i : Nat) : Prop := ∀ p s, i ≤ p → p ≤ n0 → s < 2 ^ n1 → pcN s ≤ p → mm_i h a (p * 2 ^ n1 + s) = nI (jR w n0 n1 (n0 - p) s)
theorem x_best (S : mS B h) (X : bX B h n0 n1 m0 m1 c0 c1 d0 d1) (XA : xA B h a) (XW : xW B h n0 n1 w) (hb : ∀ r s, r ≤ n0 → jR w n0 n1 r s ≤ 1000200010) {i s : Nat} (hi : i < n0) (hs : s < 2 ^ n1) (hp : pcN s ≤ i) (XR : xR h a n0 n1 w (i + 1)) : fX1_bestWorth (B + 52) (nI i) (nI s) (nI (2 ^ n1)) h = some (nI (jR w n0 n1 (n0 - i) s), h) := by
  obtain ⟨a1, a2, a3, a4, a5⟩ := id XA
  have n9 := X.1
  have c9 := p_1024 n1 n9.2
  have cm : (i + 1) * 2 ^ n1 ≤ 10 * 1024 := Nat.mul_le_mul (by omega) c9
  have e1 : (nI i + 1) * nI (2 ^ n1) = nI ((i + 1) * 2 ^ n1) := by rw [nI_1, nI_mul]
  have hq := fun (β : Type) (z : Option β) => q_ckx (show (i + 1) * 2 ^ n1 + s < 11264 by omega) (by decide) z
  have hc := nI_clamp (n := (i + 1) * 2 ^ n1 + s) (by omega)
  have cell := XR (i + 1) s (Nat.le_refl _) (by omega) hs (by omega)
  have hL := x_best_L21 (u := w i) (F := jR w n0 n1 (n0 - (i + 1))) S X XA hi hs (nx := (i + 1) * 2 ^ n1) (by omega) (fun j hj => XW i j hi hj) (fun j hj hbit => by
    refine ⟨XR (i + 1) _ (Nat.le_refl _) (by omega) (or_lt hs hj) ?_, hb _ _ (by omega)⟩
    rw [pcN_or s (by omega) j (by omega) hbit]; omega) (fun z g => some (z, g)) n1 0 mm_F (jR w n0 n1 (n0 - (i + 1)) s) (by omega) (by unfold mm_F; omega) (by have := hb (n0 - (i + 1)) s (by omega); omega)
  rw [nI_0] at hL
  unfold fX1_bestWorth
  rw [e1, p_lt, q_ck (sk52 S), a1, p_rf, q_ck a2, a3, nI_add, hq, hc, cell, p_lt, hL]
  have er : n0 - i = (n0 - (i + 1)) + 1 := by omega
  have ei : n0 - ((n0 - (i + 1)) + 1) = i := by omega
  rw [er]
  show _ = some (nI (jF (w (n0 - ((n0 - (i + 1)) + 1))) (jR w n0 n1 (n0 - (i + 1))) s n1 0 (jR w n0 n1 (n0 - (i + 1)) s)), h)
  rw [ei]
theorem x_row (hb : ∀ r s, r ≤ n0 → jR w n0 n1 r s ≤ 1000200010) {i : Nat} (hi : i < n0) : ∀ (e s fuel : Nat) (h : mm_H), s + e = 2 ^ n1 → e < fuel → mS B h → bX B h n0 n1 m0 m1 c0 c1 d0 d1 → xA B h a → xW B h n0 n1 w → xR h a n0 n1 w (i + 1) → ∃ h', (∀ K, fX1_findPairs_L81 (B + 52) (nI (2 ^ n1)) (nI i) K fuel (nI s) h = K h') ∧ mX B (fun x _ => x = a) h h' ∧ (∀ t, s ≤ t → t < 2 ^ n1 → pcN t ≤ i → mm_i h' a (i * 2 ^ n1 + t) = nI (jR w n0 n1 (n0 - i) t)) ∧ ∀ p, (p < i * 2 ^ n1 + s ∨ (i + 1) * 2 ^ n1 ≤ p) → mm_i h' a p = mm_i h a p := by
  have es : (i + 1) * 2 ^ n1 = i * 2 ^ n1 + 2 ^ n1 := Nat.succ_mul _ _
  intro e
  induction e with
  | zero =>
    intro s fuel h hs hf S X XA XW XR
    obtain ⟨f, rfl⟩ : ∃ f, fuel = f + 1 := ⟨fuel - 1, by omega⟩
    have c9 := p_1024 n1 X.1.2
    refine ⟨h, fun K => ?_, mX.rf S.1, fun q h1 h2 => by omega, fun _ _ => rfl⟩
    show fX1_findPairs_L81_b _ _ _ _ _ _ _ = _
    unfold fX1_findPairs_L81_b
    rw [if_pos (nI_le (show 2 ^ n1 ≤ s by omega) (by omega))]
  | succ e ih =>
    intro s fuel h hs hf S X XA XW XR
    obtain ⟨f, rfl⟩ : ∃ f, fuel = f + 1 := ⟨fuel - 1, by omega⟩
    obtain ⟨a1, a2, a3, a4, a5⟩ := id XA
    have n9 := X.1
    have c9 := p_1024 n1 n9.2
    have hs2 : s < 2 ^ n1 := by omega
    have cm : (i + 1) * 2 ^ n1 ≤ 10 * 1024 := Nat.mul_le_mul (by omega) c9
    obtain ⟨pc1, pc2⟩ := pcN_ok s (by omega)
    have hidx : nI i * nI (2 ^ n1) + nI s = nI (i * 2 ^ n1 + s) := by rw [nI_mul, nI_add]
    have hq := fun (β : Type) (z : Option β) => q_ckx (show i * 2 ^ n1 + s < 11264 by omega) (by decide) z
    have hc := nI_clamp (n := i * 2 ^ n1 + s) (by omega)
    by_cases cp : pcN s ≤ i
    · have hbest := x_best S X XA XW hb hi hs2 cp XR
      obtain ⟨h1, e1⟩ : ∃ g, g = mm_setI h a (i * 2 ^ n1 + s) (nI (jR w n0 n1 (n0 - i) s)) := ⟨_, rfl⟩
      have x1 : mX B (fun x _ => x = a) h h1 := by rw [e1]; exact (mX.rf S.1).I (Or.inl rfl)
      have xj : mX B (wJ B a) h h1 := x1.up fun x i _ z => Or.inr (Or.inr (Or.inl z))
      have k64 : ∀ p, mm_i h1 (B + 64) p = mm_i h (B + 64) p := fun p => by rw [e1, i_I_ne (by omega)]
      have XR1 : xR h1 a n0 n1 w (i + 1) := fun p t h1' h2' h3' h4' => by
        have : (i + 1) * 2 ^ n1 ≤ p * 2 ^ n1 := Nat.mul_le_mul_right _ h1'
        rw [e1, i_I, if_neg (fun z => by omega)]; exact XR p t h1' h2' h3' h4'
      obtain ⟨h', q1, q2, q3, q4⟩ := ih (s + 1) f h1 (by omega) (by omega) (x1.S S) (X.up a4 xj) (XA.up xj) (fun p q hp hq' => by rw [k64]; exact XW p q hp hq') XR1
      refine ⟨h', fun K => ?_, x1.tr q2, fun t h1' h2' h3' => ?_, fun p hp => ?_⟩
      · rw [← q1 K]
        show fX1_findPairs_L81_b _ _ _ _ _ _ _ = _
        unfold fX1_findPairs_L81_b
        rw [if_neg (nI_ge hs2 (by omega)), bcF_ok, p_cl, pc1]
        refine (jn_eq h1 (fun q => ?_)).trans ?_
        · rw [if_neg (nI_nlt cp (by omega)), q_ck (sk52 S), hbest, p_cl, a1, p_rf, q_ck a2, a3, hidx, hq, hc, ← e1, p_lt]
        · rw [p_lt, nI_1]
      · by_cases c : t = s
        · subst c; rw [q4 _ (by omega), e1, i_I_eq]
        · exact q3 t (by omega) h2' h3'
      · rw [q4 p (by omega), e1, i_I, if_neg (fun z => by omega)]
    · obtain ⟨h', q1, q2, q3, q4⟩ := ih (s + 1) f h (by omega) (by omega) S X XA XW XR
      refine ⟨h', fun K => ?_, q2, fun t h1' h2' h3' => ?_, fun p hp => q4 p (by omega)⟩
      · rw [← q1 K]
        show fX1_findPairs_L81_b _ _ _ _ _ _ _ = _
        unfold fX1_findPairs_L81_b
        rw [if_neg (nI_ge hs2 (by omega)), bcF_ok, p_cl, pc1]
        refine (jn_eq h (fun q => if_pos (nI_lt (by omega) (by omega)))).trans ?_
        rw [p_lt, nI_1]
      · by_cases c : t = s
        · subst c; omega
        · exact q3 t (by omega) h2' h3'
theorem x_rows (hb : ∀ r s, r ≤ n0 → jR w n0 n1 r s ≤ 1000200010) : ∀ (q fuel : Nat) (h : mm_H), q ≤ n0 → q < fuel → mS B h → bX B h n0 n1 m0 m1 c0 c1 d0 d1 → xA B h a → xW B h n0 n1 w → xR h a n0 n1 w q → ∃ h', (∀ K, fX1_findPairs_L73 (B + 52) (nI (2 ^ n1)) K fuel (nI q - 1) h = K h') ∧ mX B (fun x _ => x = a) h h' ∧ xR h' a n0 n1 w 0 := by
  intro q
  induction q with
  | zero =>
    intro fuel h hq hf S X XA XW XR
    obtain ⟨f, rfl⟩ : ∃ f, fuel = f + 1 := ⟨fuel - 1, by omega⟩
    refine ⟨h, fun K => ?_, mX.rf S.1, XR⟩
    show fX1_findPairs_L73_b _ _ _ _ _ _ = _
    unfold fX1_findPairs_L73_b
    rw [if_pos (by rw [nI_0]; decide)]
  | succ q ih =>
    intro fuel h hq hf S X XA XW XR
    obtain ⟨f, rfl⟩ : ∃ f, fuel = f + 1 := ⟨fuel - 1, by omega⟩
    have c9 := p_1024 n1 X.1.2
    have a4 := XA.2.2.2.1
    obtain ⟨h1, p1, p2, p3, p4⟩ := x_row (B := B) hb (show q < n0 by omega) (2 ^ n1) 0 mm_F h (by omega) (by unfold mm_F; omega) S X XA XW XR
    simp only [nI_0] at p1
    have xj : mX B (wJ B a) h h1 := p2.up fun x i _ z => Or.inr (Or.inr (Or.inl z))
    have XR1 : xR h1 a n0 n1 w q := fun p t h1' h2' h3' h4' => by
      by_cases c : p = q
      · subst c; exact p3 t (Nat.zero_le _) h3' h4'
      · have : (q + 1) * 2 ^ n1 ≤ p * 2 ^ n1 := Nat.mul_le_mul_right _ (by omega)
        rw [p4 _ (by omega)]; exact XR p t (by omega) h2' h3' h4'
    obtain ⟨h', q1, q2, q3⟩ := ih f h1 (by omega) (by omega) (p2.S S) (X.up a4 xj) (XA.up xj) (fun i j hi hj => by rw [p2.i (by have := S.1; omega) (by omega)]; exact XW i j hi hj) XR1
    refine ⟨h', fun K => ?_, p2.tr q2, q3⟩
    rw [← q1 K]
    show fX1_findPairs_L73_b _ _ _ _ _ _ = _
    unfold fX1_findPairs_L73_b
    have n99 := X.1
    rw [nI_pred, if_neg (nI_pos (by omega)), p1, p_lt, nI_m1]
theorem x_part_L22 (S : mS B h) (X : bX B h n0 n1 m0 m1 c0 c1 d0 d1) (XA : xA B h a) (XW : xW B h n0 n1 w) (hb : ∀ r s, r ≤ n0 → jR w n0 n1 r s ≤ 1000200010) {i s : Nat} (hi : i < n0) (hs : s < 2 ^ n1) (hp : pcN s ≤ i) (XR : xR h a n0 n1 w 0) (K : mm_H → Option (Int32 × mm_H)) : ∀ (e j fuel : Nat), j + e = n1 → e < fuel → fX1_firstPartner_L22 (B + 52) (nI i) (nI s) (nI ((i + 1) * 2 ^ n1)) (nI (jR w n0 n1 (n0 - i) s)) K fuel (nI j) h = if fstF (jP w n0 n1 i s) e j = -1 then K h else some (fstF (jP w n0 n1 i s) e j, h) := by
  obtain ⟨a1, a2, a3, a4, a5⟩ := id XA
  have n9 := X.1
  have c9 := p_1024 n1 n9.2
  have cm : (i + 1) * 2 ^ n1 ≤ 10 * 1024 := Nat.mul_le_mul (by omega) c9
  intro e
  induction e with
  | zero =>
    intro j fuel hj hf
    obtain ⟨f, rfl⟩ : ∃ f, fuel = f + 1 := ⟨fuel - 1, by omega⟩
    show fX1_firstPartner_L22_b _ _ _ _ _ _ _ _ _ = _
    unfold fX1_firstPartner_L22_b
    simp only [q_c1]
    rw [q_ck (sk52 S), sr52_0 S, p_rf, q_ck (sk53 S), sn53 S, q_ix1, X.2.2.1, if_pos (nI_le (show n1 ≤ j by omega) (by omega))]
    exact (if_pos rfl).symm
  | succ e ih =>
    intro j fuel hj hf
    obtain ⟨f, rfl⟩ : ∃ f, fuel = f + 1 := ⟨fuel - 1, by omega⟩
    have hj2 : j < n1 := by omega
    obtain ⟨u1, u2⟩ := XW i j hi hj2
    have hidx : nI i * (10 : Int32) + nI j = nI (i * 10 + j) := by rw [show (10 : Int32) = nI 10 by decide +kernel, nI_mul, nI_add]
    have hq64 := fun (β : Type) (z : Option β) => q_ckx (show i * 10 + j < 100 by omega) (by decide) z
    have hc64 := nI_clamp (n := i * 10 + j) (by omega)
    have hbit := jb_bit s (by omega) j (by omega)
    have hor := jb_or s (by omega) j (by omega)
    have hol := or_lt hs hj2
    have hqa := fun (β : Type) (z : Option β) => q_ckx (show (i + 1) * 2 ^ n1 + (s ||| 2 ^ j) < 11264 by omega) (by decide) z
    have hca := nI_clamp (n := (i + 1) * 2 ^ n1 + (s ||| 2 ^ j)) (by omega)
    have ih1 := ih (j + 1) f (by omega) (by omega)
    have hjn : ¬ nI j = -1 := nI_neg1 (by omega)
    have hno : jP w n0 n1 i s j = false → fX1_firstPartner_L22 (B + 52) (nI i) (nI s) (nI ((i + 1) * 2 ^ n1)) (nI (jR w n0 n1 (n0 - i) s)) K f (nI (j + 1)) h = if fstF (jP w n0 n1 i s) (e + 1) j = -1 then K h else some (fstF (jP w n0 n1 i s) (e + 1) j, h) := fun z => by
      have : fstF (jP w n0 n1 i s) (e + 1) j = fstF (jP w n0 n1 i s) e (j + 1) := by
        simp only [fstF, z]; rfl
      rw [this]; exact ih1
    show fX1_firstPartner_L22_b _ _ _ _ _ _ _ _ _ = _
    unfold fX1_firstPartner_L22_b
    simp only [q_c1, hidx, hc64]
    rw [q_ck (sk52 S), sr52_0 S, p_rf, q_ck (sk53 S), sn53 S, q_ix1, X.2.2.1, if_neg (nI_ge hj2 (by omega)), sr52_8 S, p_rf, q_ck (sk64 S), sn64 S, hq64, u1, p_lt, hbit, p_jn]
    by_cases w1 : 0 < w i j
    case neg =>
      rw [if_pos (by rw [← nI_0]; exact nI_le (by omega) (by omega)), p_lt, nI_1]
      exact hno (by unfold jP; rw [decide_eq_false w1]; rfl)
    rw [if_neg (nI_nle w1 (by omega))]
    cases w2 : s.testBit j with
    | true =>
      rw [if_pos (by decide), p_lt, nI_1]
      exact hno (by unfold jP; rw [w2]; simp)
    | false =>
      have f1 := XR (i + 1) (s ||| 2 ^ j) (Nat.zero_le _) (by omega) hol (by rw [pcN_or s (by omega) j (by omega) w2]; omega)
      have f2 := hb (n0 - (i + 1)) (s ||| 2 ^ j) (by omega)
      have f3 := hb (n0 - i) s (by omega)
      have heq : nI (w i j + jR w n0 n1 (n0 - (i + 1)) (s ||| 2 ^ j)) = nI (jR w n0 n1 (n0 - i) s) ↔ w i j + jR w n0 n1 (n0 - (i + 1)) (s ||| 2 ^ j) = jR w n0 n1 (n0 - i) s := nI_eq (by omega) (by omega)
      rw [if_neg (by decide), a1, p_rf, q_ck a2, a3, hor, nI_add, hqa, hca, f1, nI_add]
      by_cases w3 : w i j + jR w n0 n1 (n0 - (i + 1)) (s ||| 2 ^ j) = jR w n0 n1 (n0 - i) s
      · rw [if_neg (not_not_intro (heq.mpr w3))]
        have : fstF (jP w n0 n1 i s) (e + 1) j = nI j := by
          have z : jP w n0 n1 i s j = true := by unfold jP; rw [w2, decide_eq_true w1, decide_eq_true w3]; rfl
          simp only [fstF, z]; rfl
        rw [this, if_neg hjn]
      · rw [if_pos (fun z => w3 (heq.mp z)), p_lt, nI_1]
        exact hno (by unfold jP; rw [decide_eq_false w3]; simp)
theorem x_part (S : mS B h) (X : bX B h n0 n1 m0 m1 c0 c1 d0 d1) (XA : xA B h a) (XW : xW B h n0 n1 w) (hb : ∀ r s, r ≤ n0 → jR w n0 n1 r s ≤ 1000200010) {i s : Nat} (hi : i < n0) (hs : s < 2 ^ n1) (hp : pcN s ≤ i) (XR : xR h a n0 n1 w 0) : fX1_firstPartner (B + 52) (nI i) (nI s) (nI (2 ^ n1)) h = some (fstF (jP w n0 n1 i s) n1 0, h) := by
  obtain ⟨a1, a2, a3, a4, a5⟩ := id XA
  have n9 := X.1
  have c9 := p_1024 n1 n9.2
  have cm : i * 2 ^ n1 ≤ 10 * 1024 := Nat.mul_le_mul (by omega) c9
  have e1 : (nI i + 1) * nI (2 ^ n1) = nI ((i + 1) * 2 ^ n1) := by rw [nI_1, nI_mul]
  have hidx : nI i * nI (2 ^ n1) + nI s = nI (i * 2 ^ n1 + s) := by rw [nI_mul, nI_add]
  have hq := fun (β : Type) (z : Option β) => q_ckx (show i * 2 ^ n1 + s < 11264 by omega) (by decide) z
  have hc := nI_clamp (n := i * 2 ^ n1 + s) (by omega)
  have hL := x_part_L22 S X XA XW hb hi hs hp XR (fun g => some ((-1 : Int32), g)) n1 0 mm_F (by omega) (by unfold mm_F; omega)
  rw [nI_0] at hL
  unfold fX1_firstPartner
  simp only [hidx]
  rw [e1, p_lt, q_ck (sk52 S), a1, p_rf, q_ck a2, a3, hq, hc, XR i s (Nat.zero_le _) (by omega) hs hp, p_lt, hL]
  by_cases c : fstF (jP w n0 n1 i s) n1 0 = -1
  · rw [if_pos c, c]
  · rw [if_neg c]
end JC
