/-! a man dies: the claims on him, his heir -/
theorem fstF_cg {P Q : Nat → Bool} : ∀ {e i : Nat}, (∀ j, i ≤ j → j < i + e → P j = Q j) → fstF P e i = fstF Q e i := by
  intro e
  induction e with
  | zero => intro i _; rfl
  | succ e ih =>
    intro i h
    simp only [fstF]
    rw [h i (Nat.le_refl _) (by omega), ih (fun j h1 h2 => h j (by omega) (by omega))]
section GC
variable {B : Nat} {h hx hy hx' hy' : mm_H} {ow ow' : Nat → Nat × Nat} {n nl nm : Nat} {am al : Nat → Nat} {P C : Nat → Nat} {A U : Nat → Nat → Nat} {T : Nat → Int32} {x : Nat} {D : Nat → Int32}
theorem J_claimsIn {k m : Nat} (hk : k < n) (hm : m < nm) : ∀ (e i : Nat) (hx hy : mm_H) (P C : Nat → Nat) (U : Nat → Nat → Nat) (fuel fuel' : Nat), i + e = U 3 k → e < fuel → e < fuel' → mS B hx → mS B hy → RMn B ow hx hy nm am → RBg B ow hx hy nm n A U T → RCx B hx hy nm am P C x → ∃ hx' hy' P' C' U', (∀ K b2, fX11_payClaimsOf_L28 B (nI m) b2 (some (A 0 k)) K fuel (nI i) hx = K hx') ∧ (∀ K, fX12_die_L175 (B + 66) (nI m) (nI k) K fuel' (nI i) hy = K hy') ∧ mY B ow [2, 27] hx hx' ∧ (∀ o : Nat → Nat × Nat, mY B o [102, 127] hy hy') ∧ RCx B hx' hy' nm am P' C' x ∧ RBg B ow hx' hy' nm n A U' T := by
  intro e
  induction e with
  | zero =>
    intro i hx hy P C U fuel fuel' hi hf hf' S S' M R Q
    obtain ⟨f, rfl⟩ : ∃ f, fuel = f + 1 := ⟨fuel - 1, by omega⟩
    obtain ⟨f', rfl⟩ : ∃ f, fuel' = f + 1 := ⟨fuel' - 1, by omega⟩
    have n9 := R.1
    have kdA := (R.2.1.2.2.2 k hk).2
    obtain ⟨d1, d2, d3⟩ := (R.2.2.2.1 k hk).1.2.2.2.1
    have e1 : nI (U 3 k) ≤ nI i := nI_le (by omega) (by omega)
    have hq := fun (β : Type) (z : Option β) => q_ckx (show k < 300 by omega) (by decide) z
    have hcl := nI_clamp (n := k) (by omega)
    refine ⟨hx, hy, P, C, U, fun K b2 => ?_, fun K => ?_, mX.rf S.1, fun o => mX.rf S'.1, Q, R⟩
    · show fX11_payClaimsOf_L28_b _ _ _ _ _ _ _ _ = _
      unfold fX11_payClaimsOf_L28_b
      rw [p_rf, q_ck kdA, d1, if_pos e1]
    · show fX12_die_L175_b _ _ _ _ _ _ _ = _
      unfold fX12_die_L175_b
      simp only [hcl]
      rw [q_ck (sk66 S'), sr66_54 S', p_rf, q_ck (sk106 S'), sn106 S', hq, d2, if_pos e1]
  | succ e ih =>
    intro i hx hy P C U fuel fuel' hi hf hf' S S' M R Q
    obtain ⟨f, rfl⟩ : ∃ f, fuel = f + 1 := ⟨fuel - 1, by omega⟩
    obtain ⟨f', rfl⟩ : ∃ f, fuel' = f + 1 := ⟨fuel' - 1, by omega⟩
    have n9 := R.1
    have m9 := M.1
    have kdA := (R.2.1.2.2.2 k hk).2
    obtain ⟨Mk, ⟨r1, r2, r3⟩, -, ⟨r4, r5, r6⟩, r7, r8, r9⟩ := R.2.2.2.1 k hk
    obtain ⟨d1, d2, d3⟩ := Mk.2.2.2.1
    obtain ⟨b1, b2', b3⟩ := Mk.2.1
    have hO := Mk.2.2.2.2.2.2.2.2.2
    obtain ⟨-, ⟨s4, s5⟩, -⟩ := Mk.2.2.2.2.2.2.2.1 i (by omega)
    have e1 : ¬ nI (U 3 k) ≤ nI i := nI_ge (by omega) (by omega)
    have hq := fun (β : Type) (z : Option β) => q_ckx (show k < 300 by omega) (by decide) z
    have hcl := nI_clamp (n := k) (by omega)
    have e2 : nI (U 1 k) = nI m ↔ U 1 k = m := nI_eq (by omega) (by omega)
    by_cases c : U 1 k = m
    case neg =>
      refine ⟨hx, hy, P, C, U, fun K b2 => ?_, fun K => ?_, mX.rf S.1, fun o => mX.rf S'.1, Q, R⟩
      · show fX11_payClaimsOf_L28_b _ _ _ _ _ _ _ _ = _
        unfold fX11_payClaimsOf_L28_b
        rw [p_rf, q_ck kdA, d1, if_neg e1, b1, if_pos (fun z => c (e2.mp z))]
      · show fX12_die_L175_b _ _ _ _ _ _ _ = _
        unfold fX12_die_L175_b
        simp only [hcl]
        rw [q_ck (sk66 S'), sr66_54 S', p_rf, q_ck (sk106 S'), sn106 S', hq, d2, if_neg e1, sr66_45 S', p_rf, q_ck (sk97 S'), sn97 S', hq, b2', if_pos (fun z => c (e2.mp z))]
    have hi3 : i < 3 := by omega
    have hc9 : U (7 + i) k ≤ 1000000 := q_cl3 hi3 hO
    obtain ⟨h1, y1, P1, C1, p1, p2, p3, p4, p5, p6⟩ := J_claims S S' M R Q hk (i := i) (by omega) (c := U (7 + i) k) (by omega)
    have M1 := M.up p3 mO.rf (p4 ow) (by decide) (by decide) (le_11 p3 (by decide))
    obtain ⟨hx', hy', P', C', U', q1, q2, q3, q4, q5, q6⟩ := ih (i + 1) h1 y1 P1 C1 _ f f' (by rw [upU_ne (by omega)]; omega) (by omega) (by omega) (p3.S S) ((p4 ow).S S') M1 p6 p5
    have hq3 := fun (β : Type) (z : Option β) => q_ckx hi3 (by decide) z
    have hcl3 := nI_clamp (n := i) (by omega)
    have hq9 := fun (β : Type) (z : Option β) => q_ckx (show 3 * k + i < 900 by omega) (by decide) z
    have hcl9 := nI_clamp (n := 3 * k + i) (by omega)
    refine ⟨hx', hy', P', C', U', fun K b2 => ?_, fun K => ?_, p3.tr q3, fun o => (p4 o).tr (q4 o), q5, q6⟩
    · rw [← q1 K b2]
      show fX11_payClaimsOf_L28_b _ _ _ _ _ _ _ _ = _
      unfold fX11_payClaimsOf_L28_b
      simp only [hcl3]
      rw [p_rf, q_ck kdA, d1, if_neg e1, b1, if_neg (not_not_intro (e2.mpr c)), r2, p_rf, q_ck r5, r8, hq3, q_ck (sk0 S), s4, p1, p_cl, p_lt, nI_1]
    · rw [← q2 K]
      show fX12_die_L175_b _ _ _ _ _ _ _ = _
      unfold fX12_die_L175_b
      simp only [hcl, q_3, hcl9]
      rw [q_ck (sk66 S'), sr66_54 S', p_rf, q_ck (sk106 S'), sn106 S', hq, d2, if_neg e1, sr66_45 S', p_rf, q_ck (sk97 S'), sn97 S', hq, b2', if_neg (not_not_intro (e2.mpr c)), sr66_56 S', p_rf, q_ck (sk108 S'), sn108 S', hq9, s5, p2, p_cl, p_lt, nI_1]
theorem J_claimsAll {m : Nat} (hm : m < nm) : ∀ (e i : Nat) (hx hy : mm_H) (P C : Nat → Nat) (U : Nat → Nat → Nat) (fuel fuel' : Nat), i + e = n → e < fuel → e < fuel' → mS B hx → mS B hy → RMn B ow hx hy nm am → RBg B ow hx hy nm n A U T → RCx B hx hy nm am P C x → ∃ hx' hy' P' C' U', (∀ K, fX11_payClaimsOf_L2 B (nI m) K fuel (nI i) hx = K hx') ∧ (∀ K, fX12_die_L164 (B + 66) (nI m) K fuel' (nI i) hy = K hy') ∧ mY B ow [2, 27] hx hx' ∧ (∀ o : Nat → Nat × Nat, mY B o [102, 127] hy hy') ∧ RCx B hx' hy' nm am P' C' x ∧ RBg B ow hx' hy' nm n A U' T := by
  intro e
  induction e with
  | zero =>
    intro i hx hy P C U fuel fuel' hi hf hf' S S' M R Q
    obtain ⟨f, rfl⟩ : ∃ f, fuel = f + 1 := ⟨fuel - 1, by omega⟩
    obtain ⟨f', rfl⟩ : ∃ f, fuel' = f + 1 := ⟨fuel' - 1, by omega⟩
    have n9 := R.1
    have hsz := x_size (sk3 S) R.2.1
    have h43 := R.2.2.1
    have e1 : nI n ≤ nI i := nI_le (by omega) (by omega)
    refine ⟨hx, hy, P, C, U, fun K => ?_, fun K => ?_, mX.rf S.1, fun o => mX.rf S'.1, Q, R⟩
    · show fX11_payClaimsOf_L2_b _ _ _ _ _ _ = _
      unfold fX11_payClaimsOf_L2_b
      rw [q_ck (sk0 S), sr0_2 S, p_rf, q_ck (sk3 S), hsz, p_cl, if_pos e1]
    · show fX12_die_L164_b _ _ _ _ _ _ = _
      unfold fX12_die_L164_b
      rw [q_ck (sk66 S'), h43, if_pos e1]
  | succ e ih =>
    intro i hx hy P C U fuel fuel' hi hf hf' S S' M R Q
    obtain ⟨f, rfl⟩ : ∃ f, fuel = f + 1 := ⟨fuel - 1, by omega⟩
    obtain ⟨f', rfl⟩ : ∃ f, fuel' = f + 1 := ⟨fuel' - 1, by omega⟩
    have n9 := R.1
    have hi2 : i < n := by omega
    have hsz := x_size (sk3 S) R.2.1
    have hg := x_bar S R hi2
    have kdA := (R.2.1.2.2.2 i hi2).2
    have h43 := R.2.2.1
    have d3 := (R.2.2.2.1 i hi2).1.2.2.2.1.2.2
    have e1 : ¬ nI n ≤ nI i := nI_ge (by omega) (by omega)
    obtain ⟨h1, y1, P1, C1, U1, p1, p2, p3, p4, p5, p6⟩ := J_claimsIn (ow := ow) hi2 hm (U 3 i) 0 hx hy P C U mm_F mm_F (by omega) (by unfold mm_F; omega) (by unfold mm_F; omega) S S' M R Q
    have M1 := M.up p3 mO.rf (p4 ow) (by decide) (by decide) (le_11 p3 (by decide))
    obtain ⟨hx', hy', P', C', U', q1, q2, q3, q4, q5, q6⟩ := ih (i + 1) h1 y1 P1 C1 U1 f f' (by omega) (by omega) (by omega) (p3.S S) ((p4 ow).S S') M1 p6 p5
    simp only [nI_0] at p1 p2
    refine ⟨hx', hy', P', C', U', fun K => ?_, fun K => ?_, p3.tr q3, fun o => (p4 o).tr (q4 o), q5, q6⟩
    · rw [← q1 K]
      show fX11_payClaimsOf_L2_b _ _ _ _ _ _ = _
      unfold fX11_payClaimsOf_L2_b
      rw [q_ck (sk0 S), sr0_2 S, p_rf, q_ck (sk3 S), hsz, p_cl, if_neg e1, q_ck (sk0 S), sr0_2 S, p_rf, q_ck (sk3 S), hg, p_cl, p_rf, q_ck kdA, p1, p_lt, nI_1]
    · rw [← q2 K]
      show fX12_die_L164_b _ _ _ _ _ _ = _
      unfold fX12_die_L164_b
      rw [q_ck (sk66 S'), h43, if_neg e1, p2, p_lt, nI_1]
/-- the least man there of a town -/
def hrP (hx : mm_H) (am : Nat → Nat) (T : Nat → Int32) (m k : Nat) : Bool := decide (mm_i hx (am k) 4 = -1) && decide (T k = T m)
theorem x_heir (S : mS B hx) (M : RMn B ow hx hy nm am) (hT : ∀ c, c < nm → mm_i hy (B + 67) c = T c) (m : Nat) : fX11_heirOf B (T m) hx = some (fstF (hrP hx am T m) nm 0, hx) := by
  obtain ⟨M1, M2, M3, M4⟩ := id M
  unfold fX11_heirOf
  rw [q_ck (sk0 S), x_leastMan S M2, p_cl]
  rw [fstF_cg (P := lmP hx am (T m) (mm_i hx B 11)) (Q := hrP hx am T m)]
  intro j h1 h2
  obtain ⟨t1, t2, t3, t4⟩ := M4 j (by omega)
  have e0 : mm_i hx (am j) 0 = T j := by rw [← t1.1]; exact hT j (by omega)
  unfold lmP hrP
  rw [e0]
  have e2 : decide (mm_i hx (am j) 2 ≤ mm_i hx B 11) = true := decide_eq_true t3.2.2
  rw [e2, Bool.true_and]
  have e3 : decide (mm_i hx B 11 < mm_i hx (am j) 4) = false := by
    refine decide_eq_false fun z => ?_
    rcases t4 with t4 | t4
    · rw [t4.1] at z
      exact absurd (Int32.lt_of_le_of_lt (Int32.le_trans t3.2.1 t3.2.2) z) (by decide)
    · exact absurd (Int32.lt_of_lt_of_le z t4.2.1) Int32.lt_irrefl
  rw [e3, Bool.or_false, Bool.and_comm]
theorem y_heir (S : mS B hy) (M : RMn B ow hx hy nm am) (N3 : mm_i hx B 11 ≤ 3999) (hT : ∀ c, c < nm → mm_i hy (B + 67) c = T c) {m : Nat} (hm : m < nm) (K : Int32 → mm_H → Option (Int32 × mm_H)) : ∀ (e i fuel : Nat), i + e = nm → e + 1 < fuel → fX12_die_L232 (B + 66) (nI m) K fuel (-1) (nI i) hy = K (fstF (hrP hx am T m) e i) hy := by
  obtain ⟨M1, M2, M3, M4⟩ := id M
  intro e
  induction e with
  | zero =>
    intro i fuel hi hf
    obtain ⟨f, rfl⟩ : ∃ f, fuel = f + 1 := ⟨fuel - 1, by omega⟩
    show fX12_die_L232_b _ _ _ _ _ _ _ = _
    unfold fX12_die_L232_b
    rw [q_ck (sk66 S), M3, if_pos (nI_le (show nm ≤ i by omega) (by omega))]
    rfl
  | succ e ih =>
    intro i fuel hi hf
    obtain ⟨f, rfl⟩ : ∃ f, fuel = f + 1 + 1 := ⟨fuel - 2, by omega⟩
    have hi2 : i < nm := by omega
    have hq := fun (β : Type) (z : Option β) => q_ckx (show i < 40 by omega) (by decide) z
    have hq2 := fun (β : Type) (z : Option β) => q_ckx (show m < 40 by omega) (by decide) z
    have hcl := nI_clamp (n := i) (by omega)
    have hcl2 := nI_clamp (n := m) (by omega)
    obtain ⟨g1, g2⟩ := y_isThere S M N3 (a := nI i)
    show fX12_die_L232_b _ _ _ _ _ _ _ = _
    unfold fX12_die_L232_b
    rw [q_ck (sk66 S), M3, if_neg (nI_ge hi2 (by omega)), if_neg (not_not_intro rfl)]
    by_cases c1 : mm_i hx (am i) 4 = -1
    case neg =>
      rw [g2 (fun ⟨k, k1, k2, k3⟩ => c1 (by rw [(nI_eq (by omega) (by omega)).mp k2]; exact k3)), p_cl]
      refine (jn_eq (-1 : Int32) (fun q => ?_)).trans ?_
      · rw [p_jn, if_pos rfl]
      · rw [p_lt, nI_1]
        have : fstF (hrP hx am T m) (e + 1) i = fstF (hrP hx am T m) e (i + 1) := by
          simp only [fstF]; rw [if_neg]; unfold hrP; simp [c1]
        rw [this]
        exact ih (i + 1) (f + 1) (by omega) (by omega)
    rw [g1 ⟨i, hi2, rfl, c1⟩, p_cl]
    by_cases c2 : T i = T m
    case neg =>
      refine (jn_eq (-1 : Int32) (fun q => ?_)).trans ?_
      · rw [p_jn, if_neg (by decide), q_ck (sk66 S), sr66_3 S, p_rf, q_ck (sk67 S), sn67 S, hq, hq2, hcl, hcl2, hT i hi2, hT m hm, if_pos c2]
      · rw [p_lt, nI_1]
        have : fstF (hrP hx am T m) (e + 1) i = fstF (hrP hx am T m) e (i + 1) := by
          simp only [fstF]; rw [if_neg]; unfold hrP; simp [c2]
        rw [this]
        exact ih (i + 1) (f + 1) (by omega) (by omega)
    refine (jn_eq (nI i) (fun q => ?_)).trans ?_
    · rw [p_jn, if_neg (by decide), q_ck (sk66 S), sr66_3 S, p_rf, q_ck (sk67 S), sn67 S, hq, hq2, hcl, hcl2, hT i hi2, hT m hm, if_neg (not_not_intro c2)]
    · rw [p_lt, nI_1]
      have : fstF (hrP hx am T m) (e + 1) i = nI i := by
        simp only [fstF]; rw [if_pos]; unfold hrP; simp [c1, c2]
      rw [this]
      show fX12_die_L232_b _ _ _ _ _ _ _ = _
      unfold fX12_die_L232_b
      rw [q_ck (sk66 S), M3, if_pos (nI_neg1 (by omega)), ite_self]
/-- the list of a dead man's done bargains is made empty -/
theorem y_done (b1 b2 : Int32) : ∀ (e i fuel : Nat) (hy : mm_H), mS B hy → mm_i hy (B + 66) 43 = nI n → n ≤ 300 → i + e = n → e < fuel → ∃ hy', (∀ K, fX12_die_L25 (B + 66) b1 b2 K fuel (nI i) hy = K hy') ∧ (∀ o : Nat → Nat × Nat, mY B o [100] hy hy') ∧ (∀ k, k < i → mm_i hy' (B + 133) k = mm_i hy (B + 133) k) ∧ ∀ k, i ≤ k → k < n → mm_i hy' (B + 133) k = 0 := by
  intro e
  induction e with
  | zero =>
    intro i fuel hy S h43 n9 hi hf
    obtain ⟨f, rfl⟩ : ∃ f, fuel = f + 1 := ⟨fuel - 1, by omega⟩
    refine ⟨hy, fun K => ?_, fun _ => mX.rf S.1, fun _ _ => rfl, fun k h1 h2 => by omega⟩
    show fX12_die_L25_b _ _ _ _ _ _ _ = _
    unfold fX12_die_L25_b
    rw [q_ck (sk66 S), h43, if_pos (nI_le (show n ≤ i by omega) (by omega))]
  | succ e ih =>
    intro i fuel hy S h43 n9 hi hf
    obtain ⟨f, rfl⟩ : ∃ f, fuel = f + 1 := ⟨fuel - 1, by omega⟩
    have hq := fun (β : Type) (z : Option β) => q_ckx (show i < 300 by omega) (by decide) z
    have hcl := nI_clamp (n := i) (by omega)
    obtain ⟨y1, e1⟩ : ∃ y1, y1 = mm_setI hy (B + 133) i 0 := ⟨_, rfl⟩
    have x1 : ∀ o : Nat → Nat × Nat, mY B o [100] hy y1 := fun o => by rw [e1]; exact (mX.rf S.1).IF (m := 100) (by omega) rfl (by decide)
    have S1 : mS B y1 := by rw [e1]; exact S
    obtain ⟨hy', q1, q2, q3, q4⟩ := ih (i + 1) f y1 S1 (by rw [e1, i_I_ne (by omega)]; exact h43) n9 (by omega) (by omega)
    refine ⟨hy', fun K => ?_, fun o => (x1 o).tr (q2 o), fun k hk => ?_, fun k h1 h2 => ?_⟩
    · rw [← q1 K]
      show fX12_die_L25_b _ _ _ _ _ _ _ = _
      unfold fX12_die_L25_b
      simp only [hcl]
      rw [q_ck (sk66 S), h43, if_neg (nI_ge (by omega) (by omega)), sr66_98 S, p_rf, q_ck (sk133 S), sn133 S, hq, show (0 : Int32) &&& 1 = 0 by decide, ← e1, p_lt, p_lt, nI_1]
    · rw [q3 k (by omega), e1, i_I, if_neg (fun z => by omega)]
    · by_cases c : k = i
      · subst c; rw [q3 k (by omega), e1, i_I_eq]
      · exact q4 k (by omega) h2
end GC
