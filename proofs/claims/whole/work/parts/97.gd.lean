/-! a man dies: what is left goes to the heir -/
section GD
variable {B : Nat} {h hx hy hx' hy' : mm_H} {ow ow' : Nat → Nat × Nat} {n nl nm : Nat} {am al : Nat → Nat} {P C : Nat → Nat} {A U : Nat → Nat → Nat} {T : Nat → Int32} {x : Nat} {D : Nat → Int32}
theorem RBg.cr (R : RBg B ow hx hy nm n A U T) (hB : B + 147 ≤ mm_sz hx) {k : Nat} {v : Int32} (hk : k < n) (hv : v = -1 ∨ ∃ c, c < nm ∧ v = nI c ∧ T c = T (U 0 k)) : RBg B ow (mm_setI hx (A 0 k) 8 v) (mm_setI (mm_setI hy (B + 104) k v) (B + 105) k (T (U 0 k))) nm n A U T := by
  have LV := fun {j : Nat} (hj : j < n) => R.lv hj
  obtain ⟨R1, R2, R3, R4, R5⟩ := R
  obtain ⟨Lk, -, -, -⟩ := LV hk
  have x0 : mX B (fun a i => a = A 0 k ∧ i = 8) hx (mm_setI hx (A 0 k) 8 v) := (mX.rf hB).I (Or.inl ⟨rfl, rfl⟩)
  refine ⟨R1, R2.up (by omega) x0 mO.rf ?_ ?_, ?_, fun j hj => ⟨?_, ?_⟩, ?_⟩
  · have := Lk.1
    exact ⟨fun z => by omega, fun z => by omega⟩
  · intro a i q z
    exact q.ne Lk (Or.inl (by decide)) z.1
  · rw [i_I_ne (by omega), i_I_ne (by omega)]; exact R3
  · obtain ⟨Lj, L5, L6, L7⟩ := LV hj
    have M := (R4 j hj).1
    have e1 : ∀ i, mm_i (mm_setI hx (A 0 k) 8 v) (A 1 j) i = mm_i hx (A 1 j) i := fun i => i_I_ne (L5.ne Lk (Or.inl (by decide)))
    have e2 : ∀ i, mm_i (mm_setI hx (A 0 k) 8 v) (A 2 j) i = mm_i hx (A 2 j) i := fun i => i_I_ne (L6.ne Lk (Or.inl (by decide)))
    have e3 : ∀ i, mm_i (mm_setI hx (A 0 k) 8 v) (A 3 j) i = mm_i hx (A 3 j) i := fun i => i_I_ne (L7.ne Lk (Or.inl (by decide)))
    by_cases e : j = k
    · subst e
      obtain ⟨a1, b1, c1, d1, ⟨g1, g2, g3, g4, g5, g6⟩, i1, ⟨j1, j2⟩, k1, l1, m1⟩ := M
      have f : ∀ q i, q ≠ 104 → q ≠ 105 → mm_i (mm_setI (mm_setI hy (B + 104) j v) (B + 105) j (T (U 0 j))) (B + q) i = mm_i hy (B + q) i := fun q i h1 h2 => by rw [i_I_ne (by omega), i_I_ne (by omega)]
      have e0 : ∀ i, i ≠ 8 → mm_i (mm_setI hx (A 0 j) 8 v) (A 0 j) i = mm_i hx (A 0 j) i := fun i hi => by rw [i_I, if_neg (fun z => hi z.2)]
      have f4 : mm_i (mm_setI (mm_setI hy (B + 104) j v) (B + 105) j (T (U 0 j))) (B + 104) j = v := by rw [i_I_ne (by omega), i_I_eq]
      have f5 : mm_i (mm_setI (mm_setI hy (B + 104) j v) (B + 105) j (T (U 0 j))) (B + 105) j = T (U 0 j) := i_I_eq
      have e8 : mm_i (mm_setI hx (A 0 j) 8 v) (A 0 j) 8 = v := i_I_eq
      unfold mBar mSur
      simp only [e1, e2, e3, e0 0 (by omega), e0 1 (by omega), e0 2 (by omega), e0 3 (by omega), e0 4 (by omega), e0 5 (by omega), e0 6 (by omega), e0 7 (by omega), e0 9 (by omega), f 96 _ (by omega) (by omega), f 97 _ (by omega) (by omega), f 98 _ (by omega) (by omega), f 99 _ (by omega) (by omega), f 100 _ (by omega) (by omega), f 101 _ (by omega) (by omega), f 102 _ (by omega) (by omega), f 103 _ (by omega) (by omega), f 106 _ (by omega) (by omega), f 107 _ (by omega) (by omega), f 108 _ (by omega) (by omega), f 109 _ (by omega) (by omega), f 110 _ (by omega) (by omega), f4, f5, e8]
      exact ⟨a1, b1, c1, d1, ⟨g1, g2, g3, g4, g5, trivial⟩, i1, ⟨hv, trivial⟩, k1, l1, m1⟩
    · refine M.cg (fun i => rfl) (fun i => i_I_ne (Lj.ne Lk (Or.inr e))) e1 e2 e3 (fun q h1 h2 => ?_) (fun q i h1 h2 h3 => by rw [i_I_ne (by omega), i_I_ne (by omega)])
      rw [i_I, if_neg (fun z => e z.2), i_I, if_neg (fun z => e z.2)]
  · exact (R4 j hj).2
  · intro c hc
    rw [i_I_ne (by omega), i_I_ne (by omega)]; exact R5 c hc
theorem RBg.cm (R : RBg B ow hx hy nm n A U T) (hB : B + 147 ≤ mm_sz hx) {k i : Nat} {v : Int32} (hk : k < n) (hi : i < U 3 k) (hv : v = -1 ∨ ∃ c, c < nm ∧ v = nI c ∧ T c = T (U (4 + i) k)) : RBg B ow (mm_setI hx (A 3 k) i v) (mm_setI (mm_setI hy (B + 109) (3 * k + i) v) (B + 110) (3 * k + i) (T (U (4 + i) k))) nm n A U T := by
  have LV := fun {j : Nat} (hj : j < n) => R.lv hj
  obtain ⟨R1, R2, R3, R4, R5⟩ := R
  obtain ⟨-, -, -, Lk⟩ := LV hk
  have x0 : mX B (fun a j => a = A 3 k ∧ j = i) hx (mm_setI hx (A 3 k) i v) := (mX.rf hB).I (Or.inl ⟨rfl, rfl⟩)
  have hi3 : i < 3 := by have := (R4 k hk).1.2.2.2.1.2.2; omega
  refine ⟨R1, R2.up (by omega) x0 mO.rf ?_ ?_, ?_, fun j hj => ⟨?_, ?_⟩, ?_⟩
  · have := Lk.1
    exact ⟨fun z => by omega, fun z => by omega⟩
  · intro a i q z
    exact q.ne Lk (Or.inl (by decide)) z.1
  · rw [i_I_ne (by omega), i_I_ne (by omega)]; exact R3
  · obtain ⟨Lj, L5, L6, L7⟩ := LV hj
    have M := (R4 j hj).1
    have e0 : ∀ b, mm_i (mm_setI hx (A 3 k) i v) (A 0 j) b = mm_i hx (A 0 j) b := fun b => i_I_ne (Lj.ne Lk (Or.inl (by decide)))
    have e1 : ∀ b, mm_i (mm_setI hx (A 3 k) i v) (A 1 j) b = mm_i hx (A 1 j) b := fun b => i_I_ne (L5.ne Lk (Or.inl (by decide)))
    have e2 : ∀ b, mm_i (mm_setI hx (A 3 k) i v) (A 2 j) b = mm_i hx (A 2 j) b := fun b => i_I_ne (L6.ne Lk (Or.inl (by decide)))
    by_cases e : j = k
    · subst e
      obtain ⟨a1, b1, c1, d1, g1, i1, j1, k1, l1, m1⟩ := M
      have f : ∀ q b, q ≠ 109 → q ≠ 110 → mm_i (mm_setI (mm_setI hy (B + 109) (3 * j + i) v) (B + 110) (3 * j + i) (T (U (4 + i) j))) (B + q) b = mm_i hy (B + q) b := fun q b h1 h2 => by rw [i_I_ne (by omega), i_I_ne (by omega)]
      unfold mBar
      simp only [e0, e2, f 96 _ (by omega) (by omega), f 97 _ (by omega) (by omega), f 98 _ (by omega) (by omega), f 99 _ (by omega) (by omega), f 100 _ (by omega) (by omega), f 101 _ (by omega) (by omega), f 102 _ (by omega) (by omega), f 103 _ (by omega) (by omega), f 104 _ (by omega) (by omega), f 105 _ (by omega) (by omega), f 106 _ (by omega) (by omega)]
      refine ⟨a1, b1, c1, d1, g1, i1, j1, fun p hp => ?_, l1, m1⟩
      obtain ⟨z1, z4, z5, z6, z7⟩ := k1 p hp
      unfold mSur
      rw [e1, e2, f 107 _ (by omega) (by omega), f 108 _ (by omega) (by omega)]
      by_cases ep : p = i
      · subst ep
        rw [i_I_eq, i_I_ne (by omega), i_I_eq, i_I_eq]
        exact ⟨z1, z4, rfl, hv, rfl⟩
      · have ne : ¬ 3 * j + p = 3 * j + i := by omega
        rw [i_I_ne (show B + 109 ≠ B + 110 by omega), i_I, if_neg (fun z => ne z.2), i_I, if_neg (fun z => ep z.2), i_I, if_neg (fun z => ne z.2), i_I_ne (show B + 110 ≠ B + 109 by omega)]
        exact ⟨z1, z4, z5, z6, z7⟩
    · refine M.cg (fun i => rfl) e0 e1 e2 (fun b => i_I_ne (L7.ne Lk (Or.inr e))) (fun q h1 h2 => by rw [i_I_ne (by omega), i_I_ne (by omega)]) (fun q b h1 h2 h3 => ?_)
      rw [i_I, if_neg (fun z => by omega), i_I, if_neg (fun z => by omega)]
  · exact (R4 j hj).2
  · intro c hc
    rw [i_I_ne (by omega), i_I_ne (by omega)]; exact R5 c hc
theorem J_passIn {k m : Nat} {v : Int32} (hk : k < n) (hm : m < nm) (hm9 : nm ≤ 40) (hv : v = -1 ∨ ∃ c, c < nm ∧ v = nI c ∧ T c = T m) : ∀ (e i : Nat) (hx hy : mm_H) (fuel fuel' : Nat), i + e = U 3 k → e < fuel → e < fuel' → mS B hx → mS B hy → RBg B ow hx hy nm n A U T → ∃ hx' hy', (∀ K, fX0_passTo_L15 (A 0 k) (nI m) v K fuel (nI i) hx = K hx') ∧ (∀ K, fX12_die_L331 (B + 66) (nI m) v (nI k) K fuel' (nI i) hy = K hy') ∧ mY B ow [28] hx hx' ∧ (∀ o : Nat → Nat × Nat, mY B o [128] hy hy') ∧ RBg B ow hx' hy' nm n A U T := by
  intro e
  induction e with
  | zero =>
    intro i hx hy fuel fuel' hi hf hf' S S' R
    obtain ⟨f, rfl⟩ : ∃ f, fuel = f + 1 := ⟨fuel - 1, by omega⟩
    obtain ⟨f', rfl⟩ : ∃ f, fuel' = f + 1 := ⟨fuel' - 1, by omega⟩
    have n9 := R.1
    have kdA := (R.2.1.2.2.2 k hk).2
    obtain ⟨d1, d2, d3⟩ := (R.2.2.2.1 k hk).1.2.2.2.1
    have e1 : nI (U 3 k) ≤ nI i := nI_le (by omega) (by omega)
    have hq := fun (β : Type) (z : Option β) => q_ckx (show k < 300 by omega) (by decide) z
    have hcl := nI_clamp (n := k) (by omega)
    refine ⟨hx, hy, fun K => ?_, fun K => ?_, mX.rf S.1, fun o => mX.rf S'.1, R⟩
    · show fX0_passTo_L15_b _ _ _ _ _ _ _ = _
      unfold fX0_passTo_L15_b
      rw [q_ck kdA, d1, if_pos e1]
    · show fX12_die_L331_b _ _ _ _ _ _ _ _ = _
      unfold fX12_die_L331_b
      simp only [hcl]
      rw [q_ck (sk66 S'), sr66_54 S', p_rf, q_ck (sk106 S'), sn106 S', hq, d2, if_pos e1]
  | succ e ih =>
    intro i hx hy fuel fuel' hi hf hf' S S' R
    obtain ⟨f, rfl⟩ : ∃ f, fuel = f + 1 := ⟨fuel - 1, by omega⟩
    obtain ⟨f', rfl⟩ : ∃ f, fuel' = f + 1 := ⟨fuel' - 1, by omega⟩
    have n9 := R.1
    have kdA := (R.2.1.2.2.2 k hk).2
    obtain ⟨Mk, ⟨r1, r2, r3⟩, -, ⟨r4, r5, r6⟩, r7, r8, r9⟩ := R.2.2.2.1 k hk
    obtain ⟨-, -, -, L7⟩ := R.lv hk
    obtain ⟨d1, d2, d3⟩ := Mk.2.2.2.1
    obtain ⟨-, -, s6, s7, s8⟩ := Mk.2.2.2.2.2.2.2.1 i (by omega)
    have e1 : ¬ nI (U 3 k) ≤ nI i := nI_ge (by omega) (by omega)
    have hq := fun (β : Type) (z : Option β) => q_ckx (show k < 300 by omega) (by decide) z
    have hcl := nI_clamp (n := k) (by omega)
    have hi3 : i < 3 := by omega
    have hq3 := fun (β : Type) (z : Option β) => q_ckx hi3 (by decide) z
    have hcl3 := nI_clamp (n := i) (by omega)
    have hq9 := fun (β : Type) (z : Option β) => q_ckx (show 3 * k + i < 900 by omega) (by decide) z
    have hcl9 := nI_clamp (n := 3 * k + i) (by omega)
    by_cases c : mm_i hx (A 3 k) i = nI m
    case neg =>
      obtain ⟨hx', hy', q1, q2, q3, q4, q5⟩ := ih (i + 1) hx hy f f' (by omega) (by omega) (by omega) S S' R
      refine ⟨hx', hy', fun K => ?_, fun K => ?_, q3, q4, q5⟩
      · rw [← q1 K]
        show fX0_passTo_L15_b _ _ _ _ _ _ _ = _
        unfold fX0_passTo_L15_b
        simp only [hcl3]
        rw [q_ck kdA, d1, if_neg e1, r3, p_rf, q_ck r6, r9, hq3]
        refine (jn_eq hx (fun q => if_pos c)).trans ?_
        rw [p_lt, nI_1]
      · rw [← q2 K]
        show fX12_die_L331_b _ _ _ _ _ _ _ _ = _
        unfold fX12_die_L331_b
        simp only [hcl, q_3, hcl9]
        rw [q_ck (sk66 S'), sr66_54 S', p_rf, q_ck (sk106 S'), sn106 S', hq, d2, if_neg e1, sr66_57 S', p_rf, q_ck (sk109 S'), sn109 S', hq9]
        refine (jn_eq hy (fun q => if_pos (by rw [s6]; exact c))).trans ?_
        rw [p_lt, nI_1]
    obtain ⟨h1, e1x⟩ : ∃ g, g = mm_setI hx (A 3 k) i v := ⟨_, rfl⟩
    obtain ⟨y1, e1y⟩ : ∃ g, g = mm_setI hy (B + 109) (3 * k + i) v := ⟨_, rfl⟩
    obtain ⟨y2, e2y⟩ : ∃ g, g = mm_setI y1 (B + 110) (3 * k + i) (T (U (4 + i) k)) := ⟨_, rfl⟩
    have tm : T m = T (U (4 + i) k) := by
      rcases s7 with s7 | ⟨c', v1, v2, v3⟩
      · rw [s7] at c; exact absurd c.symm (nI_neg1 (by omega))
      · have : c' = m := (nI_eq (by omega) (by omega)).mp (v2.symm.trans c)
        rw [← this]; exact v3
    have R1 : RBg B ow h1 y2 nm n A U T := by
      rw [e1x, e2y, e1y]
      refine R.cm S.1 hk (by omega) ?_
      rw [← tm]; exact hv
    have x1 : mY B ow [28] hx h1 := by rw [e1x]; exact (mX.rf S.1).IL (m := 28) L7 rfl (by decide)
    have z2 : ∀ o : Nat → Nat × Nat, mY B o [128] hy y2 := fun o => by rw [e2y, e1y]; exact ((mX.rf S'.1).IF (m := 128) (by omega) rfl (by decide)).IF (m := 128) (by omega) rfl (by decide)
    have Sy1 : mS B y1 := by rw [e1y]; exact S'
    obtain ⟨hx', hy', q1, q2, q3, q4, q5⟩ := ih (i + 1) h1 y2 f f' (by omega) (by omega) (by omega) (x1.S S) ((z2 ow).S S') R1
    have hqm := fun (β : Type) (z : Option β) => q_ckx (show m < 40 by omega) (by decide) z
    have tw : mm_i y1 (B + 67) m = T (U (4 + i) k) := by rw [e1y, i_I_ne (by omega), ← tm]; exact (R.2.2.2.2 m hm).1
    refine ⟨hx', hy', fun K => ?_, fun K => ?_, x1.tr q3, fun o => (z2 o).tr (q4 o), q5⟩
    · rw [← q1 K]
      show fX0_passTo_L15_b _ _ _ _ _ _ _ = _
      unfold fX0_passTo_L15_b
      simp only [hcl3]
      rw [q_ck kdA, d1, if_neg e1, r3, p_rf, q_ck r6, r9, hq3]
      refine (jn_eq h1 (fun q => ?_)).trans ?_
      · rw [if_neg (not_not_intro c), hq3, ← e1x, p_lt]
      · rw [p_lt, nI_1]
    · rw [← q2 K]
      show fX12_die_L331_b _ _ _ _ _ _ _ _ = _
      unfold fX12_die_L331_b
      simp only [hcl, q_3, hcl9]
      rw [q_ck (sk66 S'), sr66_54 S', p_rf, q_ck (sk106 S'), sn106 S', hq, d2, if_neg e1, sr66_57 S', p_rf, q_ck (sk109 S'), sn109 S', hq9]
      refine (jn_eq y2 (fun q => ?_)).trans ?_
      · rw [if_neg (not_not_intro (by rw [s6]; exact c)), hq9, ← e1y, p_lt, sr66_3 Sy1, p_rf, q_ck (sk67 Sy1), sn67 Sy1, hqm, sr66_58 Sy1, p_rf, q_ck (sk110 Sy1), sn110 Sy1, hq9, nI_clamp (show m < 2 ^ 31 by omega), tw, ← e2y, p_lt]
      · rw [p_lt, nI_1]
theorem J_dues {m : Nat} {v : Int32} (hm : m < nm) (hm9 : nm ≤ 40) (hv : v = -1 ∨ ∃ c, c < nm ∧ v = nI c ∧ T c = T m) : ∀ (e i : Nat) (hx hy : mm_H) (fuel fuel' : Nat), i + e = n → e < fuel → e < fuel' → mS B hx → mS B hy → RBg B ow hx hy nm n A U T → ∃ hx' hy', (∀ K, fX11_leaveDues_L2 B (nI m) v K fuel (nI i) hx = K hx') ∧ (∀ K, fX12_die_L287 (B + 66) (nI m) v K fuel' (nI i) hy = K hy') ∧ mY B ow [28] hx hx' ∧ (∀ o : Nat → Nat × Nat, mY B o [128] hy hy') ∧ RBg B ow hx' hy' nm n A U T := by
  intro e
  induction e with
  | zero =>
    intro i hx hy fuel fuel' hi hf hf' S S' R
    obtain ⟨f, rfl⟩ : ∃ f, fuel = f + 1 := ⟨fuel - 1, by omega⟩
    obtain ⟨f', rfl⟩ : ∃ f, fuel' = f + 1 := ⟨fuel' - 1, by omega⟩
    have n9 := R.1
    have hsz := x_size (sk3 S) R.2.1
    have h43 := R.2.2.1
    have e1 : nI n ≤ nI i := nI_le (by omega) (by omega)
    refine ⟨hx, hy, fun K => ?_, fun K => ?_, mX.rf S.1, fun o => mX.rf S'.1, R⟩
    · show fX11_leaveDues_L2_b _ _ _ _ _ _ _ = _
      unfold fX11_leaveDues_L2_b
      rw [q_ck (sk0 S), sr0_2 S, p_rf, q_ck (sk3 S), hsz, p_cl, if_pos e1]
    · show fX12_die_L287_b _ _ _ _ _ _ _ = _
      unfold fX12_die_L287_b
      rw [q_ck (sk66 S'), h43, if_pos e1]
  | succ e ih =>
    intro i hx hy fuel fuel' hi hf hf' S S' R
    obtain ⟨f, rfl⟩ : ∃ f, fuel = f + 1 := ⟨fuel - 1, by omega⟩
    obtain ⟨f', rfl⟩ : ∃ f, fuel' = f + 1 := ⟨fuel' - 1, by omega⟩
    have n9 := R.1
    have hi2 : i < n := by omega
    have hsz := x_size (sk3 S) R.2.1
    have hg := x_bar S R hi2
    have kdA := (R.2.1.2.2.2 i hi2).2
    have LA := (R.lv hi2).1
    have h43 := R.2.2.1
    have Mk := (R.2.2.2.1 i hi2).1
    have d3 := Mk.2.2.2.1.2.2
    have g6 := Mk.2.2.2.2.1.2.2.2.2.2
    have j1 := Mk.2.2.2.2.2.2.1.1
    have e1 : ¬ nI n ≤ nI i := nI_ge (by omega) (by omega)
    have hq := fun (β : Type) (z : Option β) => q_ckx (show i < 300 by omega) (by decide) z
    have hcl := nI_clamp (n := i) (by omega)
    -- the bargain's own creditor
    obtain ⟨h1, y1, w1, w2, w3, w4, w5⟩ : ∃ h1 y1, (∀ q : mm_H → Option (Unit × mm_H), (if ¬ mm_i hx (A 0 i) 8 = nI m then q hx else mm_lt (mm_setI hx (A 0 i) 8 v) fun g => q g) = q h1) ∧ (∀ q : mm_H → Option (Int32 × mm_H), (if ¬ mm_i hy (B + 104) i = nI m then q hy else (mm_ck (mm_ix (nI i) 300) <| mm_lt (mm_setI hy (B + 104) i v) fun g137 => mm_rf (mm_r g137 (B + 66) 3) fun u138 => mm_ck (mm_kd g137 u138 = 14) <| mm_ck (mm_ix (nI m) (mm_n g137 u138)) <| mm_rf (mm_r g137 (B + 66) 53) fun u141 => mm_ck (mm_kd g137 u141 = 14) <| mm_ck (mm_ix (nI i) (mm_n g137 u141)) <| mm_lt (mm_setI g137 u141 i ((mm_i g137 u138 (nI m).toNatClampNeg))) fun g144 => q g144)) = q y1) ∧ mY B ow [28] hx h1 ∧ (∀ o : Nat → Nat × Nat, mY B o [128] hy y1) ∧ RBg B ow h1 y1 nm n A U T := by
      by_cases c : mm_i hx (A 0 i) 8 = nI m
      case neg => exact ⟨hx, hy, fun q => if_pos c, fun q => if_pos (by rw [g6]; exact c), mX.rf S.1, fun _ => mX.rf S'.1, R⟩
      have tm : T m = T (U 0 i) := by
        rcases j1 with s7 | ⟨c', v1, v2, v3⟩
        · rw [s7] at c; exact absurd c.symm (nI_neg1 (by omega))
        · have : c' = m := (nI_eq (by omega) (by omega)).mp (v2.symm.trans c)
          rw [← this]; exact v3
      obtain ⟨y1, e1y⟩ : ∃ g, g = mm_setI hy (B + 104) i v := ⟨_, rfl⟩
      have Sy1 : mS B y1 := by rw [e1y]; exact S'
      have hqm := fun (β : Type) (z : Option β) => q_ckx (show m < 40 by omega) (by decide) z
      have tw : mm_i y1 (B + 67) m = T (U 0 i) := by rw [e1y, i_I_ne (by omega), ← tm]; exact (R.2.2.2.2 m hm).1
      refine ⟨mm_setI hx (A 0 i) 8 v, mm_setI y1 (B + 105) i (T (U 0 i)), fun q => by rw [if_neg (not_not_intro c), p_lt], fun q => ?_, (mX.rf S.1).IL (m := 28) LA rfl (by decide), fun o => ?_, ?_⟩
      · rw [if_neg (not_not_intro (by rw [g6]; exact c)), hq, ← e1y, p_lt, sr66_3 Sy1, p_rf, q_ck (sk67 Sy1), sn67 Sy1, hqm, sr66_53 Sy1, p_rf, q_ck (sk105 Sy1), sn105 Sy1, hq, nI_clamp (show m < 2 ^ 31 by omega), tw, p_lt]
      · rw [e1y]; exact ((mX.rf S'.1).IF (m := 128) (by omega) rfl (by decide)).IF (m := 128) (by omega) rfl (by decide)
      · rw [e1y]
        refine R.cr S.1 hi2 ?_
        rw [← tm]; exact hv
    have S1 := w3.S S
    have Sy1 := (w4 ow).S S'
    obtain ⟨h2, y2, p1, p2, p3, p4, p5⟩ := J_passIn (ow := ow) hi2 hm hm9 hv (U 3 i) 0 h1 y1 mm_F mm_F (by omega) (by unfold mm_F; omega) (by unfold mm_F; omega) S1 Sy1 w5
    obtain ⟨hx', hy', q1, q2, q3, q4, q5⟩ := ih (i + 1) h2 y2 f f' (by omega) (by omega) (by omega) (p3.S S1) ((p4 ow).S Sy1) p5
    simp only [nI_0] at p1 p2
    refine ⟨hx', hy', fun K => ?_, fun K => ?_, (w3.tr p3).tr q3, fun o => ((w4 o).tr (p4 o)).tr (q4 o), q5⟩
    · have hpass : fX0_passTo (A 0 i) (nI m) v hx = some ((), h2) := by
        unfold fX0_passTo
        rw [q_ck kdA]
        exact (jn_eq h1 w1).trans (p1 _)
      rw [← q1 K]
      show fX11_leaveDues_L2_b _ _ _ _ _ _ _ = _
      unfold fX11_leaveDues_L2_b
      rw [q_ck (sk0 S), sr0_2 S, p_rf, q_ck (sk3 S), hsz, p_cl, if_neg e1, q_ck (sk0 S), sr0_2 S, p_rf, q_ck (sk3 S), hg, p_cl, p_rf, q_ck kdA, hpass, p_cl, p_lt, nI_1]
    · rw [← q2 K]
      show fX12_die_L287_b _ _ _ _ _ _ _ = _
      unfold fX12_die_L287_b
      simp only [hcl]
      rw [q_ck (sk66 S'), h43, if_neg e1, sr66_52 S', p_rf, q_ck (sk104 S'), sn104 S', hq]
      refine (jn_eq y1 w2).trans ?_
      rw [p2, p_lt, nI_1]
theorem RLt.own (R : RLt B ow hx hy nm n al) (hB : B + 147 ≤ mm_sz hx) {l : Nat} {v : Int32} (hl : l < n) (hv : 0 ≤ v ∧ v < nI nm) : RLt B ow (mm_setI hx (al l) 4 v) (mm_setI hy (B + 76) l v) nm n al := by
  obtain ⟨R1, R2, R3, R4⟩ := R
  have Ll := (R2.2.2.2 l hl).1
  have x0 : mY B ow [26] hx (mm_setI hx (al l) 4 v) := (mX.rf hB).IL (m := 26) Ll rfl (by decide)
  refine ⟨R1, R2.up2 rfl (by omega) x0 mO.rf (m := 6) rfl rfl (fun _ => rfl) (by decide), by rw [i_I_ne (by omega)]; exact R3, fun k hk => ?_⟩
  obtain ⟨m1, m2, m3, m4, m5⟩ := R4 k hk
  have Lk := (R2.2.2.2 k hk).1
  unfold mLot
  rw [i_I_ne (a := B + 76) (b := B + 74) (by omega), i_I_ne (a := B + 76) (b := B + 77) (by omega), i_I_ne (a := B + 76) (b := B + 78) (by omega), i_I_ne (a := B + 76) (b := B + 75) (by omega)]
  have e : ∀ j, j ≠ 4 → mm_i (mm_setI hx (al l) 4 v) (al k) j = mm_i hx (al k) j := fun j hj => by rw [i_I, if_neg (fun z => hj z.2)]
  rw [e 0 (by omega), e 1 (by omega), e 2 (by omega), e 3 (by omega)]
  refine ⟨m1, m2, m3, m4, ?_⟩
  by_cases c : k = l
  · subst c
    rw [i_I_eq, i_I_eq]; exact ⟨rfl, hv⟩
  · rw [i_I_ne (Lk.ne Ll (Or.inr c)), i_I, if_neg (fun z => c z.2)]; exact m5
theorem J_lots {m : Nat} {v : Int32} (hm : m < nm) (hm9 : nm ≤ 40) (hv : v = -1 ∨ ∃ c, c < nm ∧ v = nI c) : ∀ (e i : Nat) (hx hy : mm_H) (fuel fuel' : Nat), i + e = n → e < fuel → e < fuel' → mS B hx → mS B hy → RLt B ow hx hy nm n al → ∃ hx' hy', (∀ K, fX11_leaveLots_L2 B (nI m) v K fuel (nI i) hx = K hx') ∧ (∀ K, fX12_die_L433 (B + 66) (nI m) v K fuel' (nI i) hy = K hy') ∧ mY B ow [26] hx hx' ∧ (∀ o : Nat → Nat × Nat, mY B o [126] hy hy') ∧ RLt B ow hx' hy' nm n al := by
  intro e
  induction e with
  | zero =>
    intro i hx hy fuel fuel' hi hf hf' S S' R
    obtain ⟨f, rfl⟩ : ∃ f, fuel = f + 1 := ⟨fuel - 1, by omega⟩
    obtain ⟨f', rfl⟩ : ∃ f, fuel' = f + 1 := ⟨fuel' - 1, by omega⟩
    have n9 := R.1
    have hsz := x_size (sk2 S) R.2.1
    have h10 := R.2.2.1
    have e1 : nI n ≤ nI i := nI_le (by omega) (by omega)
    refine ⟨hx, hy, fun K => ?_, fun K => ?_, mX.rf S.1, fun o => mX.rf S'.1, R⟩
    · show fX11_leaveLots_L2_b _ _ _ _ _ _ _ = _
      unfold fX11_leaveLots_L2_b
      rw [q_ck (sk0 S), sr0_1 S, p_rf, q_ck (sk2 S), hsz, p_cl, if_pos e1]
    · show fX12_die_L433_b _ _ _ _ _ _ _ = _
      unfold fX12_die_L433_b
      rw [q_ck (sk66 S'), h10, if_pos e1]
  | succ e ih =>
    intro i hx hy fuel fuel' hi hf hf' S S' R
    obtain ⟨f, rfl⟩ : ∃ f, fuel = f + 1 := ⟨fuel - 1, by omega⟩
    obtain ⟨f', rfl⟩ : ∃ f, fuel' = f + 1 := ⟨fuel' - 1, by omega⟩
    have n9 := R.1
    have hi2 : i < n := by omega
    have hsz := x_size (sk2 S) R.2.1
    have hg := x_get (sk2 S) R.2.1 hi2
    obtain ⟨Ll, kd⟩ := R.2.1.2.2.2 i hi2
    have h10 := R.2.2.1
    obtain ⟨m1, m2, m3, m4, m5⟩ := R.2.2.2 i hi2
    have e1 : ¬ nI n ≤ nI i := nI_ge (by omega) (by omega)
    have hq := fun (β : Type) (z : Option β) => q_ckx (show i < 200 by omega) (by decide) z
    have hcl := nI_clamp (n := i) (by omega)
    have hne : ∀ c, c < nm → ¬ nI c = -1 := fun c hc => nI_neg1 (by omega)
    obtain ⟨h1, y1, w1, w2, w3, w4, w5⟩ : ∃ h1 y1, (∀ q : mm_H → Option (Unit × mm_H), (mm_jn (fun (_u : Unit) => if ¬ (mm_i hx (al i) 4) = nI m then (q hx) else (mm_lt (mm_setI hx (al i) 4 v) fun g21 => q g21)) (fun (q19 : Unit → Option (Unit × mm_H)) => if ¬ (mm_i hx (al i) 4) = nI m then (q19 ()) else (if ¬ v = (-1 : Int32) then (q19 ()) else (mm_lt (mm_setI hx (al i) 3 (0 : Int32)) fun g24 => q g24)))) = q h1) ∧ (∀ q164 : mm_H → Option (Int32 × mm_H), (if ¬ (mm_i hy (B + 76) i) = nI m then (q164 hy) else (mm_jn (fun (v167 : Int32) => mm_ck (mm_ix (nI i) 200) <| mm_lt (mm_setI hy (B + 76) i v167) fun g170 => mm_jn (fun (v171 : Int32) => mm_rf (mm_r g170 (B + 66) 12) fun u173 => mm_ck (mm_kd g170 u173 = 14) <| mm_ck (mm_ix (nI i) (mm_n g170 u173)) <| mm_lt (mm_setI g170 u173 i v171) fun g176 => q164 g176) (fun (q172 : Int32 → Option (Int32 × mm_H)) => if ¬ v = (-1 : Int32) then (mm_rf (mm_r g170 (B + 66) 12) fun u178 => mm_ck (mm_kd g170 u178 = 14) <| mm_ck (mm_ix (nI i) (mm_n g170 u178)) <| q172 ((mm_i g170 u178 i))) else (q172 (0 : Int32)))) (fun (q168 : Int32 → Option (Int32 × mm_H)) => if ¬ v = (-1 : Int32) then (q168 v) else (q168 (nI m))))) = q164 y1) ∧ mY B ow [26] hx h1 ∧ (∀ o : Nat → Nat × Nat, mY B o [126] hy y1) ∧ RLt B ow h1 y1 nm n al := by
      by_cases c : mm_i hx (al i) 4 = nI m
      case neg =>
        refine ⟨hx, hy, fun q => ?_, fun q => if_pos (by rw [m5.1]; exact c), mX.rf S.1, fun _ => mX.rf S'.1, R⟩
        rw [p_jn, if_pos c, if_pos c]
      have cy : mm_i hy (B + 76) i = nI m := by rw [m5.1]; exact c
      rcases hv with rfl | ⟨d, hd, rfl⟩
      · refine ⟨mm_setI hx (al i) 3 0, mm_setI hy (B + 75) i 0, fun q => ?_, fun q => ?_, (mX.rf S.1).IL (m := 26) Ll rfl (by decide), fun o => (mX.rf S'.1).IF (m := 126) (by omega) rfl (by decide), R.amt S.1 hi2 (by decide)⟩
        · rw [p_jn, if_neg (not_not_intro c), if_neg (not_not_intro rfl), p_lt]
        · rw [if_neg (not_not_intro cy)]
          refine (jn_eq (nI m) (fun q' => if_neg (not_not_intro rfl))).trans ?_
          rw [hq, setI_same cy, p_lt]
          refine (jn_eq (0 : Int32) (fun q' => if_neg (not_not_intro rfl))).trans ?_
          rw [sr66_12 S', p_rf, q_ck (sk75 S'), sn75 S', hq, p_lt]
      · obtain ⟨y1, e1y⟩ : ∃ g, g = mm_setI hy (B + 76) i (nI d) := ⟨_, rfl⟩
        have Sy1 : mS B y1 := by rw [e1y]; exact S'
        refine ⟨mm_setI hx (al i) 4 (nI d), y1, fun q => ?_, fun q => ?_, (mX.rf S.1).IL (m := 26) Ll rfl (by decide), fun o => by rw [e1y]; exact (mX.rf S'.1).IF (m := 126) (by omega) rfl (by decide), by rw [e1y]; exact R.own S.1 hi2 ⟨nI_pos' (by omega), nI_lt hd (by omega)⟩⟩
        · rw [p_jn, if_neg (not_not_intro c), if_pos (hne d hd), if_neg (not_not_intro c), p_lt]
        · rw [if_neg (not_not_intro cy)]
          refine (jn_eq (nI d) (fun q' => if_pos (hne d hd))).trans ?_
          rw [hq, ← e1y, p_lt]
          refine (jn_eq (mm_i y1 (B + 75) i) (fun q' => ?_)).trans ?_
          · rw [if_pos (hne d hd), sr66_12 Sy1, p_rf, q_ck (sk75 Sy1), sn75 Sy1, hq]
          · rw [sr66_12 Sy1, p_rf, q_ck (sk75 Sy1), sn75 Sy1, hq, setI_same rfl, p_lt]
    obtain ⟨hx', hy', q1, q2, q3, q4, q5⟩ := ih (i + 1) h1 y1 f f' (by omega) (by omega) (by omega) (w3.S S) ((w4 ow).S S') w5
    refine ⟨hx', hy', fun K => ?_, fun K => ?_, w3.tr q3, fun o => (w4 o).tr (q4 o), q5⟩
    · rw [← q1 K]
      show fX11_leaveLots_L2_b _ _ _ _ _ _ _ = _
      unfold fX11_leaveLots_L2_b
      rw [q_ck (sk0 S), sr0_1 S, p_rf, q_ck (sk2 S), hsz, p_cl, if_neg e1, q_ck (sk0 S), sr0_1 S, p_rf, q_ck (sk2 S), hg, p_cl, p_rf, q_ck kd]
      refine (jn_eq h1 w1).trans ?_
      rw [p_lt, nI_1]
    · rw [← q2 K]
      show fX12_die_L433_b _ _ _ _ _ _ _ = _
      unfold fX12_die_L433_b
      simp only [hcl]
      rw [q_ck (sk66 S'), h10, if_neg e1, sr66_13 S', p_rf, q_ck (sk76 S'), sn76 S', hq]
      refine (jn_eq y1 w2).trans ?_
      rw [p_lt, nI_1]
end GD
