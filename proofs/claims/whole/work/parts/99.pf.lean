/-! the plan: the whole of the class -/
def wF (B : Nat) : Nat → Nat → Prop := fun x i => x = B + 41 ∨ x = B + 44 ∨ x = B + 45 ∨ x = B + 46 ∨ (x = B + 37 ∧ (i = 11 ∨ i = 12 ∨ i = 13))
/-- what a plan speaks of: lots, ships, amounts, rooms, worths -/
def plT (h : mm_H) (al : Nat → Nat) (nl m : Nat) : List Nat := tk (lotP h al m) nl 0 5
def plQ (h : mm_H) (B np ns : Nat) : List Nat := sqL (opn h B np (mm_i h B 11)) (fun k => mm_i h (B + 25) k) ns 4 none
def plA (h : mm_H) (al : Nat → Nat) (T : List Nat) (i : Nat) : Nat := if i < T.length then (mm_i h (al (T.getD i 0)) 3).toNatClampNeg else 0
def plR (h : mm_H) (B : Nat) (Q : List Nat) (j : Nat) : Nat := if j < Q.length then (mm_i h (B + 27) (Q.getD j 0)).toNatClampNeg else 0
def plW (h : mm_H) (B nn : Nat) (al : Nat → Nat) (T Q : List Nat) (c i w : Nat) : Nat := (prF h B nn c (if w = Q.length then 8 else mm_i h (B + 24) (Q.getD w 0)) (mm_i h (al (T.getD i 0)) 0) (mm_i h B 11)).toNatClampNeg
def plV (h : mm_H) (B nn : Nat) (al : Nat → Nat) (T Q : List Nat) (c i w : Nat) : Nat := plA h al T i * plW h B nn al T Q c i w
def plS (h : mm_H) (B nn : Nat) (al : Nat → Nat) (T Q : List Nat) : Option (Nat × Nat × Nat) := fr (pS (plA h al T) (plR h B Q) (plV h B nn al T Q 123) (plV h B nn al T Q 124) Q.length T.length) ((Q.length + 1) ^ T.length) 0 none
section PF
variable {B : Nat} {h g g' hx hy : mm_H} {ow ow' : Nat → Nat × Nat} {nl nm ns np nn n q m : Nat} {am rm al : Nat → Nat} {lo hi pl ph : Nat → Nat → Nat}
theorem w18 {x k : Nat} (h : B + 37 ≤ x ∧ x ≤ B + 46) : wM B ow [18] x k := by
  obtain ⟨j, rfl⟩ : ∃ j, x = B + j := ⟨x - B, by omega⟩
  have : j = 37 ∨ j = 38 ∨ j = 39 ∨ j = 40 ∨ j = 41 ∨ j = 42 ∨ j = 43 ∨ j = 44 ∨ j = 45 ∨ j = 46 := by omega
  rcases this with rfl | rfl | rfl | rfl | rfl | rfl | rfl | rfl | rfl | rfl <;> exact wM_F (m := 18) (by omega) rfl (by decide)
theorem x_findBest (S : mS B g) (hlo : ∀ i w, lo i w ≤ 1000000000) (hhi : ∀ i w, hi i w ≤ 1000000000) (hrm : ∀ j, rm j ≤ 1000000) (a1 : mm_i g (B + 37) 2 = nI n) (hn : n ≤ 5) (a2 : mm_i g (B + 37) 5 = nI q) (hq4 : q ≤ 4) (a3 : ∀ i, i < n → mm_i g (B + 39) i = nI (am i) ∧ am i ≤ 100000) (a4 : ∀ i w, i < n → w ≤ q → mm_j g (B + 42) (i * 5 + pwI q w) = lN (lo i w) ∧ mm_j g (B + 43) (i * 5 + pwI q w) = lN (hi i w)) (a5 : ∀ j, j < q → mm_i g (B + 41) j = nI (rm j)) : ∃ g', fX9_findBest (B + 37) g = some ((), g') ∧ mX B (wF B) g g' ∧ mm_i g' (B + 37) 13 = 1 ∧ vP B g' n q am rm (fr (pS am rm lo hi q n) ((q + 1) ^ n) 0 none) 0 0 := by
  obtain ⟨g1, e1⟩ : ∃ g', g' = mm_setI g (B + 37) 13 1 := ⟨_, rfl⟩
  obtain ⟨g2, e2⟩ : ∃ g', g' = mm_setJ g1 (B + 37) 11 (-1) := ⟨_, rfl⟩
  obtain ⟨g3, e3⟩ : ∃ g', g' = mm_setJ g2 (B + 37) 12 (-1) := ⟨_, rfl⟩
  obtain ⟨g4, e4⟩ : ∃ g', g' = mm_setJ g3 (B + 44) n 0 := ⟨_, rfl⟩
  have S1 : mS B g1 := by rw [e1]; exact S
  have S3 : mS B g3 := by rw [e3, e2]; exact S1
  have S4 : mS B g4 := by rw [e4]; exact S3
  have x4 : mX B (wF B) g g4 := by
    rw [e4, e3, e2, e1]
    exact ((((mX.rf (W := wF B) S.1).I (Or.inl (by unfold wF; omega))).J (Or.inl (by unfold wF; omega))).J (Or.inl (by unfold wF; omega))).J (Or.inl (by unfold wF; omega))
  have i4 : ∀ x k, ¬ (x = B + 37 ∧ k = 13) → mm_i g4 x k = mm_i g x k := fun x k hx => by
    rw [e4, e3, e2]
    show mm_i g1 x k = _
    rw [e1, i_I, if_neg hx]
  have j4 : ∀ x k, x ≠ B + 37 → x ≠ B + 44 → mm_j g4 x k = mm_j g x k := fun x k h1 h2 => by
    rw [e4, j_J, if_neg (fun z => h2 z.1), e3, j_J, if_neg (fun z => h1 z.1), e2, j_J, if_neg (fun z => h1 z.1), e1]; rfl
  have z0 : (0 : Int64) = lN 0 := by decide +kernel
  have mb : ∀ k, mxK lo q k ≤ 1000000000 := fun k => mxF_b (hlo k) (hlo k q)
  obtain ⟨g5, k1, k2, k3, k4⟩ := x_hopes hlo hn hq4 n mm_F g4 (Nat.le_refl _) (by unfold mm_F; omega) S4 (by rw [i4 _ _ (by omega)]; exact a2) (fun i w h1 h2 => by rw [j4 _ _ (by omega) (by omega)]; exact (a4 i w h1 h2).1) (fun i h1 h2 => by
    rw [show i = n by omega, Nat.sub_self, e4, j_J, if_pos ⟨rfl, rfl⟩]; exact z0)
  have x5 : mX B (wF B) g g5 := x4.tr (k2.up fun a k _ z => Or.inr (Or.inl z))
  have S5 := x5.S S
  have i5 : ∀ x k, ¬ (x = B + 37 ∧ k = 13) → mm_i g5 x k = mm_i g x k := fun x k hx => by rw [k3]; exact i4 x k hx
  have j5 : ∀ x k, x < B + 147 → x ≠ B + 44 → mm_j g5 x k = mm_j g4 x k := fun x k h1 h2 => k2.j (by have := k2.1.2.2; omega) h2
  obtain ⟨hp, hhp⟩ : ∃ hp : Nat → Nat, hp = fun i => hpN (mxK lo q) n (n - i) := ⟨_, rfl⟩
  have Q : cP B g5 n q am lo hi hp := by
    refine ⟨⟨(i5 _ _ (by omega)).trans a1, hn⟩, ⟨(i5 _ _ (by omega)).trans a2, hq4⟩, fun i hi => by rw [i5 _ _ (by omega)]; exact a3 i hi, fun i w hi hw => by rw [j5 _ _ (by omega) (by omega), j5 _ _ (by omega) (by omega), j4 _ _ (by omega) (by omega), j4 _ _ (by omega) (by omega)]; exact a4 i w hi hw, fun i hi => by rw [hhp]; exact k4 i hi, fun i => ?_, by rw [hhp]; show hpN _ _ (n - n) = 0; rw [Nat.sub_self]; rfl, fun i w hi hw => ?_⟩
    · rw [hhp]
      have := hpN_b (n := n) mb (n - i)
      show hpN (mxK lo q) n (n - i) ≤ _
      omega
    · rw [hhp]
      show lo i w + hpN (mxK lo q) n (n - (i + 1)) ≤ hpN (mxK lo q) n (n - i)
      rw [show n - i = (n - (i + 1)) + 1 by omega]
      simp only [hpN]
      rw [show n - ((n - (i + 1)) + 1) = i by omega]
      have mm := mxF_le (a := lo i) (e := q) (w := 0) (v := lo i q)
      have : lo i w ≤ mxK lo q i := by
        by_cases c : w = q
        · rw [c]; exact mm.1
        · exact mm.2 w (Nat.zero_le _) (by omega)
      omega
  have V : vP B g5 n q am rm none 0 0 := by
    refine ⟨⟨?_, ?_⟩, fun j hj => ⟨by rw [i5 _ _ (by omega)]; exact a5 j hj, Nat.zero_le _⟩, fun i hi => absurd hi (Nat.not_lt_zero _), fun a c t e => by cases e⟩
    · rw [j5 _ _ (by omega) (by omega), e4, j_J, if_neg (fun z => by omega), e3, j_J, if_neg (fun z => by omega), e2, j_J, if_pos ⟨rfl, rfl⟩]; rfl
    · rw [j5 _ _ (by omega) (by omega), e4, j_J, if_neg (fun z => by omega), e3, j_J, if_pos ⟨rfl, rfl⟩]; rfl
  obtain ⟨g6, p1, p2, p3⟩ := x_try hlo hhi hrm n 0 0 10 none g5 (by omega) (by omega) S5 Q V
  rw [Nat.zero_mul] at p3
  rw [nI_0, show pG lo (q + 1) 0 0 = 0 from rfl, show pG hi (q + 1) 0 0 = 0 from rfl, ← z0] at p1
  refine ⟨g6, ?_, x5.tr (p2.up fun a k _ z => by unfold wP at z; unfold wF; omega), ?_, p3⟩
  · have h2 : mm_i g3 (B + 37) 2 = nI n := by rw [← a1, e3, e2]; show mm_i g1 _ _ = _; rw [e1, i_I, if_neg (fun z => by omega)]
    have h24 : mm_i g4 (B + 37) 2 = nI n := by rw [e4]; exact h2
    have hqn := fun (β : Type) (z : Option β) => q_ckx (show n < 6 by omega) (by decide) z
    have p1' : fX9_tryWays (B + 37) (0 : Int32) (0 : Int64) (0 : Int64) g5 = some ((), g6) := p1
    unfold fX9_findBest
    rw [q_ck (sk37 S), p_lt, ← e1, p_lt, ← e2, p_lt, ← e3, sr37_8 S3, p_rf, q_ck (sk44 S3), h2, sn44 S3, hqn, nI_clamp (by omega), ← e4, p_lt, h24, p_lt, k1, q_ck (sk37 S5), p1', p_cl]
  · rw [p2.i (by have := p2.1.2.2; omega) (by unfold wP; omega), k3, e4, e3, e2]
    show mm_i g1 _ _ = _
    rw [e1, i_I_eq]
theorem prF_b (R : RNe B h) (hn : mm_i h (B + 66) 77 = nI nn) (hn2 : nn ≤ 200) {c : Nat} (hc : c = 123 ∨ c = 124) (t g d : Int32) : prF h B nn c t g d = nI (prF h B nn c t g d).toNatClampNeg ∧ (prF h B nn c t g d).toNatClampNeg ≤ 9999 := by
  have key : ∃ v, v < 10000 ∧ prF h B nn c t g d = nI v := by
    unfold prF
    cases hk : lastF (yNe h B t g d) nn with
    | none => exact ⟨0, by omega, nI_0.symm⟩
    | some k =>
      have hl := lastF_lt hk
      obtain ⟨n', r1, r2, r3, r4⟩ := R
      have e : nn = n' := (nI_eq (by omega) (by omega)).mp (hn.symm.trans r3)
      obtain ⟨⟨-, -, r5, r6, -⟩, r7, r8⟩ := r4 k (by omega)
      show ∃ v, v < 10000 ∧ mm_i h (B + c) k = nI v
      rcases hc with rfl | rfl
      · rw [r5]; exact q_rng (by omega) (Int32.not_lt.mpr r7.1) (Int32.not_le.mpr (Int32.lt_of_le_of_lt r7.2 (by decide +kernel)))
      · rw [r6]; exact q_rng (by omega) (Int32.not_lt.mpr r8.1) (Int32.not_le.mpr (Int32.lt_of_le_of_lt r8.2 (by decide +kernel)))
  obtain ⟨v, v1, v2⟩ := key
  rw [v2, nI_clamp (by omega)]; exact ⟨rfl, by omega⟩
theorem amt_b (R : RLt B ow hx hy nm nl al) {l : Nat} (hl : l < nl) : mm_i hx (al l) 3 = nI (mm_i hx (al l) 3).toNatClampNeg ∧ (mm_i hx (al l) 3).toNatClampNeg ≤ 100000 := by
  obtain ⟨-, -, -, ⟨-, r1, r2⟩, -⟩ := R.2.2.2 l hl
  obtain ⟨v, v1, v2⟩ := q_rng (n := 100001) (by omega) (Int32.not_lt.mpr r1) (Int32.not_le.mpr (Int32.lt_of_le_of_lt r2 (by decide +kernel)))
  rw [v2, nI_clamp (by omega)]; exact ⟨rfl, by omega⟩
theorem room_b (R : RSh B h) (h4 : mm_i h (B + 23) 4 = nI ns) (ns9 : ns ≤ 20) {s : Nat} (hs : s < ns) : mm_i h (B + 27) s = nI (mm_i h (B + 27) s).toNatClampNeg ∧ (mm_i h (B + 27) s).toNatClampNeg ≤ 1000000 := by
  obtain ⟨n', r1, r2, r3, r4⟩ := R
  have e : ns = n' := (nI_eq (by omega) (by omega)).mp (h4.symm.trans r2)
  obtain ⟨-, -, -, -, r5, r6⟩ := r4 s (by omega)
  obtain ⟨v, v1, v2⟩ := q_rng (n := 1000001) (by omega) (Int32.not_lt.mpr (Int32.le_trans (by decide +kernel) r5)) (Int32.not_le.mpr (Int32.lt_of_le_of_lt r6 (by decide +kernel)))
  rw [v2, nI_clamp (by omega)]; exact ⟨rfl, by omega⟩
theorem plT_lt {h : mm_H} {i : Nat} (hi : i < (plT h al nl m).length) : (plT h al nl m).getD i 0 < nl := by
  have := (tk_mem (getD_mem hi)).1
  rwa [Nat.zero_add] at this
theorem plA_b (R : RLt B ow hx hy nm nl al) (i : Nat) : plA hx al (plT hx al nl m) i ≤ 100000 := by
  unfold plA
  by_cases c : i < (plT hx al nl m).length
  · rw [if_pos c]
    exact (amt_b R (plT_lt c)).2
  · rw [if_neg c]; omega
theorem plR_b (R : RSh B h) (h4 : mm_i h (B + 23) 4 = nI ns) (ns9 : ns ≤ 20) (j : Nat) : plR h B (plQ h B np ns) j ≤ 1000000 := by
  unfold plR
  by_cases c : j < (plQ h B np ns).length
  · rw [if_pos c]; exact (room_b R h4 ns9 (sqL_mem (getD_mem c))).2
  · rw [if_neg c]; omega
theorem plV_b (R : RLt B ow h hy nm nl al) (R2 : RNe B h) (hn : mm_i h (B + 66) 77 = nI nn) (hn2 : nn ≤ 200) {c : Nat} (hc : c = 123 ∨ c = 124) (Q : List Nat) (i w : Nat) : plV h B nn al (plT h al nl m) Q c i w ≤ 1000000000 := by
  have h1 := plA_b (m := m) R i
  have h2 := (prF_b R2 hn hn2 hc (if w = Q.length then 8 else mm_i h (B + 24) (Q.getD w 0)) (mm_i h (al ((plT h al nl m).getD i 0)) 0) (mm_i h B 11)).2
  exact Nat.le_trans (Nat.mul_le_mul h1 h2) (by omega)
theorem x_plan (S : mS B h) (R : RLt B ow h h nm nl al) (R2 : RSh B h) (R4 : RNe B h) (hM : fX11_manThere B (nI m) h = some (some (am m), h)) (h4 : mm_i h (B + 23) 4 = nI ns) (ns9 : ns ≤ 20) (h15 : mm_i h (B + 23) 15 = nI np) (np9 : np ≤ 20) (h77 : mm_i h (B + 66) 77 = nI nn) (nn9 : nn ≤ 200) : ∃ g', fX11_plan B (nI m) h = some (eL (plS h B nn al (plT h al nl m) (plQ h B np ns)), g') ∧ mY B ow [18] h g' ∧ mm_i g' (B + 37) 13 = 1 ∧ mm_i g' (B + 37) 2 = nI (plT h al nl m).length ∧ mm_i g' (B + 37) 5 = nI (plQ h B np ns).length ∧ mm_j g' (B + 37) 12 = eH (plS h B nn al (plT h al nl m) (plQ h B np ns)) ∧ (∀ t, t < (plT h al nl m).length → mm_i g' (B + 38) t = nI ((plT h al nl m).getD t 0)) ∧ (∀ t, t < (plQ h B np ns).length → mm_i g' (B + 40) t = nI ((plQ h B np ns).getD t 0)) ∧ ∀ a c t, plS h B nn al (plT h al nl m) (plQ h B np ns) = some (a, c, t) → (a ≤ 5000000000 ∧ c ≤ 5000000000) ∧ ∀ i, i < (plT h al nl m).length → mm_i g' (B + 46) i = nI (pwI (plQ h B np ns).length (pD ((plQ h B np ns).length + 1) (plT h al nl m).length t i)) := by
  have b1 : ∀ i, plA h al (plT h al nl m) i ≤ 100000 := plA_b (m := m) R
  have b2 : ∀ i, plR h B (plQ h B np ns) i ≤ 1000000 := plR_b (np := np) R2 h4 ns9
  have b3 := plV_b (m := m) R R4 h77 nn9 (Or.inl rfl) (plQ h B np ns)
  have b4 := plV_b (m := m) R R4 h77 nn9 (Or.inr rfl) (plQ h B np ns)
  have t5 : (plT h al nl m).length ≤ 5 := tk_len
  have q4 : (plQ h B np ns).length ≤ 4 := sqL_len
  have tm : ∀ t, t < (plT h al nl m).length → (plT h al nl m).getD t 0 < nl := fun t ht => plT_lt ht
  have qm : ∀ t, t < (plQ h B np ns).length → (plQ h B np ns).getD t 0 < ns := fun t ht => sqL_mem (getD_mem ht)
  have L := R.2.1
  have nl9 := R.1
  have lc : ∀ k, k < nl → B + 147 ≤ al k := fun k hk => (L.2.2.2 k hk).1.1
  obtain ⟨T, hT⟩ : ∃ T, T = plT h al nl m := ⟨_, rfl⟩
  obtain ⟨Q, hQ⟩ : ∃ Q, Q = plQ h B np ns := ⟨_, rfl⟩
  rw [← hT] at b1 b3 b4 t5 tm ⊢
  rw [← hQ] at b2 b3 b4 q4 qm ⊢
  -- cleared
  obtain ⟨g1, e1⟩ : ∃ g', g' = mm_setI (mm_setI h (B + 37) 2 0) (B + 37) 5 0 := ⟨_, rfl⟩
  have x1 : mY B ow [18] h g1 := by rw [e1]; exact ((mX.rf (W := wM B ow [18]) S.1).I (Or.inl (w18 (by omega)))).I (Or.inl (w18 (by omega)))
  have S1 := x1.S S
  have i1 : ∀ x k, x ≠ B + 37 → mm_i g1 x k = mm_i h x k := fun x k hx => by rw [e1, i_I_ne hx, i_I_ne hx]
  have L1 : mL B ow g1 (B + 2) 1 7 nl al := L.up2 rfl (by omega) x1 mO.rf (m := 6) rfl rfl (fun _ => rfl) (by decide)
  -- lots
  have et : tk (lotP g1 al m) nl 0 (5 - 0) = T := by
    rw [hT]
    exact tk_cg fun k _ hk => by
      have := lc k (by omega)
      unfold lotP; rw [i1 _ _ (by omega), i1 _ _ (by omega)]
  obtain ⟨g2, k1, k2, k3, -, k5⟩ := x_pl_lots (m := m) nl 0 0 mm_F g1 (by omega) (by unfold mm_F; omega) (by omega) S1 L1 (by rw [e1, i_I, if_neg (fun z => by omega), i_I_eq, nI_0])
  rw [et, Nat.zero_add] at k3
  rw [et] at k5
  have x2 : mY B ow [18] h g2 := x1.tr (k2.up fun a k _ z => w18 (by unfold wQ1 at z; omega))
  have S2 := x2.S S
  have c2 : ∀ j k, j < 147 → ¬ (37 ≤ j ∧ j ≤ 46) → mm_i g2 (B + j) k = mm_i h (B + j) k := fun j k h1 h2 => by
    rw [k2.i (by have := k2.1.2.2; omega) (by unfold wQ1; omega), i1 _ _ (by omega)]
  have h52 : mm_i g2 (B + 37) 5 = nI 0 := by rw [k2.i (by have := k2.1.2.2; omega) (by unfold wQ1; omega), e1, i_I_eq, nI_0]
  -- ships
  have now2 : mm_i g2 B 11 = mm_i h B 11 := c2 0 11 (by omega) (by omega)
  have hD : ∀ k, k < ns → mm_i g2 (B + 25) k = (fun k => mm_i h (B + 25) k) k ∧ 0 ≤ (fun k => mm_i h (B + 25) k) k := fun k hk => by
    obtain ⟨n', r1, r2, r3, r4⟩ := R2
    have e : ns = n' := (nI_eq (by omega) (by omega)).mp (h4.symm.trans r2)
    exact ⟨c2 25 k (by omega) (by omega), (r4 k (by omega)).2.2.1.1⟩
  have hop : opn g2 B np (mm_i h B 11) = opn h B np (mm_i h B 11) := opn_cg fun j k h1 h2 => c2 j k (by omega) (by omega)
  have h42 : mm_i g2 (B + 23) 4 = nI ns := (c2 23 4 (by omega) (by omega)).trans h4
  have h152 : mm_i g2 (B + 23) 15 = nI np := (c2 23 15 (by omega) (by omega)).trans h15
  have hnx := x_nextShip S2 h42 ns9 h152 np9 hD (mm_i h B 11) (b := none) (fun j hj => by cases hj)
  rw [hop] at hnx
  obtain ⟨g3, s1, s2, s3, -, s5⟩ := x_pl_ships ns9 np9 4 0 mm_F none g2 (by omega) (by unfold mm_F; omega) S2 h42 h152 now2 hD hop h52 (fun j hj => by cases hj)
  rw [nI_0] at s1
  rw [show sqL (opn h B np (mm_i h B 11)) (fun k => mm_i h (B + 25) k) ns 4 none = Q from hQ.symm, Nat.zero_add] at s3
  rw [show sqL (opn h B np (mm_i h B 11)) (fun k => mm_i h (B + 25) k) ns 4 none = Q from hQ.symm] at s5
  have x3 : mY B ow [18] h g3 := x2.tr (s2.up fun a k _ z => w18 (by unfold wQ2 at z; omega))
  have S3 := x3.S S
  have c3 : ∀ j k, j < 147 → ¬ (37 ≤ j ∧ j ≤ 46) → mm_i g3 (B + j) k = mm_i h (B + j) k := fun j k h1 h2 => by
    rw [s2.i (by have := s2.1.2.2; omega) (by unfold wQ2; omega), c2 j k h1 h2]
  have now3 : mm_i g3 B 11 = mm_i h B 11 := c3 0 11 (by omega) (by omega)
  have l3 : ∀ k j, k < nl → mm_i g3 (al k) j = mm_i h (al k) j := fun k j hk => by
    have h1 := lc k hk
    have h3 := (L.2.2.2 k hk).1.2.1
    have h4 := k2.1.1
    have h5 := x1.1.1
    rw [s2.i (by omega) (by unfold wQ2; omega), k2.i (by omega) (by unfold wQ1; omega), i1 _ _ (by omega)]
  have h23 : mm_i g3 (B + 37) 2 = nI T.length := by rw [s2.i (by have := s2.1.2.2; omega) (by unfold wQ2; omega)]; exact k3
  have h38 : ∀ t, t < T.length → mm_i g3 (B + 38) t = nI (T.getD t 0) ∧ mm_i g3 (B + 39) t = mm_i h (al (T.getD t 0)) 3 := fun t ht => by
    obtain ⟨y1, y2⟩ := k5 t ht
    rw [Nat.zero_add] at y1 y2
    rw [s2.i (by have := s2.1.2.2; omega) (by unfold wQ2; omega), s2.i (by have := s2.1.2.2; omega) (by unfold wQ2; omega), y1, y2, i1 _ _ (by have := lc _ (tm t ht); omega)]
    exact ⟨rfl, rfl⟩
  have h40 : ∀ t, t < Q.length → mm_i g3 (B + 40) t = nI (Q.getD t 0) ∧ mm_i g3 (B + 41) t = mm_i h (B + 27) (Q.getD t 0) := fun t ht => by
    obtain ⟨y1, y2⟩ := s5 t ht
    rw [Nat.zero_add] at y1 y2
    rw [y1, y2, c2 27 _ (by omega) (by omega)]
    exact ⟨rfl, rfl⟩
  have ep : ∀ c t k d, (c = 123 ∨ c = 124) → prF g3 B nn c t k d = prF h B nn c t k d := fun c t k d hc => by
    have : yNe g3 B t k d = yNe h B t k d := by
      funext j; unfold yNe; rw [c3 121 j (by omega) (by omega), c3 122 j (by omega) (by omega), c3 125 j (by omega) (by omega)]
    unfold prF
    rw [this]
    cases lastF (yNe h B t k d) nn with
    | none => rfl
    | some v => exact c3 c v (by omega) (by omega)
  have L3 : mL B ow g3 (B + 2) 1 7 nl al := L.up2 rfl (by omega) x3 mO.rf (m := 6) rfl rfl (fun _ => rfl) (by decide)
  have TQ : tQ B ow g3 nl al nn T.length Q.length (plA h al T) (plW h B nn al T Q 123) (plW h B nn al T Q 124) := by
    refine ⟨L3, R4.up x3 (by decide) (by decide), ⟨(c3 66 77 (by omega) (by omega)).trans h77, nn9⟩, ⟨h23, t5⟩, ⟨s3, q4⟩, fun k hk => ?_, fun w hw => ⟨_, Nat.lt_of_lt_of_le (qm w hw) ns9, (h40 w hw).1⟩⟩
    obtain ⟨y1, y2⟩ := h38 k hk
    obtain ⟨z1, z2⟩ := amt_b R (tm k hk)
    have ea : plA h al T k = (mm_i h (al (T.getD k 0)) 3).toNatClampNeg := if_pos hk
    refine ⟨_, tm k hk, y1, by rw [y2, ea]; exact z1, b1 k, fun w hw => ?_⟩
    have et : (if w = Q.length then (8 : Int32) else mm_i g3 (B + 24) (mm_i g3 (B + 40) w).toNatClampNeg) = (if w = Q.length then 8 else mm_i h (B + 24) (Q.getD w 0)) := by
      by_cases c : w = Q.length
      · rw [if_pos c, if_pos c]
      · rw [if_neg c, if_neg c, (h40 w (by omega)).1, nI_clamp (by have := qm w (by omega); omega), c3 24 _ (by omega) (by omega)]
    rw [et, ep _ _ _ _ (Or.inl rfl), ep _ _ _ _ (Or.inr rfl), l3 _ 0 (tm k hk), now3]
    exact ⟨prF_b R4 h77 nn9 (Or.inl rfl) _ _ _, prF_b R4 h77 nn9 (Or.inr rfl) _ _ _⟩
  obtain ⟨g4, t1, t2, t3, t4, -⟩ := x_tell T.length 0 mm_F g3 (by omega) (by unfold mm_F; omega) S3 TQ
  have x4 : mY B ow [18] h g4 := x3.tr (t2.up fun a k _ z => w18 (by unfold wQ3 at z; omega))
  have S4 := x4.S S
  obtain ⟨g5, f1, f2, f3, f4⟩ := x_findBest S4 b3 b4 b2 (by rw [t3]; exact h23) t5 (by rw [t3]; exact s3) q4 (am := plA h al T) (fun i hi => by
    obtain ⟨z1, z2⟩ := amt_b R (tm i hi)
    have ea : plA h al T i = (mm_i h (al (T.getD i 0)) 3).toNatClampNeg := if_pos hi
    rw [t3, (h38 i hi).2, ea]
    exact ⟨z1, z2⟩) (fun i w hi hw => t4 i w (Nat.zero_le _) hi hw) (fun j hj => by
    have ea : plR h B Q j = (mm_i h (B + 27) (Q.getD j 0)).toNatClampNeg := if_pos hj
    rw [t3, (h40 j hj).2, ea]
    exact (room_b R2 h4 ns9 (qm j hj)).1)
  have x5 : mY B ow [18] h g5 := x4.tr (f2.up fun a k _ z => w18 (by unfold wF at z; omega))
  have S5 := x5.S S
  have k5' : ∀ j k, j < 147 → j ≠ 41 → j ≠ 44 → j ≠ 45 → j ≠ 46 → ¬ (j = 37 ∧ k = 13) → ¬ (j = 37 ∧ k = 12) → ¬ (j = 37 ∧ k = 11) → mm_i g5 (B + j) k = mm_i g3 (B + j) k := fun j k h0 h1 h2 h3 h4 h5 h6 h7 => by
    rw [f2.i (by have := f2.1.2.2; omega) (by unfold wF; omega), t3]
  refine ⟨g5, ?_, x5, f3, (k5' 37 2 (by omega) (by omega) (by omega) (by omega) (by omega) (by omega) (by omega) (by omega)).trans h23, (k5' 37 5 (by omega) (by omega) (by omega) (by omega) (by omega) (by omega) (by omega) (by omega)).trans s3, f4.1.2, fun t ht => ?_, fun t ht => ?_, f4.2.2.2⟩
  · have hcl : fX9_clearPlan (B + 37) h = some ((), g1) := by
      unfold fX9_clearPlan
      rw [q_ck (sk37 S), p_lt, p_lt, ← e1]
    have hnx' : fX10_nextOpenShip (B + 23) (-1 : Int32) (mm_i h B 11) g2 = some (eO (nxt (aft (opn h B np (mm_i h B 11)) (fun k => mm_i h (B + 25) k) none) (fun k => mm_i h (B + 25) k) ns 0 none), g2) := hnx
    have htell : fX11_tellPlannerPrices B g3 = some ((), g4) := by
      rw [nI_0] at t1
      exact t1 _
    rw [nI_0] at k1
    unfold fX11_plan
    rw [q_ck (sk0 S), hM, p_cl, if_pos (fun z => by cases z), q_ck (sk0 S), sr0_8 S, p_rf, q_ck (sk37 S), hcl, p_cl, k1, q_ck (sk0 S2), sr0_7 S2, p_rf, q_ck (sk23 S2), now2, hnx', p_cl, s1, q_ck (sk0 S3), htell, p_cl, q_ck (sk0 S4), sr0_8 S4, p_rf, q_ck (sk37 S4), f1, p_cl, q_ck (sk0 S5), sr0_8 S5, p_rf, q_ck (sk37 S5), f4.1.1]
    rfl
  · rw [k5' 38 t (by omega) (by omega) (by omega) (by omega) (by omega) (by omega) (by omega) (by omega)]; exact (h38 t ht).1
  · rw [k5' 40 t (by omega) (by omega) (by omega) (by omega) (by omega) (by omega) (by omega) (by omega)]; exact (h40 t ht).1
end PF
