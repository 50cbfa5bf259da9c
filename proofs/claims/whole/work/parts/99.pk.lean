/-! the plan: the whole of the reference; plan alike -/
section PK
variable {B : Nat} {h g g' hx hy : mm_H} {ow ow' : Nat → Nat × Nat} {nl nm ns np nn n q m : Nat} {am al : Nat → Nat}
theorem w118 {x k : Nat} (h : B + 127 ≤ x ∧ x ≤ B + 136) : wM B ow [118, 100] x k := by
  obtain ⟨j, rfl⟩ : ∃ j, x = B + j := ⟨x - B, by omega⟩
  have : j = 127 ∨ j = 128 ∨ j = 129 ∨ j = 130 ∨ j = 131 ∨ j = 132 ∨ j = 133 ∨ j = 134 ∨ j = 135 ∨ j = 136 := by omega
  rcases this with rfl | rfl | rfl | rfl | rfl | rfl | rfl | rfl | rfl | rfl
  · exact wM_F (m := 118) (by omega) rfl (by decide)
  · exact wM_F (m := 118) (by omega) rfl (by decide)
  all_goals exact wM_F (m := 100) (by omega) rfl (by decide)
theorem pD_0 {b : Nat} : ∀ {k i : Nat}, pD b k 0 i = 0 := by
  intro k
  induction k with
  | zero => intro i; rfl
  | succ k ih =>
    intro i
    simp only [pD]
    rw [Nat.zero_mod, Nat.zero_div]
    split
    · rfl
    · exact ih
theorem y_plan (S : mS B h) (N : RNow B h) (R : RLt B ow h h nm nl al) (R2 : RSh B h) (R3 : RPo B h) (R4 : RNe B h) (hI : fX12_isThere (B + 66) (nI m) h = some (1, h)) (h4 : mm_i h (B + 23) 4 = nI ns) (ns9 : ns ≤ 20) (h38 : mm_i h (B + 66) 38 = nI np) (np9 : np ≤ 20) (h77 : mm_i h (B + 66) 77 = nI nn) (nn9 : nn ≤ 200) : ∃ g', fX12_plan (B + 66) (nI m) h = some (eL (plS h B nn al (plT h al nl m) (plQ h B np ns)), g') ∧ mY B ow [118, 100] h g' ∧ mm_i g' (B + 66) 88 = 1 ∧ mm_i g' (B + 66) 89 = nI (plT h al nl m).length ∧ mm_i g' (B + 66) 90 = nI (plQ h B np ns).length ∧ mm_j g' (B + 66) 91 = eH0 (plS h B nn al (plT h al nl m) (plQ h B np ns)) ∧ (∀ t, t < (plT h al nl m).length → mm_i g' (B + 127) t = nI ((plT h al nl m).getD t 0)) ∧ ∀ a c u, plS h B nn al (plT h al nl m) (plQ h B np ns) = some (a, c, u) → ∀ i, i < (plT h al nl m).length → mm_i g' (B + 128) i = if pD ((plQ h B np ns).length + 1) (plT h al nl m).length u i = (plQ h B np ns).length then -1 else nI ((plQ h B np ns).getD (pD ((plQ h B np ns).length + 1) (plT h al nl m).length u i) 0) := by
  have b1 : ∀ i, plA h al (plT h al nl m) i ≤ 100000 := plA_b (m := m) R
  have b3 := plV_b (m := m) R R4 h77 nn9 (Or.inl rfl) (plQ h B np ns)
  have b4 := plV_b (m := m) R R4 h77 nn9 (Or.inr rfl) (plQ h B np ns)
  have t5 : (plT h al nl m).length ≤ 5 := tk_len
  have q4 : (plQ h B np ns).length ≤ 4 := sqL_len
  have tm : ∀ t, t < (plT h al nl m).length → (plT h al nl m).getD t 0 < nl := fun t ht => plT_lt ht
  have qm : ∀ t, t < (plQ h B np ns).length → (plQ h B np ns).getD t 0 < ns := fun t ht => sqL_mem (getD_mem ht)
  have nl9 := R.1
  obtain ⟨T, hT⟩ : ∃ T, T = plT h al nl m := ⟨_, rfl⟩
  obtain ⟨Q, hQ⟩ : ∃ Q, Q = plQ h B np ns := ⟨_, rfl⟩
  rw [← hT] at b1 b3 b4 t5 tm ⊢
  rw [← hQ] at b3 b4 q4 qm ⊢
  have sh : ∀ k, k < ns → (mm_i h (B + 117) k = mm_i h (B + 24) k ∧ mm_i h (B + 118) k = mm_i h (B + 25) k ∧ mm_i h (B + 119) k = mm_i h (B + 26) k ∧ mm_i h (B + 120) k = mm_i h (B + 27) k) ∧ (0 ≤ mm_i h (B + 24) k ∧ mm_i h (B + 24) k ≤ 7) := by
    obtain ⟨n', r1, r2, r3, r4⟩ := R2
    have e : ns = n' := (nI_eq (by omega) (by omega)).mp (h4.symm.trans r2)
    exact fun k hk => ⟨(r4 k (by omega)).1, (r4 k (by omega)).2.1⟩
  have h76 : mm_i h (B + 66) 76 = nI ns := by
    obtain ⟨n', r1, r2, r3, r4⟩ := R2
    rw [r3, ← r2, h4]
  have ml : ∀ k, k < nl → (mm_i h (B + 74) k = mm_i h (al k) 0 ∧ 0 ≤ mm_i h (al k) 0 ∧ mm_i h (al k) 0 ≤ 7) ∧ mm_i h (B + 75) k = mm_i h (al k) 3 ∧ mm_i h (B + 76) k = mm_i h (al k) 4 := fun k hk => by
    obtain ⟨m1, -, -, ⟨m4, -⟩, m5, -⟩ := R.2.2.2 k hk
    exact ⟨m1, m4, m5⟩
  have hlot : ∀ k, k < nl → lotP h al m k = (decide (mm_i h (B + 76) k = nI m) && decide (¬ mm_i h (B + 75) k ≤ 0)) := fun k hk => by
    unfold lotP; rw [(ml k hk).2.1, (ml k hk).2.2]
  -- lots
  obtain ⟨g1, k1, k2, -, k4⟩ := y_pl_lots (m := m) (P := lotP h al m) nl9 nl 0 0 mm_F h (by omega) (by unfold mm_F; omega) (by omega) S R.2.2.1 hlot
  rw [show tk (lotP h al m) nl 0 (5 - 0) = T from hT.symm] at k1 k4
  have S1 := k2.S S
  have i1 : ∀ x k, x < B + 147 → x ≠ B + 130 → mm_i g1 x k = mm_i h x k := fun x k h1 h2 => k2.i (by have := k2.1.2.2; omega) h2
  -- ships
  obtain ⟨g2, s1, s2, s3⟩ := y_gathers S1 (by rw [i1 _ _ (by omega) (by omega)]; exact h76) ns9 (by rw [i1 _ _ (by omega) (by omega)]; exact h38) np9 (now := mm_i h B 11) (by rw [i1 _ _ (by omega) (by omega)]; exact N.1) (D := fun k => mm_i h (B + 25) k) (p := opn h B np (mm_i h B 11)) (fun k hk => by rw [i1 _ _ (by omega) (by omega)]; exact (sh k hk).1.2.1) (fun k hk => by
    have e : ∀ t d r, yShut g1 B t d r = yShut h B t d r := fun t d r => by
      funext j; unfold yShut; rw [i1 _ _ (by omega) (by omega), i1 _ _ (by omega) (by omega), i1 _ _ (by omega) (by omega), i1 _ _ (by omega) (by omega)]
    rw [e, i1 _ _ (by omega) (by omega), i1 _ _ (by omega) (by omega), (sh k hk).1.1, (sh k hk).1.2.2.1, xy_shut R3 _ _ N.2.2 h38 np9]
    rfl)
  rw [show sqL (opn h B np (mm_i h B 11)) (fun k => mm_i h (B + 25) k) ns 4 none = Q from hQ.symm] at s1 s3
  have S2 := s2.S S1
  have i2 : ∀ x k, x < B + 147 → x ≠ B + 130 → x ≠ B + 132 → x ≠ B + 129 → mm_i g2 x k = mm_i h x k := fun x k h1 h2 h3 h4 => (s2.i (by have := s2.1.2.2; omega) (show ¬ (x = B + 132 ∨ x = B + 129) by omega)).trans (i1 x k h1 h2)
  have l130 : ∀ t, t < T.length → mm_i g2 (B + 130) t = nI (T.getD t 0) := fun t ht => by
    rw [s2.i (by have := s2.1.2.2; omega) (show ¬ (B + 130 = B + 132 ∨ B + 130 = B + 129) by omega)]
    have := k4 t ht
    rwa [Nat.zero_add] at this
  have l75 : ∀ i, i < T.length → mm_i h (B + 75) (T.getD i 0) = nI (plA h al T i) := fun i hi => by
    have ea : plA h al T i = (mm_i h (al (T.getD i 0)) 3).toNatClampNeg := if_pos hi
    rw [(ml _ (tm i hi)).2.1, ea]; exact (amt_b R (tm i hi)).1
  have ep : ∀ c t k d, (c = 123 ∨ c = 124) → prF g2 B nn c t k d = prF h B nn c t k d := fun c t k d hc => by
    have : yNe g2 B t k d = yNe h B t k d := by
      funext j; unfold yNe; rw [i2 _ _ (by omega) (by omega) (by omega) (by omega), i2 _ _ (by omega) (by omega) (by omega) (by omega), i2 _ _ (by omega) (by omega) (by omega) (by omega)]
    unfold prF
    rw [this]
    cases lastF (yNe h B t k d) nn with
    | none => rfl
    | some v => exact i2 _ v (by omega) (by omega) (by omega) (by omega)
  have YQ : yQ B g2 nn T.length Q.length (plA h al T) (plW h B nn al T Q 123) (plW h B nn al T Q 124) := by
    refine ⟨⟨by rw [i2 _ _ (by omega) (by omega) (by omega) (by omega)]; exact h77, nn9⟩, ⟨t5, q4⟩, by rw [i2 _ _ (by omega) (by omega) (by omega) (by omega), N.1]; exact N.2, fun i hi => ?_, fun w hw => ?_⟩
    · refine ⟨T.getD i 0, by have := tm i hi; omega, l130 i hi, ⟨by rw [i2 _ _ (by omega) (by omega) (by omega) (by omega)]; exact l75 i hi, b1 i⟩, by rw [i2 _ _ (by omega) (by omega) (by omega) (by omega), (ml _ (tm i hi)).1.1]; exact (ml _ (tm i hi)).1.2, fun w hw => ?_⟩
      have et : (if w = Q.length then (8 : Int32) else mm_i g2 (B + 117) (mm_i g2 (B + 129) w).toNatClampNeg) = (if w = Q.length then 8 else mm_i h (B + 24) (Q.getD w 0)) := by
        by_cases c : w = Q.length
        · rw [if_pos c, if_pos c]
        · have hwm := qm w (by omega)
          rw [if_neg c, if_neg c, s3 w (by omega), nI_clamp (by omega), i2 _ _ (by omega) (by omega) (by omega) (by omega), (sh _ hwm).1.1]
      rw [et, ep _ _ _ _ (Or.inl rfl), ep _ _ _ _ (Or.inr rfl), i2 (B + 74) _ (by omega) (by omega) (by omega) (by omega), i2 (B + 66) _ (by omega) (by omega) (by omega) (by omega), (ml _ (tm i hi)).1.1, N.1]
      exact ⟨prF_b R4 h77 nn9 (Or.inl rfl) _ _ _, prF_b R4 h77 nn9 (Or.inr rfl) _ _ _⟩
    · have hwm := qm w hw
      refine ⟨Q.getD w 0, by omega, s3 w hw, ?_⟩
      rw [i2 _ _ (by omega) (by omega) (by omega) (by omega), (sh _ hwm).1.1]
      exact (sh _ hwm).2
  obtain ⟨g3, p1, p2, p3, -, p5, p6, -⟩ := y_pr_L72 T.length 0 mm_F g2 (by omega) (by unfold mm_F; omega) S2 YQ
  have S3 := p2.S S2
  have i3 : ∀ x k, x < B + 147 → x ≠ B + 130 → x ≠ B + 132 → x ≠ B + 129 → x ≠ B + 131 → mm_i g3 x k = mm_i h x k := fun x k h1 h2 h3 h4 h5 => (p3 x k h5).trans (i2 x k h1 h2 h3 h4)
  have W : yWs B g3 T.length Q.length (plA h al T) (plR h B Q) (plV h B nn al T Q 123) (plV h B nn al T Q 124) := by
    refine ⟨⟨t5, q4⟩, fun i hi => ⟨T.getD i 0, by have := tm i hi; omega, by rw [p3 _ _ (by omega)]; exact l130 i hi, by rw [i3 _ _ (by omega) (by omega) (by omega) (by omega) (by omega)]; exact l75 i hi, b1 i⟩, fun j hj => ?_, fun i w hi hw => p6 i w (Nat.zero_le _) hi hw⟩
    have hjm := qm j hj
    have ea : plR h B Q j = (mm_i h (B + 27) (Q.getD j 0)).toNatClampNeg := if_pos hj
    have hr := room_b R2 h4 ns9 hjm
    refine ⟨Q.getD j 0, by omega, by rw [p3 _ _ (by omega)]; exact s3 j hj, ?_, by rw [ea]; exact hr.2⟩
    rw [i3 _ _ (by omega) (by omega) (by omega) (by omega) (by omega), (sh _ hjm).1.2.2.2, ea]
    exact hr.1
  have hpos : 0 < (Q.length + 1) ^ T.length := Nat.pow_pos (by omega)
  have hmax : (Q.length + 1) ^ T.length ≤ 3125 := by
    have h1 : (Q.length + 1) ^ T.length ≤ 5 ^ T.length := Nat.pow_le_pow_left (by omega) _
    have h2 : 5 ^ T.length ≤ 5 ^ 5 := Nat.pow_le_pow_right (by omega) t5
    exact Nat.le_trans h1 (Nat.le_trans h2 (by decide))
  obtain ⟨g4, w1, w2, w3, w4⟩ := y_ways b3 b4 b1 ((Q.length + 1) ^ T.length - 1) 0 mm_F g3 none (by omega) (by unfold mm_F; omega) S3 W (fun i hi => by rw [p5 i (Nat.zero_le _) hi, pD_0, nI_0]) (fun a c u e => by cases e)
  rw [Nat.sub_add_cancel hpos] at w1 w4
  rw [show fr (pS (plA h al T) (plR h B Q) (plV h B nn al T Q 123) (plV h B nn al T Q 124) Q.length T.length) ((Q.length + 1) ^ T.length) 0 none = plS h B nn al T Q from rfl] at w1 w4
  obtain ⟨st, hst⟩ : ∃ st, st = plS h B nn al T Q := ⟨_, rfl⟩
  rw [← hst] at w1 w4 ⊢
  have S4 := w2.S S3
  have l129 : ∀ t, t < Q.length → mm_i g4 (B + 129) t = nI (Q.getD t 0) := fun t ht => by
    rw [w2.i (by have := w2.1.2.2; omega) (by unfold wG; omega), p3 _ _ (by omega)]; exact s3 t ht
  have l130' : ∀ t, t < T.length → mm_i g4 (B + 130) t = nI (T.getD t 0) := fun t ht => by
    rw [w2.i (by have := w2.1.2.2; omega) (by unfold wG; omega), p3 _ _ (by omega)]; exact l130 t ht
  obtain ⟨g5, v1, v2, v3, v4, -, v6⟩ := y_wa_L586 (b3 := nI Q.length) (b4 := eL st) (b6 := eH0 st) t5 T.length 0 mm_F g4 (by omega) (by unfold mm_F; omega) S4
  have S5 := v2.S S4
  obtain ⟨g6, e6⟩ : ∃ g', g' = mm_setI g5 (B + 66) 88 1 := ⟨_, rfl⟩
  obtain ⟨g7, e7⟩ : ∃ g', g' = mm_setI g6 (B + 66) 89 (nI T.length) := ⟨_, rfl⟩
  obtain ⟨g8, e8⟩ : ∃ g', g' = mm_setI g7 (B + 66) 90 (nI Q.length) := ⟨_, rfl⟩
  obtain ⟨g9, e9⟩ : ∃ g', g' = mm_setJ g8 (B + 66) 91 (eH0 st) := ⟨_, rfl⟩
  have x5 : mY B ow [118, 100] h g5 := ((((k2.up fun a k _ z => w118 (by have z : a = B + 130 := z; omega)).tr (s2.up fun a k _ z => w118 (by have z : a = B + 132 ∨ a = B + 129 := z; omega))).tr (p2.up fun a k _ z => w118 (by have z : a = B + 131 ∨ a = B + 134 ∨ a = B + 135 := z; omega))).tr (w2.up fun a k _ z => w118 (by unfold wG at z; omega))).tr (v2.up fun a k _ z => w118 (by have z : a = B + 127 := z; omega))
  have x9 : mY B ow [118, 100] h g9 := by
    rw [e9, e8, e7, e6]
    exact (((x5.IF (j := 66) (m := 118) (by omega) rfl (by decide)).IF (j := 66) (m := 118) (by omega) rfl (by decide)).IF (j := 66) (m := 118) (by omega) rfl (by decide)).JF (j := 66) (m := 118) (by omega) rfl (by decide)
  have k9 : ∀ x k, x ≠ B + 66 → mm_i g9 x k = mm_i g5 x k := fun x k hx => by
    rw [e9]
    show mm_i g8 x k = _
    rw [e8, i_I_ne hx, e7, i_I_ne hx, e6, i_I_ne hx]
  refine ⟨g9, ?_, x9, ?_, ?_, ?_, ?_, fun t ht => ?_, fun a c u hs i hi => ?_⟩
  · rw [nI_0] at k1 p1 v1
    have w1' : ∀ K, fX12_plan_L243 (B + 66) (nI T.length) (nI Q.length) K mm_F (-1) 0 1 g3 = K (eL st) (eH0 st) g4 := w1
    unfold fX12_plan
    rw [q_ck (sk66 S), hI, p_cl, if_pos (show ¬ (1 : Int32) = 0 by decide), k1, Nat.zero_add, q_ck (sk66 S1), s1, p_cl, p1, w1', v1, q_ck (sk66 S5), ← e6, p_lt, ← e7, p_lt, ← e8, p_lt, ← e9, p_lt]
  · rw [e9]; show mm_i g8 _ _ = _; rw [e8, i_I, if_neg (fun z => by omega), e7, i_I, if_neg (fun z => by omega), e6, i_I_eq]
  · rw [e9]; show mm_i g8 _ _ = _; rw [e8, i_I, if_neg (fun z => by omega), e7, i_I_eq]
  · rw [e9]; show mm_i g8 _ _ = _; rw [e8, i_I_eq]
  · rw [e9, j_J, if_pos ⟨rfl, rfl⟩]
  · rw [k9 _ _ (by omega), v6 t (Nat.zero_le _) ht]; exact l130' t ht
  · have := (w4 a c u hs).2 i hi
    rw [k9 _ _ (by omega), v4 _ _ (by omega), this]
    by_cases c' : pD (Q.length + 1) T.length u i = Q.length
    · rw [if_pos c', if_pos c']
    · have hd : pD (Q.length + 1) T.length u i < Q.length + 1 := pD_lt (by omega)
      rw [if_neg c', if_neg c', l129 _ (by omega)]
theorem pl_cg (x : mY B ow [18] h g) (R : RLt B ow h h nm nl al) : plT g al nl m = plT h al nl m ∧ plQ g B np ns = plQ h B np ns ∧ plS g B nn al (plT h al nl m) (plQ h B np ns) = plS h B nn al (plT h al nl m) (plQ h B np ns) := by
  have l0 : ∀ k, k < nl → mm_i g (al k) 0 = mm_i h (al k) 0 := fun k hk => x.iL (m := 6) (k := 0) (R.2.1.2.2.2 k hk).1 rfl (by decide)
  have l3 : ∀ k, k < nl → mm_i g (al k) 3 = mm_i h (al k) 3 := fun k hk => x.iL (m := 26) (k := 3) (R.2.1.2.2.2 k hk).1 rfl (by decide)
  have l4 : ∀ k, k < nl → mm_i g (al k) 4 = mm_i h (al k) 4 := fun k hk => x.iL (m := 26) (k := 4) (R.2.1.2.2.2 k hk).1 rfl (by decide)
  have n0 : mm_i g B 11 = mm_i h B 11 := x.i0 (m := 1) rfl (by decide)
  have cs : ∀ j k, 24 ≤ j → j ≤ 36 → mm_i g (B + j) k = mm_i h (B + j) k := fun j k h1 h2 => by
    have : j = 24 ∨ j = 25 ∨ j = 26 ∨ j = 27 ∨ j = 28 ∨ j = 29 ∨ j = 30 ∨ j = 31 ∨ j = 32 ∨ j = 33 ∨ j = 34 ∨ j = 35 ∨ j = 36 := by omega
    rcases this with rfl | rfl | rfl | rfl | rfl | rfl | rfl | rfl | rfl | rfl | rfl | rfl | rfl
    · exact x.iF (m := 14) (by omega) rfl (by decide)
    · exact x.iF (m := 14) (by omega) rfl (by decide)
    · exact x.iF (m := 14) (by omega) rfl (by decide)
    · exact x.iF (m := 14) (by omega) rfl (by decide)
    · exact x.iF (m := 12) (by omega) rfl (by decide)
    · exact x.iF (m := 12) (by omega) rfl (by decide)
    · exact x.iF (m := 12) (by omega) rfl (by decide)
    · exact x.iF (m := 12) (by omega) rfl (by decide)
    · exact x.iF (m := 12) (by omega) rfl (by decide)
    · exact x.iF (m := 11) (by omega) rfl (by decide)
    · exact x.iF (m := 11) (by omega) rfl (by decide)
    · exact x.iF (m := 11) (by omega) rfl (by decide)
    · exact x.iF (m := 11) (by omega) rfl (by decide)
  have ep : ∀ c t k d, (c = 123 ∨ c = 124) → prF g B nn c t k d = prF h B nn c t k d := fun c t k d hc => by
    have : yNe g B t k d = yNe h B t k d := by
      funext j; unfold yNe; rw [x.iF (j := 121) (m := 112) (by omega) rfl (by decide), x.iF (j := 122) (m := 112) (by omega) rfl (by decide), x.iF (j := 125) (m := 112) (by omega) rfl (by decide)]
    unfold prF
    rw [this]
    cases lastF (yNe h B t k d) nn with
    | none => rfl
    | some v =>
      rcases hc with rfl | rfl
      · exact x.iF (j := 123) (m := 112) (by omega) rfl (by decide)
      · exact x.iF (j := 124) (m := 112) (by omega) rfl (by decide)
  refine ⟨tk_cg fun k _ hk => by unfold lotP; rw [l3 k (by omega), l4 k (by omega)], ?_, ?_⟩
  · unfold plQ
    rw [n0, opn_cg cs, show (fun k => mm_i g (B + 25) k) = fun k => mm_i h (B + 25) k from funext fun k => cs 25 k (by omega) (by omega)]
  · have eA : plA g al (plT h al nl m) = plA h al (plT h al nl m) := funext fun i => by
      unfold plA
      by_cases c : i < (plT h al nl m).length
      · rw [if_pos c, if_pos c, l3 _ (plT_lt c)]
      · rw [if_neg c, if_neg c]
    have eR : plR g B (plQ h B np ns) = plR h B (plQ h B np ns) := funext fun i => by
      unfold plR
      rw [cs 27 _ (by omega) (by omega)]
    have eV : ∀ c, (c = 123 ∨ c = 124) → plV g B nn al (plT h al nl m) (plQ h B np ns) c = plV h B nn al (plT h al nl m) (plQ h B np ns) c := fun c hc => by
      funext i w
      unfold plV
      rw [eA]
      by_cases c' : i < (plT h al nl m).length
      · unfold plW
        rw [ep _ _ _ _ hc, l0 _ (plT_lt c'), n0, cs 24 _ (by omega) (by omega)]
      · have : plA h al (plT h al nl m) i = 0 := if_neg c'
        rw [this, Nat.zero_mul, Nat.zero_mul]
    unfold plS
    rw [eA, eR, eV _ (Or.inl rfl), eV _ (Or.inr rfl)]
theorem T_plan (S : mS B h) (N : RNow B h) (R : RMn B ow h h nm am) (Rl : RLt B ow h h nm nl al) (R2 : RSh B h) (R3 : RPo B h) (R4 : RNe B h) (RP : RPl B h) (a : Int32) : ∃ r h1 h2, fX11_plan B a h = some (r, h1) ∧ fX12_plan (B + 66) a h1 = some (r, h2) ∧ mY B ow [18, 118, 100] h h2 ∧ RPl B h2 := by
  obtain ⟨f1, f2⟩ := x_manThere S R.2.1 (a := a)
  by_cases c : isTh h nm am a
  case neg =>
    refine ⟨-1, h, h, ?_, ?_, mX.rf S.1, RP⟩
    · unfold fX11_plan
      rw [q_ck (sk0 S), f2 c, p_cl, if_neg (not_not_intro rfl)]
    · have := (y_isThere S R N.2.2 (a := a)).2 c
      unfold fX12_plan
      rw [q_ck (sk66 S), this, p_cl, if_neg (not_not_intro rfl)]
  have hM := f1 c
  obtain ⟨m, m1, rfl, m3⟩ := id c
  have m9 := R.1
  rw [nI_clamp (show m < 2 ^ 31 by omega)] at hM
  obtain ⟨ns, ns9, h4, h76, -⟩ := id R2
  obtain ⟨np, np9, h15, h38, -⟩ := id R3
  obtain ⟨nn, nn9, -, h77, -⟩ := id R4
  obtain ⟨g1, a1, a2, a3, a4, a5, a6, a7, a8, a9⟩ := x_plan (am := am) (ow := ow) S Rl R2 R4 hM h4 ns9 h15 np9 h77 nn9
  obtain ⟨cT, cQ, cS⟩ := pl_cg (m := m) (np := np) (ns := ns) (nn := nn) a2 Rl
  have S1 := a2.S S
  have R' : RMn B ow h g1 nm am := R.up (mX.rf (W := wM B ow []) S.1) mO.rf a2 (by decide) (by decide) (Int32.le_refl _)
  have hI := (y_isThere S1 R' N.2.2 (a := nI m)).1 c
  have hle : nm < 2 ^ 31 := by omega
  obtain ⟨g2, d1, d2, d3, d4, d5, d6, d7, d8⟩ := y_plan (m := m) (ow := ow) S1 (N.up a2 (by decide) (by decide)) (Rl.up a2 mO.rf a2 (by decide) (by decide) (Nat.le_refl _) hle) (R2.up a2 (by decide) (by decide)) (R3.up a2 (by decide) (by decide)) (R4.up a2 (by decide) (by decide)) hI ((a2.iF (j := 23) (m := 14) (by omega) rfl (by decide)).trans h4) ns9 ((a2.iF (j := 66) (m := 111) (by omega) rfl (by decide)).trans h38) np9 ((a2.iF (j := 66) (m := 112) (by omega) rfl (by decide)).trans h77) nn9
  rw [cT, cQ, cS] at d1 d6 d8
  rw [cT] at d4 d7
  rw [cQ] at d5
  have b7 : (plT h al nl m).length ≤ 5 := tk_len
  have b8 : (plQ h B np ns).length ≤ 4 := sqL_len
  obtain ⟨T, hT⟩ : ∃ T, T = plT h al nl m := ⟨_, rfl⟩
  obtain ⟨Q, hQ⟩ : ∃ Q, Q = plQ h B np ns := ⟨_, rfl⟩
  rw [← hT, ← hQ] at a1 a6 a9 d1 d6 d8
  rw [← hT] at a4 a7 d4 d7 b7
  rw [← hQ] at a5 a8 d5 b8
  have hne : ¬ plS h B nn al T Q = none := ways_some
  obtain ⟨st, hst⟩ : ∃ st, st = plS h B nn al T Q := ⟨_, rfl⟩
  rw [← hst] at a1 a6 a9 d1 d6 d8 hne
  obtain ⟨⟨ba, bc, bu⟩, rfl⟩ : ∃ s, st = some s := by
    cases st with
    | none => exact absurd rfl hne
    | some s => exact ⟨s, rfl⟩
  have c18 : ∀ j k, 37 ≤ j → j ≤ 46 → mm_i g2 (B + j) k = mm_i g1 (B + j) k ∧ mm_j g2 (B + j) k = mm_j g1 (B + j) k := fun j k h1 h2 => by
    have nw : ¬ wM B ow [118, 100] (B + j) k := by
      have : j = 37 ∨ j = 38 ∨ j = 39 ∨ j = 40 ∨ j = 41 ∨ j = 42 ∨ j = 43 ∨ j = 44 ∨ j = 45 ∨ j = 46 := by omega
      rcases this with rfl | rfl | rfl | rfl | rfl | rfl | rfl | rfl | rfl | rfl <;> exact wM_f (m := 18) (by omega) rfl (by decide)
    exact ⟨d2.i (by have := d2.1.2.2; omega) nw, d2.j (by have := d2.1.2.2; omega) nw⟩
  refine ⟨_, g1, g2, a1, d1, (wM_le a2 (by decide)).tr (wM_le d2 (by decide)), ⟨⟨?_, ?_⟩, ?_⟩⟩
  · rw [(c18 37 13 (by omega) (by omega)).1, a3, d3]
  · intro _
    rw [(c18 37 12 (by omega) (by omega)).2, a6, d6]; rfl
  · intro _
    refine ⟨T.length, Q.length, ⟨b7, b8⟩, (c18 37 2 (by omega) (by omega)).1.trans a4, d4, (c18 37 5 (by omega) (by omega)).1.trans a5, d5, fun k hk => ⟨?_, ?_⟩⟩
    · rw [d7 k hk, (c18 38 k (by omega) (by omega)).1, a7 k hk]
    · have hd : pD (Q.length + 1) T.length bu k < Q.length + 1 := pD_lt (by omega)
      have e46 := (a9 ba bc bu rfl).2 k hk
      unfold shF
      rw [d8 ba bc bu rfl k hk, (c18 46 k (by omega) (by omega)).1, e46, (c18 37 5 (by omega) (by omega)).1, a5]
      obtain ⟨w1, w2, w3⟩ := pwI_le b8 (show pD (Q.length + 1) T.length bu k ≤ Q.length by omega)
      rw [if_neg (nI_pos (by omega))]
      by_cases w : pD (Q.length + 1) T.length bu k = Q.length
      · rw [if_pos w, w2 w, if_neg (nI_nlt b8 (by omega))]
      · rw [if_neg w, w3 w, if_pos (nI_lt (by omega) (by omega)), nI_clamp (by omega), (c18 40 _ (by omega) (by omega)).1, a8 _ (by omega)]
end PK
