/-! the plan: all ways of the reference -/
def wG (B : Nat) : Nat → Nat → Prop := fun x _ => x = B + 128 ∨ x = B + 131 ∨ x = B + 136
section PJ
variable {B : Nat} {h g g' : mm_H} {nn n q t : Nat} {am rm : Nat → Nat} {lo hi pl ph : Nat → Nat → Nat} {st : Option (Nat × Nat × Nat)}
theorem cH.cg (C : cH B g n q st) (e : ∀ k, mm_i g' (B + 128) k = mm_i g (B + 128) k ∧ mm_i g' (B + 129) k = mm_i g (B + 129) k) : cH B g' n q st := fun a c u hs => by
  obtain ⟨c1, c2⟩ := C a c u hs
  refine ⟨c1, fun i hi => ?_⟩
  rw [(e i).1, (e _).2]; exact c2 i hi
theorem y_way (hlo : ∀ i w, lo i w ≤ 1000000000) (hhi : ∀ i w, hi i w ≤ 1000000000) (ham : ∀ i, am i ≤ 100000) (S : mS B g) (Q : yWs B g n q am rm lo hi) (D : dgs B g n q t) (C : cH B g n q st) (ht : t < (q + 1) ^ n) : ∃ g', (∀ K self, fX12_plan_L243_b (B + 66) (nI n) (nI q) K self (eL st) (eH0 st) 1 g = self (eL (pS am rm lo hi q n st t)) (eH0 (pS am rm lo hi q n st t)) (if t + 1 < (q + 1) ^ n then 1 else 0) g') ∧ mX B (wG B) g g' ∧ yWs B g' n q am rm lo hi ∧ (t + 1 < (q + 1) ^ n → dgs B g' n q (t + 1)) ∧ cH B g' n q (pS am rm lo hi q n st t) := by
  obtain ⟨⟨n5, q4⟩, a2, a3, a4⟩ := id Q
  have z0 : lN 0 = (0 : Int64) := by decide +kernel
  obtain ⟨g1, k1, k2, k3, -, k5⟩ := y_wa_L260 (b2 := nI n) (b3 := nI q) (b13 := 1) (b4 := eL st) (b6 := eH0 st) (b9 := 0) (b11 := 0) 5 0 mm_F g (by omega) (by unfold mm_F; omega) S
  have S1 := k2.S S
  have Q1 : yWs B g1 n q am rm lo hi := Q.cg (fun x k _ _ => by rw [k3]) (fun x k hx => k2.j (by have := k2.1.2.2; omega) (show ¬ x = B + 136 by omega))
  have D1 : dgs B g1 n q t := fun i hi => by rw [k3]; exact D i hi
  obtain ⟨g2, m1, m2, m3, m4⟩ := y_wa_L283 (b13 := 1) (b4 := eL st) (b6 := eH0 st) n 0 mm_F g1 (by omega) (by unfold mm_F; omega) S1 Q1 D1 (fun w hw => by rw [k5 w (Nat.zero_le _) (by omega)]; rfl)
  have S2 := m2.S S1
  have Q2 : yWs B g2 n q am rm lo hi := Q1.cg (fun x k _ _ => by rw [m3]) (fun x k hx => m2.j (by have := m2.1.2.2; omega) (show ¬ x = B + 136 by omega))
  have i2 : mm_i g2 = mm_i g := m3.trans k3
  have D2 : dgs B g2 n q t := fun i hi => by rw [i2]; exact D i hi
  have C2 : cH B g2 n q st := C.cg fun k => by rw [i2]; exact ⟨rfl, rfl⟩
  have x2 : mX B (wG B) g g2 := (k2.up fun a k _ z => Or.inr (Or.inr z)).tr (m2.up fun a k _ z => Or.inr (Or.inr z))
  have bl := pG_le hlo (b := q + 1) (n := n) (t := t)
  have bh := pG_le hhi (b := q + 1) (n := n) (t := t)
  have m4' : ∀ w, w ≤ q → mm_j g2 (B + 136) w = lN (pG (pL am w) (q + 1) n t) := fun w hw => (m4 w hw).trans (congrArg lN pG_sum.symm)
  have m1' : ∀ K, fX12_plan_L283 (B + 66) (nI n) (nI q) (eL st) (eH0 st) 1 K mm_F 0 0 0 g1 = K (lN (pG lo (q + 1) n t)) (lN (pG hi (q + 1) n t)) g2 := fun K => by
    have := m1 K
    rw [show sumN (fun k => lo k (pD (q + 1) n t k)) n = pG lo (q + 1) n t from pG_sum.symm, show sumN (fun k => hi k (pD (q + 1) n t k)) n = pG hi (q + 1) n t from pG_sum.symm, show sumN (fun k => lo k (pD (q + 1) n t k)) 0 = 0 from rfl, show sumN (fun k => hi k (pD (q + 1) n t k)) 0 = 0 from rfl, z0, nI_0] at this
    exact this
  have f1 : ∀ (b9 b11 : Int64) K, fX12_plan_L370 (B + 66) (nI n) (nI q) (eL st) (eH0 st) b9 b11 K mm_F 1 0 g2 = K (if okP am rm q n t = true then 1 else 0) g2 := fun b9 b11 K => by
    have := y_wa_L370 S2 Q2 (ld := fun j => pG (pL am j) (q + 1) n t) (fun j hj => ⟨m4' j (by omega), by
      have := pG_le (a := pL am j) (M := 100000) (fun i w => by unfold pL; have := ham i; split <;> omega) (b := q + 1) (n := n) (t := t)
      show pG (pL am j) (q + 1) n t < 2 ^ 62
      omega⟩) (b2 := nI n) (b4 := eL st) (b6 := eH0 st) (b9 := b9) (b11 := b11) K q 0 mm_F true (by omega) (by unfold mm_F; omega)
    rw [if_pos rfl, nI_0, Bool.true_and] at this
    exact this
  obtain ⟨l, hl⟩ : ∃ l, l = pG lo (q + 1) n t := ⟨_, rfl⟩
  obtain ⟨u, hu⟩ : ∃ u, u = pG hi (q + 1) n t := ⟨_, rfl⟩
  have l9 : l ≤ 5000000000 := by omega
  have u9 : u ≤ 5000000000 := by omega
  have hSt : pS am rm lo hi q n st t = if (okP am rm q n t && bet st l u) = true then some (l, u, t) else st := by
    unfold pS; rw [← hl, ← hu]
  obtain ⟨st', hst⟩ : ∃ st', st' = pS am rm lo hi q n st t := ⟨_, rfl⟩
  obtain ⟨c3, s1, s2, s3, s4, -, s6⟩ := y_wa_L458 (t := t) (b4 := lN l) (b6 := lN u) n5 q4 n 0 mm_F g2 (by omega) (by unfold mm_F; omega) S2 D2
  rw [nI_0] at s1
  obtain ⟨g3, e1, e2, e3, e4, e5⟩ : ∃ g3, (∀ q' : Int64 → Int64 → mm_H → Option (Int64 × mm_H), (if (if okP am rm q n t = true then (1 : Int32) else 0) = 0 then (q' (eL st) (eH0 st) g2) else (mm_jn (fun (_u : Unit) => fX12_plan_L458 (B + 66) (nI n) (nI q) (lN l) (lN u) (fun (g194 : mm_H) => q' (lN l) (lN u) g194) mm_F (0 : Int32) g2) (fun (q176 : Unit → Option (Int64 × mm_H)) => if 0 < (lg_cmp (lN l) (eL st)) then (q176 ()) else (if ¬ (lg_cmp (lN l) (eL st)) = 0 then (q' (eL st) (eH0 st) g2) else (if (lg_cmp (lN u) (eH0 st)) ≤ 0 then (q' (eL st) (eH0 st) g2) else (q176 ())))))) = q' (eL st') (eH0 st') g3) ∧ mX B (fun x _ => x = B + 128) g2 g3 ∧ mm_j g3 = mm_j g2 ∧ (∀ x k, x ≠ B + 128 → mm_i g3 x k = mm_i g2 x k) ∧ cH B g3 n q st' := by
    have stay : st' = st → (∀ q' : Int64 → Int64 → mm_H → Option (Int64 × mm_H), (if (if okP am rm q n t = true then (1 : Int32) else 0) = 0 then (q' (eL st) (eH0 st) g2) else (mm_jn (fun (_u : Unit) => fX12_plan_L458 (B + 66) (nI n) (nI q) (lN l) (lN u) (fun (g194 : mm_H) => q' (lN l) (lN u) g194) mm_F (0 : Int32) g2) (fun (q176 : Unit → Option (Int64 × mm_H)) => if 0 < (lg_cmp (lN l) (eL st)) then (q176 ()) else (if ¬ (lg_cmp (lN l) (eL st)) = 0 then (q' (eL st) (eH0 st) g2) else (if (lg_cmp (lN u) (eH0 st)) ≤ 0 then (q' (eL st) (eH0 st) g2) else (q176 ())))))) = q' (eL st) (eH0 st) g2) → ∃ g3, (∀ q' : Int64 → Int64 → mm_H → Option (Int64 × mm_H), (if (if okP am rm q n t = true then (1 : Int32) else 0) = 0 then (q' (eL st) (eH0 st) g2) else (mm_jn (fun (_u : Unit) => fX12_plan_L458 (B + 66) (nI n) (nI q) (lN l) (lN u) (fun (g194 : mm_H) => q' (lN l) (lN u) g194) mm_F (0 : Int32) g2) (fun (q176 : Unit → Option (Int64 × mm_H)) => if 0 < (lg_cmp (lN l) (eL st)) then (q176 ()) else (if ¬ (lg_cmp (lN l) (eL st)) = 0 then (q' (eL st) (eH0 st) g2) else (if (lg_cmp (lN u) (eH0 st)) ≤ 0 then (q' (eL st) (eH0 st) g2) else (q176 ())))))) = q' (eL st') (eH0 st') g3) ∧ mX B (fun x _ => x = B + 128) g2 g3 ∧ mm_j g3 = mm_j g2 ∧ (∀ x k, x ≠ B + 128 → mm_i g3 x k = mm_i g2 x k) ∧ cH B g3 n q st' := fun h1 h2 => by
      rw [h1]; exact ⟨g2, h2, mX.rf S2.1, rfl, fun _ _ _ => rfl, C2⟩
    cases hok : okP am rm q n t with
    | false =>
      rw [hok] at stay hSt
      exact stay (by rw [hst, hSt, Bool.false_and, if_neg (by decide)]) (fun q' => if_pos (if_neg (by decide)))
    | true =>
      rw [hok] at stay hSt
      rw [Bool.true_and] at hSt
      by_cases hb : bet st l u = true
      · have hs' : st' = some (l, u, t) := by rw [hst, hSt, if_pos hb]
        have hC : cH B c3 n q (some (l, u, t)) := fun a c u' e' => by
          obtain ⟨rfl, e''⟩ := Prod.mk.inj (Option.some.inj e')
          obtain ⟨rfl, rfl⟩ := Prod.mk.inj e''
          refine ⟨⟨l9, u9⟩, fun i hi => ?_⟩
          rw [s6 i (Nat.zero_le _) hi, s4 _ _ (by omega)]
        refine ⟨c3, fun q' => ?_, s2, s3, s4, by rw [hs']; exact hC⟩
        rw [if_neg (by rw [if_pos rfl]; decide), p_jn, hs']
        have hgo : fX12_plan_L458 (B + 66) (nI n) (nI q) (lN l) (lN u) (fun (g194 : mm_H) => q' (lN l) (lN u) g194) mm_F (0 : Int32) g2 = q' (eL (some (l, u, t))) (eH0 (some (l, u, t))) c3 := s1 _
        cases st with
        | none => rw [if_pos (show 0 < lg_cmp (lN l) (eL none) from (lg_cmp_gt _ _).mpr (m1_le (show l < 2 ^ 62 by omega)).2)]; exact hgo
        | some s =>
          obtain ⟨a, c, t'⟩ := s
          obtain ⟨⟨b1, b2⟩, -⟩ := C a c t' rfl
          have hb' : (decide (a < l) || (decide (a = l) && decide (c < u))) = true := hb
          rw [show eL (some (a, c, t')) = lN a from rfl, show eH0 (some (a, c, t')) = lN c from rfl]
          by_cases w1 : a < l
          · rw [if_pos ((lg_cmp_gt _ _).mpr ((lN_ltB (by omega) (by omega)).mpr w1))]; exact hgo
          · rw [decide_eq_false w1, Bool.false_or, Bool.and_eq_true, decide_eq_true_eq, decide_eq_true_eq] at hb'
            rw [if_neg (fun z => w1 ((lN_ltB (by omega) (by omega)).mp ((lg_cmp_gt _ _).mp z))), if_neg (not_not_intro (q_eqr hb'.1.symm)), if_neg (q_nle hb'.2 (by omega))]; exact hgo
      · refine stay (by rw [hst, hSt, if_neg hb]) fun q' => ?_
        rw [if_neg (by rw [if_pos rfl]; decide), p_jn]
        cases st with
        | none => exact absurd rfl hb
        | some s =>
          obtain ⟨a, c, t'⟩ := s
          obtain ⟨⟨b1, b2⟩, -⟩ := C a c t' rfl
          have hb' : ¬ (decide (a < l) || (decide (a = l) && decide (c < u))) = true := hb
          rw [Bool.or_eq_true, Bool.and_eq_true, decide_eq_true_eq, decide_eq_true_eq, decide_eq_true_eq] at hb'
          rw [show eL (some (a, c, t')) = lN a from rfl, show eH0 (some (a, c, t')) = lN c from rfl]
          have w1 : ¬ a < l := fun z => hb' (Or.inl z)
          rw [if_neg (fun z => w1 ((lN_ltB (by omega) (by omega)).mp ((lg_cmp_gt _ _).mp z)))]
          by_cases w2 : a = l
          · rw [if_neg (not_not_intro (q_eqr w2.symm)), if_pos (q_le (show u ≤ c by omega) (by omega))]
          · rw [if_pos (q_neq (fun z => w2 z.symm) (by omega) (by omega))]
  have S3 := e2.S S2
  have D3 : ∀ i, i < n → mm_i g3 (B + 131) i = nI (pD (q + 1) n t i) := fun i hi => by rw [e4 _ _ (by omega)]; exact D2 i hi
  obtain ⟨g4, r1, r2, r3, r4, -, r6⟩ := y_wa_L512 (b2 := nI n) (b4 := eL st') (b6 := eH0 st') q4 n t mm_F g3 n5 (by unfold mm_F; omega) S3 ht D3
  refine ⟨g4, fun K self => ?_, (x2.tr (e2.up fun a k _ z => Or.inl z)).tr (r2.up fun a k _ z => Or.inr (Or.inl z)), ?_, fun hlt i hi => r6 hlt i hi, ?_⟩
  · rw [nI_0] at k1
    rw [← hst]
    unfold fX12_plan_L243_b
    rw [if_neg (show ¬ (1 : Int32) = 0 by decide), k1, m1', ← hl, ← hu, f1]
    refine (jn_eq3 (eL st') (eH0 st') g3 e1).trans ?_
    rw [p_lt, r1]
  · exact Q2.cg (fun x k h1 h2 => (r4 x k h2).trans (e4 x k h1)) (fun x k _ => by rw [r3, e3])
  · rw [← hst]
    exact e5.cg fun k => ⟨r4 _ _ (by omega), r4 _ _ (by omega)⟩
theorem y_ways (hlo : ∀ i w, lo i w ≤ 1000000000) (hhi : ∀ i w, hi i w ≤ 1000000000) (ham : ∀ i, am i ≤ 100000) : ∀ (e t fuel : Nat) (g : mm_H) (st : Option (Nat × Nat × Nat)), t + (e + 1) = (q + 1) ^ n → e + 1 < fuel → mS B g → yWs B g n q am rm lo hi → dgs B g n q t → cH B g n q st → ∃ g', (∀ K, fX12_plan_L243 (B + 66) (nI n) (nI q) K fuel (eL st) (eH0 st) 1 g = K (eL (fr (pS am rm lo hi q n) (e + 1) t st)) (eH0 (fr (pS am rm lo hi q n) (e + 1) t st)) g') ∧ mX B (wG B) g g' ∧ yWs B g' n q am rm lo hi ∧ cH B g' n q (fr (pS am rm lo hi q n) (e + 1) t st) := by
  intro e
  induction e with
  | zero =>
    intro t fuel g st ht hf S Q D C
    obtain ⟨f, rfl⟩ : ∃ f, fuel = f + 1 := ⟨fuel - 1, by omega⟩
    obtain ⟨f, rfl⟩ : ∃ u, f = u + 1 := ⟨f - 1, by omega⟩
    obtain ⟨g', p1, p2, p3, p4, p5⟩ := y_way hlo hhi ham S Q D C (show t < (q + 1) ^ n by omega)
    refine ⟨g', fun K => ?_, p2, p3, p5⟩
    refine (p1 K _).trans ?_
    rw [if_neg (show ¬ t + 1 < (q + 1) ^ n by omega)]
    show fX12_plan_L243_b _ _ _ _ _ _ _ _ _ = _
    unfold fX12_plan_L243_b
    rw [if_pos rfl]
    rfl
  | succ e ih =>
    intro t fuel g st ht hf S Q D C
    obtain ⟨f, rfl⟩ : ∃ f, fuel = f + 1 := ⟨fuel - 1, by omega⟩
    obtain ⟨g1, p1, p2, p3, p4, p5⟩ := y_way hlo hhi ham S Q D C (show t < (q + 1) ^ n by omega)
    obtain ⟨g', q1, q2, q3, q4⟩ := ih (t + 1) f g1 _ (by omega) (by omega) (p2.S S) p3 (p4 (by omega)) p5
    refine ⟨g', fun K => ?_, p2.tr q2, q3, q4⟩
    refine (p1 K _).trans ?_
    rw [if_pos (show t + 1 < (q + 1) ^ n by omega)]
    exact q1 K
theorem y_wa_L586 {b4 b6 : Int64} {b3 : Int32} (n5 : n ≤ 5) : ∀ (e i fuel : Nat) (g : mm_H), i + e = n → e < fuel → mS B g → ∃ g', (∀ K, fX12_plan_L586 (B + 66) (nI n) b3 b4 b6 K fuel (nI i) g = K g') ∧ mX B (fun x _ => x = B + 127) g g' ∧ mm_j g' = mm_j g ∧ (∀ x k, x ≠ B + 127 → mm_i g' x k = mm_i g x k) ∧ (∀ u, u < i → mm_i g' (B + 127) u = mm_i g (B + 127) u) ∧ ∀ u, i ≤ u → u < n → mm_i g' (B + 127) u = mm_i g (B + 130) u := by
  intro e
  induction e with
  | zero =>
    intro i fuel g hi hf S
    obtain ⟨f, rfl⟩ : ∃ f, fuel = f + 1 := ⟨fuel - 1, by omega⟩
    refine ⟨g, fun K => ?_, mX.rf S.1, rfl, fun _ _ _ => rfl, fun _ _ => rfl, fun u h1 h2 => by omega⟩
    show fX12_plan_L586_b _ _ _ _ _ _ _ _ _ = _
    unfold fX12_plan_L586_b
    rw [if_pos (nI_le (show n ≤ i by omega) (by omega))]
  | succ e ih =>
    intro i fuel g hi hf S
    obtain ⟨f, rfl⟩ : ∃ f, fuel = f + 1 := ⟨fuel - 1, by omega⟩
    have hi2 : i < n := by omega
    have hqi := fun (β : Type) (z : Option β) => q_ckx (show i < 5 by omega) (by decide) z
    have hci := nI_clamp (n := i) (by omega)
    obtain ⟨g1, e1⟩ : ∃ g', g' = mm_setI g (B + 127) i (mm_i g (B + 130) i) := ⟨_, rfl⟩
    have x1 : mX B (fun x _ => x = B + 127) g g1 := by rw [e1]; exact (mX.rf (W := fun x _ => x = B + 127) S.1).I (Or.inl rfl)
    have i1 : ∀ x k, x ≠ B + 127 → mm_i g1 x k = mm_i g x k := fun x k hx => by rw [e1, i_I_ne hx]
    obtain ⟨g', q1, q2, q3, q4', q5, q6⟩ := ih (i + 1) f g1 (by omega) (by omega) (x1.S S)
    refine ⟨g', fun K => ?_, x1.tr q2, q3.trans (by rw [e1]; rfl), fun x k hx => (q4' x k hx).trans (i1 x k hx), fun u hu => ?_, fun u h1 h2 => ?_⟩
    · rw [← q1 K]
      show fX12_plan_L586_b _ _ _ _ _ _ _ _ _ = _
      unfold fX12_plan_L586_b
      simp only [hci]
      rw [if_neg (nI_ge hi2 (by omega)), q_ck (sk66 S), sr66_95 S, p_rf, q_ck (sk130 S), sn130 S, hqi, sr66_92 S, p_rf, q_ck (sk127 S), sn127 S, hqi, ← e1, p_lt, p_lt, nI_1]
    · rw [q5 u (by omega), e1, i_I, if_neg (fun z => by omega)]
    · by_cases c : u = i
      · rw [c, q5 i (by omega), e1, i_I_eq]
      · rw [q6 u (by omega) h2, i1 _ _ (by omega)]
end PJ
