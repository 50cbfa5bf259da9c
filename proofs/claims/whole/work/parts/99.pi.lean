/-! the plan: the reference tries all ways -/
def yWs (B : Nat) (g : mm_H) (n q : Nat) (am rm : Nat → Nat) (lo hi : Nat → Nat → Nat) : Prop := (n ≤ 5 ∧ q ≤ 4) ∧ (∀ i, i < n → ∃ l, l < 200 ∧ mm_i g (B + 130) i = nI l ∧ mm_i g (B + 75) l = nI (am i) ∧ am i ≤ 100000) ∧ (∀ j, j < q → ∃ s, s < 20 ∧ mm_i g (B + 129) j = nI s ∧ mm_i g (B + 120) s = nI (rm j) ∧ rm j ≤ 1000000) ∧ ∀ i w, i < n → w ≤ q → mm_j g (B + 134) (5 * i + w) = lN (lo i w) ∧ mm_j g (B + 135) (5 * i + w) = lN (hi i w)
def dgs (B : Nat) (g : mm_H) (n q t : Nat) : Prop := ∀ i, i < n → mm_i g (B + 131) i = nI (pD (q + 1) n t i)
def cH (B : Nat) (g : mm_H) (n q : Nat) (st : Option (Nat × Nat × Nat)) : Prop := ∀ a c u, st = some (a, c, u) → (a ≤ 5000000000 ∧ c ≤ 5000000000) ∧ ∀ i, i < n → mm_i g (B + 128) i = if pD (q + 1) n u i = q then -1 else mm_i g (B + 129) (pD (q + 1) n u i)
def eH0 : Option (Nat × Nat × Nat) → Int64
  | none => 0
  | some (_, c, _) => lN c
theorem jn_eq3 {α γ δ β : Type} {k : α → γ → δ → Option β} {b : (α → γ → δ → Option β) → Option β} (v : α) (w : γ) (x : δ) (h : ∀ q : α → γ → δ → Option β, b q = q v w x) : mm_jn k b = k v w x := h k
section PI
variable {B : Nat} {h g g' : mm_H} {nn n q t : Nat} {am rm : Nat → Nat} {lo hi pl ph : Nat → Nat → Nat}
theorem yWs.cg (Q : yWs B g n q am rm lo hi) (e1 : ∀ x k, x ≠ B + 128 → x ≠ B + 131 → mm_i g' x k = mm_i g x k) (e2 : ∀ x k, x = B + 134 ∨ x = B + 135 → mm_j g' x k = mm_j g x k) : yWs B g' n q am rm lo hi := by
  obtain ⟨a1, a2, a3, a4⟩ := Q
  refine ⟨a1, fun i hi => ?_, fun j hj => ?_, fun i w hi hw => ?_⟩
  · obtain ⟨l, l1, l2, l3, l4⟩ := a2 i hi
    exact ⟨l, l1, by rw [e1 _ _ (by omega) (by omega)]; exact l2, by rw [e1 _ _ (by omega) (by omega)]; exact l3, l4⟩
  · obtain ⟨s, s1, s2, s3, s4⟩ := a3 j hj
    exact ⟨s, s1, by rw [e1 _ _ (by omega) (by omega)]; exact s2, by rw [e1 _ _ (by omega) (by omega)]; exact s3, s4⟩
  · rw [e2 _ _ (Or.inl rfl), e2 _ _ (Or.inr rfl)]; exact a4 i w hi hw
theorem y_wa_L260 {b2 b3 b13 : Int32} {b4 b6 b9 b11 : Int64} : ∀ (e w fuel : Nat) (g : mm_H), w + e = 5 → e < fuel → mS B g → ∃ g', (∀ K, fX12_plan_L260 (B + 66) b2 b3 b4 b6 b9 b11 b13 K fuel (nI w) g = K g') ∧ mX B (fun x _ => x = B + 136) g g' ∧ mm_i g' = mm_i g ∧ (∀ u, u < w → mm_j g' (B + 136) u = mm_j g (B + 136) u) ∧ ∀ u, w ≤ u → u < 5 → mm_j g' (B + 136) u = lN 0 := by
  intro e
  induction e with
  | zero =>
    intro w fuel g hw hf S
    obtain ⟨f, rfl⟩ : ∃ f, fuel = f + 1 := ⟨fuel - 1, by omega⟩
    refine ⟨g, fun K => ?_, mX.rf S.1, rfl, fun _ _ => rfl, fun u h1 h2 => by omega⟩
    show fX12_plan_L260_b _ _ _ _ _ _ _ _ _ _ _ _ = _
    unfold fX12_plan_L260_b
    rw [if_pos (show (4 : Int32) < nI w from nI_lt (a := 4) (by omega) (by omega))]
  | succ e ih =>
    intro w fuel g hw hf S
    obtain ⟨f, rfl⟩ : ∃ f, fuel = f + 1 := ⟨fuel - 1, by omega⟩
    have hq := fun (β : Type) (z : Option β) => q_ckx (show w < 5 by omega) (by decide) z
    have hcl := nI_clamp (n := w) (by omega)
    obtain ⟨g1, e1⟩ : ∃ g', g' = mm_setJ g (B + 136) w 0 := ⟨_, rfl⟩
    have x1 : mX B (fun x _ => x = B + 136) g g1 := by rw [e1]; exact (mX.rf (W := fun x _ => x = B + 136) S.1).J (Or.inl rfl)
    have i1 : mm_i g1 = mm_i g := by rw [e1]; rfl
    obtain ⟨g', q1, q2, q3, q4, q5⟩ := ih (w + 1) f g1 (by omega) (by omega) (x1.S S)
    refine ⟨g', fun K => ?_, x1.tr q2, q3.trans i1, fun u hu => ?_, fun u h1 h2 => ?_⟩
    · rw [← q1 K]
      show fX12_plan_L260_b _ _ _ _ _ _ _ _ _ _ _ _ = _
      unfold fX12_plan_L260_b
      rw [if_neg (show ¬ (4 : Int32) < nI w from nI_nlt (a := 4) (by omega) (by omega)), q_ck (sk66 S), sr66_101 S, p_rf, q_ck (sk136 S), sn136 S, hq, hcl, ← e1, p_lt, p_lt, nI_1]
    · rw [q4 u (by omega), e1, j_J, if_neg (fun z => by omega)]
    · by_cases c : u = w
      · rw [c, q4 w (by omega), e1, j_J, if_pos ⟨rfl, rfl⟩]; decide +kernel
      · exact q5 u (by omega) h2
theorem y_wa_L283 {b13 : Int32} {b4 b6 : Int64} : ∀ (e i fuel : Nat) (g : mm_H), i + e = n → e < fuel → mS B g → yWs B g n q am rm lo hi → dgs B g n q t → (∀ w, w ≤ q → mm_j g (B + 136) w = lN (sumN (fun k => pL am w k (pD (q + 1) n t k)) i)) → ∃ g', (∀ K, fX12_plan_L283 (B + 66) (nI n) (nI q) b4 b6 b13 K fuel (lN (sumN (fun k => lo k (pD (q + 1) n t k)) i)) (lN (sumN (fun k => hi k (pD (q + 1) n t k)) i)) (nI i) g = K (lN (sumN (fun k => lo k (pD (q + 1) n t k)) n)) (lN (sumN (fun k => hi k (pD (q + 1) n t k)) n)) g') ∧ mX B (fun x _ => x = B + 136) g g' ∧ mm_i g' = mm_i g ∧ ∀ w, w ≤ q → mm_j g' (B + 136) w = lN (sumN (fun k => pL am w k (pD (q + 1) n t k)) n) := by
  intro e
  induction e with
  | zero =>
    intro i fuel g hi' hf S Q D hw
    obtain ⟨f, rfl⟩ : ∃ f, fuel = f + 1 := ⟨fuel - 1, by omega⟩
    obtain rfl : i = n := by omega
    have n5 := Q.1.1
    refine ⟨g, fun K => ?_, mX.rf S.1, rfl, hw⟩
    show fX12_plan_L283_b _ _ _ _ _ _ _ _ _ _ _ _ = _
    unfold fX12_plan_L283_b
    rw [if_pos (Int32.le_refl _)]
  | succ e ih =>
    intro i fuel g hi' hf S Q D hw
    obtain ⟨f, rfl⟩ : ∃ f, fuel = f + 1 := ⟨fuel - 1, by omega⟩
    obtain ⟨⟨n5, q4⟩, a2, a3, a4⟩ := id Q
    have hi2 : i < n := by omega
    obtain ⟨d, hd⟩ : ∃ d, d = pD (q + 1) n t i := ⟨_, rfl⟩
    have hdq : d < q + 1 := by rw [hd]; exact pD_lt (by omega)
    have hDi := D i hi2
    rw [← hd] at hDi
    obtain ⟨l, l1, l2, l3, l4⟩ := a2 i hi2
    obtain ⟨v1, v2⟩ := a4 i d hi2 (by omega)
    have hqi := fun (β : Type) (z : Option β) => q_ckx (show i < 5 by omega) (by decide) z
    have hqd := fun (β : Type) (z : Option β) => q_ckx (show d < 5 by omega) (by decide) z
    have hql := fun (β : Type) (z : Option β) => q_ckx l1 (by decide) z
    have hci := nI_clamp (n := i) (by omega)
    have hcd := nI_clamp (n := d) (by omega)
    have hcl := nI_clamp (n := l) (by omega)
    have hidx : (5 : Int32) * nI i + nI d = nI (5 * i + d) := by rw [show (5 : Int32) = nI 5 by decide +kernel, nI_mul, nI_add]
    have hq2 := fun (β : Type) (z : Option β) => q_ckx (show 5 * i + d < 25 by omega) (by decide) z
    have hc2 := nI_clamp (n := 5 * i + d) (by omega)
    have hwd := hw d (by omega)
    have es : ∀ F : Nat → Nat → Nat, sumN (fun k => F k (pD (q + 1) n t k)) (i + 1) = sumN (fun k => F k (pD (q + 1) n t k)) i + F i d := fun F => by rw [sumN_s, hd]
    obtain ⟨g1, e1⟩ : ∃ g', g' = mm_setJ g (B + 136) d (lN (sumN (fun k => pL am d k (pD (q + 1) n t k)) i + am i)) := ⟨_, rfl⟩
    have x1 : mX B (fun x _ => x = B + 136) g g1 := by rw [e1]; exact (mX.rf (W := fun x _ => x = B + 136) S.1).J (Or.inl rfl)
    have i1 : mm_i g1 = mm_i g := by rw [e1]; rfl
    obtain ⟨g', q1, q2, q3, q4'⟩ := ih (i + 1) f g1 (by omega) (by omega) (x1.S S) (Q.cg (fun x k _ _ => by rw [i1]) (fun x k hx => by rw [e1, j_J, if_neg (fun z => by omega)])) (fun i hi => by rw [i1]; exact D i hi) (fun w hwq => by
      rw [sumN_s, ← hd, e1, j_J]
      show _ = lN (_ + if d = w then am i else 0)
      by_cases c : w = d
      · rw [if_pos ⟨rfl, c⟩, if_pos c.symm, c]
      · rw [if_neg (fun z => c z.2), if_neg (fun z => c z.symm), Nat.add_zero]; exact hw w hwq)
    refine ⟨g', fun K => ?_, x1.tr q2, q3.trans i1, q4'⟩
    rw [← q1 K, es lo, es hi]
    show fX12_plan_L283_b _ _ _ _ _ _ _ _ _ _ _ _ = _
    unfold fX12_plan_L283_b
    simp only [hci]
    rw [if_neg (nI_ge hi2 (by omega)), q_ck (sk66 S), sr66_96 S, p_rf, q_ck (sk131 S), sn131 S, hqi]
    simp only [hDi, hidx, hc2, hcd]
    rw [sr66_99 S, p_rf, q_ck (sk134 S), sn134 S, hq2, v1, lN_add, p_lt, hqi, sr66_100 S, p_rf, q_ck (sk135 S), sn135 S, hq2, v2, lN_add, p_lt, hqi, sr66_101 S, p_rf, q_ck (sk136 S), sn136 S, hqd, sr66_95 S, p_rf, q_ck (sk130 S), sn130 S, hqi, sr66_12 S, p_rf, q_ck (sk75 S), l2, sn75 S, hql, hqd, hcl, l3, hwd, nI_l (by omega), lN_add, ← e1, p_lt, p_lt, nI_1]
theorem y_wa_L370 (S : mS B g) (Q : yWs B g n q am rm lo hi) {ld : Nat → Nat} (hl : ∀ j, j < q → mm_j g (B + 136) j = lN (ld j) ∧ ld j < 2 ^ 62) {b2 : Int32} {b4 b6 b9 b11 : Int64} (K : Int32 → mm_H → Option (Int64 × mm_H)) : ∀ (e j fuel : Nat) (ok : Bool), j + e = q → e < fuel → fX12_plan_L370 (B + 66) b2 (nI q) b4 b6 b9 b11 K fuel (if ok = true then 1 else 0) (nI j) g = K (if (ok && !anyF (fun j => decide (rm j < ld j)) e j) = true then 1 else 0) g := by
  obtain ⟨⟨n5, q4⟩, a2, a3, a4⟩ := Q
  intro e
  induction e with
  | zero =>
    intro j fuel ok hj hf
    obtain ⟨f, rfl⟩ : ∃ f, fuel = f + 1 := ⟨fuel - 1, by omega⟩
    show fX12_plan_L370_b _ _ _ _ _ _ _ _ _ _ _ _ = _
    unfold fX12_plan_L370_b
    rw [if_pos (nI_le (show q ≤ j by omega) (by omega))]
    show _ = K (if (ok && !false) = true then 1 else 0) g
    rw [Bool.not_false, Bool.and_true]
  | succ e ih =>
    intro j fuel ok hj hf
    obtain ⟨f, rfl⟩ : ∃ f, fuel = f + 1 := ⟨fuel - 1, by omega⟩
    have hj2 : j < q := by omega
    obtain ⟨s, s1, s2, s3, s4⟩ := a3 j hj2
    obtain ⟨l1, l2⟩ := hl j hj2
    have hqj := fun (β : Type) (z : Option β) => q_ckx (show j < 4 by omega) (by decide) z
    have hqj5 := fun (β : Type) (z : Option β) => q_ckx (show j < 5 by omega) (by decide) z
    have hqs := fun (β : Type) (z : Option β) => q_ckx s1 (by decide) z
    have hcj := nI_clamp (n := j) (by omega)
    have hcs := nI_clamp (n := s) (by omega)
    show fX12_plan_L370_b _ _ _ _ _ _ _ _ _ _ _ _ = _
    unfold fX12_plan_L370_b
    simp only [hcj]
    rw [if_neg (nI_ge hj2 (by omega))]
    refine (jn_eq (if (ok && !decide (rm j < ld j)) = true then (1 : Int32) else 0) (fun q' => ?_)).trans ?_
    · rw [p_jn]
      cases ok with
      | false => rw [if_neg (show ¬ false = true by decide), if_pos rfl, Bool.false_and, if_neg (by decide)]
      | true =>
        rw [if_pos rfl, if_neg (by decide), q_ck (sk66 S), sr66_101 S, p_rf, q_ck (sk136 S), sn136 S, hqj5, sr66_94 S, p_rf, q_ck (sk129 S), sn129 S, hqj, sr66_81 S, p_rf, q_ck (sk120 S), s2, sn120 S, hqs, hcs, s3, l1, nI_l (by omega), Bool.true_and]
        by_cases c : rm j < ld j
        · rw [if_pos ((lg_cmp_gt _ _).mpr ((lN_ltB (by omega) l2).mpr c)), decide_eq_true c, if_neg (by decide)]
        · rw [if_neg (fun z => c ((lN_ltB (by omega) l2).mp ((lg_cmp_gt _ _).mp z))), decide_eq_false c, if_pos (by decide)]
    · rw [p_lt, nI_1]
      refine (ih (j + 1) f _ (by omega) (by omega)).trans ?_
      show _ = K (if (ok && !(decide (rm j < ld j) || anyF (fun j => decide (rm j < ld j)) e (j + 1))) = true then 1 else 0) g
      rw [Bool.not_or, Bool.and_assoc]
theorem y_wa_L458 {b4 b6 : Int64} (n5 : n ≤ 5) (q4 : q ≤ 4) : ∀ (e i fuel : Nat) (g : mm_H), i + e = n → e < fuel → mS B g → dgs B g n q t → ∃ g', (∀ K, fX12_plan_L458 (B + 66) (nI n) (nI q) b4 b6 K fuel (nI i) g = K g') ∧ mX B (fun x _ => x = B + 128) g g' ∧ mm_j g' = mm_j g ∧ (∀ x k, x ≠ B + 128 → mm_i g' x k = mm_i g x k) ∧ (∀ u, u < i → mm_i g' (B + 128) u = mm_i g (B + 128) u) ∧ ∀ u, i ≤ u → u < n → mm_i g' (B + 128) u = if pD (q + 1) n t u = q then -1 else mm_i g (B + 129) (pD (q + 1) n t u) := by
  intro e
  induction e with
  | zero =>
    intro i fuel g hi hf S D
    obtain ⟨f, rfl⟩ : ∃ f, fuel = f + 1 := ⟨fuel - 1, by omega⟩
    refine ⟨g, fun K => ?_, mX.rf S.1, rfl, fun _ _ _ => rfl, fun _ _ => rfl, fun u h1 h2 => by omega⟩
    show fX12_plan_L458_b _ _ _ _ _ _ _ _ _ = _
    unfold fX12_plan_L458_b
    rw [if_pos (nI_le (show n ≤ i by omega) (by omega))]
  | succ e ih =>
    intro i fuel g hi hf S D
    obtain ⟨f, rfl⟩ : ∃ f, fuel = f + 1 := ⟨fuel - 1, by omega⟩
    have hi2 : i < n := by omega
    obtain ⟨d, hd⟩ : ∃ d, d = pD (q + 1) n t i := ⟨_, rfl⟩
    have hdq : d < q + 1 := by rw [hd]; exact pD_lt (by omega)
    have hDi := D i hi2
    rw [← hd] at hDi
    have hqi := fun (β : Type) (z : Option β) => q_ckx (show i < 5 by omega) (by decide) z
    have hci := nI_clamp (n := i) (by omega)
    have hcd := nI_clamp (n := d) (by omega)
    obtain ⟨v, hv⟩ : ∃ v : Int32, v = (if d = q then -1 else mm_i g (B + 129) d) := ⟨_, rfl⟩
    obtain ⟨g1, e1⟩ : ∃ g', g' = mm_setI g (B + 128) i v := ⟨_, rfl⟩
    have x1 : mX B (fun x _ => x = B + 128) g g1 := by rw [e1]; exact (mX.rf (W := fun x _ => x = B + 128) S.1).I (Or.inl rfl)
    have i1 : ∀ x k, x ≠ B + 128 → mm_i g1 x k = mm_i g x k := fun x k hx => by rw [e1, i_I_ne hx]
    have j1 : mm_j g1 = mm_j g := by rw [e1]; rfl
    obtain ⟨g', q1, q2, q3, q4', q5, q6⟩ := ih (i + 1) f g1 (by omega) (by omega) (x1.S S) (fun i hi => by rw [i1 _ _ (by omega)]; exact D i hi)
    refine ⟨g', fun K => ?_, x1.tr q2, q3.trans j1, fun x k hx => (q4' x k hx).trans (i1 x k hx), fun u hu => ?_, fun u h1 h2 => ?_⟩
    · rw [← q1 K]
      show fX12_plan_L458_b _ _ _ _ _ _ _ _ _ = _
      unfold fX12_plan_L458_b
      simp only [hci]
      rw [if_neg (nI_ge hi2 (by omega)), q_ck (sk66 S), sr66_96 S, p_rf, q_ck (sk131 S), sn131 S, hqi, hDi]
      refine (jn_eq v (fun q' => ?_)).trans ?_
      · rw [hv]
        by_cases c : d = q
        · rw [if_neg (not_not_intro (by rw [c])), if_pos c]
        · have hqd := fun (β : Type) (z : Option β) => q_ckx (show d < 4 by omega) (by decide) z
          rw [if_pos (fun z => c ((nI_eq (by omega) (by omega)).mp z)), if_neg c, hqi, sr66_94 S, p_rf, q_ck (sk129 S), sn129 S, hqd, hcd]
      · rw [sr66_93 S, p_rf, q_ck (sk128 S), sn128 S, hqi, ← e1, p_lt, p_lt, nI_1]
    · rw [q5 u (by omega), e1, i_I, if_neg (fun z => by omega)]
    · by_cases c : u = i
      · rw [c, q5 i (by omega), e1, i_I_eq, hv, hd]
      · rw [q6 u (by omega) h2, i1 _ _ (by omega)]
theorem y_wa_L512 {b2 : Int32} {b4 b6 : Int64} (q4 : q ≤ 4) : ∀ (k p fuel : Nat) (g : mm_H), k ≤ 5 → k + 1 < fuel → mS B g → p < (q + 1) ^ k → (∀ i, i < k → mm_i g (B + 131) i = nI (pD (q + 1) k p i)) → ∃ g', (∀ K, fX12_plan_L512 (B + 66) b2 (nI q) b4 b6 K fuel 0 (nI k - 1) g = K (if p + 1 < (q + 1) ^ k then 1 else 0) g') ∧ mX B (fun x _ => x = B + 131) g g' ∧ mm_j g' = mm_j g ∧ (∀ x k, x ≠ B + 131 → mm_i g' x k = mm_i g x k) ∧ (∀ u, k ≤ u → mm_i g' (B + 131) u = mm_i g (B + 131) u) ∧ (p + 1 < (q + 1) ^ k → ∀ i, i < k → mm_i g' (B + 131) i = nI (pD (q + 1) k (p + 1) i)) := by
  intro k
  induction k with
  | zero =>
    intro p fuel g hk hf S hp D
    obtain ⟨f, rfl⟩ : ∃ f, fuel = f + 1 := ⟨fuel - 1, by omega⟩
    refine ⟨g, fun K => ?_, mX.rf S.1, rfl, fun _ _ _ => rfl, fun _ _ => rfl, fun _ i hi => by omega⟩
    show fX12_plan_L512_b _ _ _ _ _ _ _ _ _ _ = _
    unfold fX12_plan_L512_b
    rw [if_pos (by rw [nI_0]; decide), if_neg (show ¬ p + 1 < (q + 1) ^ 0 by rw [Nat.pow_zero]; omega)]
  | succ k ih =>
    intro p fuel g hk hf S hp D
    obtain ⟨f, rfl⟩ : ∃ f, fuel = f + 1 := ⟨fuel - 1, by omega⟩
    have hqk := fun (β : Type) (z : Option β) => q_ckx (show k < 5 by omega) (by decide) z
    have hck := nI_clamp (n := k) (by omega)
    have hb : 0 < q + 1 := by omega
    have hd : mm_i g (B + 131) k = nI (p % (q + 1)) := by
      have := D k (by omega)
      simp only [pD] at this
      rwa [if_pos trivial] at this
    have hdq : p % (q + 1) < q + 1 := Nat.mod_lt _ hb
    have hpk : p / (q + 1) < (q + 1) ^ k := (Nat.div_lt_iff_lt_mul hb).mpr (by rwa [Nat.pow_succ] at hp)
    have hDk : ∀ i, i < k → mm_i g (B + 131) i = nI (pD (q + 1) k (p / (q + 1)) i) := fun i hi => by
      have := D i (by omega)
      simp only [pD] at this
      rwa [if_neg (by omega)] at this
    have hdm := Nat.div_add_mod p (q + 1)
    obtain ⟨g1, e1⟩ : ∃ g', g' = mm_setI g (B + 131) k (nI (p % (q + 1) + 1)) := ⟨_, rfl⟩
    have S1 : mS B g1 := by rw [e1]; exact S
    have x1 : mX B (fun x _ => x = B + 131) g g1 := by rw [e1]; exact (mX.rf (W := fun x _ => x = B + 131) S.1).I (Or.inl rfl)
    have v1 : mm_i g1 (B + 131) k = nI (p % (q + 1) + 1) := by rw [e1, i_I_eq]
    by_cases c : p % (q + 1) = q
    · -- a place overflows
      obtain ⟨g2, e2⟩ : ∃ g', g' = mm_setI g1 (B + 131) k 0 := ⟨_, rfl⟩
      have x2 : mX B (fun x _ => x = B + 131) g g2 := by rw [e2]; exact x1.I (Or.inl rfl)
      have v2 : ∀ x u, ¬ (x = B + 131 ∧ u = k) → mm_i g2 x u = mm_i g x u := fun x u hx => by rw [e2, i_I, if_neg hx, e1, i_I, if_neg hx]
      obtain ⟨g', q1, q2, q3, q4', q5, q6⟩ := ih (p / (q + 1)) f g2 (by omega) (by omega) (x2.S S) hpk (fun i hi => by rw [v2 _ _ (by omega)]; exact hDk i hi)
      have hiff : p + 1 < (q + 1) ^ (k + 1) ↔ p / (q + 1) + 1 < (q + 1) ^ k := by
        have e : p + 1 = (q + 1) * (p / (q + 1) + 1) := by rw [Nat.mul_add, Nat.mul_one]; omega
        rw [e, Nat.pow_succ', Nat.mul_lt_mul_left hb]
      refine ⟨g', fun K => ?_, x2.tr q2, q3.trans (by rw [e2, e1]; rfl), fun x u hx => (q4' x u hx).trans (v2 x u (fun z => hx z.1)), fun u hu => ?_, fun hlt i hi => ?_⟩
      · have hK : (if p + 1 < (q + 1) ^ (k + 1) then (1 : Int32) else 0) = (if p / (q + 1) + 1 < (q + 1) ^ k then 1 else 0) := by
          by_cases w : p + 1 < (q + 1) ^ (k + 1)
          · rw [if_pos w, if_pos (hiff.mp w)]
          · rw [if_neg w, if_neg (fun z => w (hiff.mpr z))]
        rw [hK, ← q1 K, nI_pred]
        show fX12_plan_L512_b _ _ _ _ _ _ _ _ _ _ = _
        unfold fX12_plan_L512_b
        simp only [hck]
        rw [if_neg (nI_pos (show k < 2 ^ 31 by omega)), if_neg (not_not_intro trivial), q_ck (sk66 S), sr66_96 S, p_rf, q_ck (sk131 S), sn131 S, hqk, hqk, hd, nI_1, ← e1, p_lt, sr66_96 S1, p_rf, q_ck (sk131 S1), sn131 S1, hqk, p_jn, v1, if_pos (nI_lt (show q < p % (q + 1) + 1 by omega) (by omega))]
        dsimp only
        rw [p_jn, if_pos rfl]
        dsimp only
        rw [hqk, ← e2, p_lt, p_lt, nI_m1]
      · rw [q5 u (by omega), v2 _ _ (by omega)]
      · have h1 : (p + 1) / (q + 1) = p / (q + 1) + 1 := by
          have e : p + 1 = (q + 1) * (p / (q + 1) + 1) := by rw [Nat.mul_add, Nat.mul_one]; omega
          rw [e, Nat.mul_div_cancel_left _ hb]
        have h2 : (p + 1) % (q + 1) = 0 := by
          have e : p + 1 = (q + 1) * (p / (q + 1) + 1) := by rw [Nat.mul_add, Nat.mul_one]; omega
          rw [e, Nat.mul_mod_right]
        simp only [pD]
        rw [h1, h2]
        by_cases w : i = k
        · rw [if_pos w, w, q5 k (Nat.le_refl _), e2, i_I_eq, nI_0]
        · rw [if_neg w]; exact q6 (hiff.mp hlt) i (by omega)
    · -- the next digit
      obtain ⟨g2, e2⟩ : ∃ g', g' = mm_setI g1 (B + 131) k (nI (p % (q + 1) + 1)) := ⟨_, rfl⟩
      have x2 : mX B (fun x _ => x = B + 131) g g2 := by rw [e2]; exact x1.I (Or.inl rfl)
      have v2 : ∀ x u, ¬ (x = B + 131 ∧ u = k) → mm_i g2 x u = mm_i g x u := fun x u hx => by rw [e2, i_I, if_neg hx, e1, i_I, if_neg hx]
      have h1 : (p + 1) / (q + 1) = p / (q + 1) := (Nat.div_eq_iff hb).mpr (by rw [Nat.mul_comm] at hdm; omega)
      have h2 : (p + 1) % (q + 1) = p % (q + 1) + 1 := by
        have := Nat.div_add_mod (p + 1) (q + 1)
        rw [h1] at this; omega
      have hlt : p + 1 < (q + 1) ^ (k + 1) := by
        rw [Nat.pow_succ]
        exact (Nat.div_lt_iff_lt_mul hb).mp (by rw [h1]; exact hpk)
      refine ⟨g2, fun K => ?_, x2, by rw [e2, e1]; rfl, fun x u hx => v2 x u (fun z => hx z.1), fun u hu => v2 _ _ (by omega), fun _ i hi => ?_⟩
      · obtain ⟨f, rfl⟩ : ∃ u, f = u + 1 := ⟨f - 1, by omega⟩
        rw [if_pos hlt, nI_pred]
        show fX12_plan_L512_b _ _ _ _ _ _ _ _ _ _ = _
        unfold fX12_plan_L512_b
        simp only [hck]
        rw [if_neg (nI_pos (show k < 2 ^ 31 by omega)), if_neg (not_not_intro trivial), q_ck (sk66 S), sr66_96 S, p_rf, q_ck (sk131 S), sn131 S, hqk, hqk, hd, nI_1, ← e1, p_lt, sr66_96 S1, p_rf, q_ck (sk131 S1), sn131 S1, hqk, p_jn, v1, if_neg (nI_nlt (show p % (q + 1) + 1 ≤ q by omega) (by omega))]
        dsimp only
        rw [p_jn, if_neg (by decide), hqk]
        dsimp only
        rw [hqk, ← e2, p_lt, p_lt]
        show fX12_plan_L512_b _ _ _ _ _ _ _ _ _ _ = _
        unfold fX12_plan_L512_b
        rw [if_pos (show ¬ (1 : Int32) = 0 by decide), ite_self]
      · simp only [pD]
        rw [h1, h2]
        by_cases w : i = k
        · rw [if_pos w, w, e2, i_I_eq]
        · rw [if_neg w, v2 _ _ (by omega)]; exact hDk i (by omega)
end PI
