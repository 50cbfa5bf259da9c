/-! the plan: the reference's prices -/
def yQ (B : Nat) (g : mm_H) (nn n q : Nat) (am : Nat → Nat) (pl ph : Nat → Nat → Nat) : Prop := (mm_i g (B + 66) 77 = nI nn ∧ nn ≤ 200) ∧ (n ≤ 5 ∧ q ≤ 4) ∧ (0 ≤ mm_i g (B + 66) 1 ∧ mm_i g (B + 66) 1 ≤ 3999) ∧ (∀ i, i < n → ∃ l, l < 200 ∧ mm_i g (B + 130) i = nI l ∧ (mm_i g (B + 75) l = nI (am i) ∧ am i ≤ 100000) ∧ (0 ≤ mm_i g (B + 74) l ∧ mm_i g (B + 74) l ≤ 7) ∧ ∀ w, w ≤ q → (prF g B nn 123 (if w = q then 8 else mm_i g (B + 117) (mm_i g (B + 129) w).toNatClampNeg) (mm_i g (B + 74) l) (mm_i g (B + 66) 1) = nI (pl i w) ∧ pl i w ≤ 9999) ∧ prF g B nn 124 (if w = q then 8 else mm_i g (B + 117) (mm_i g (B + 129) w).toNatClampNeg) (mm_i g (B + 74) l) (mm_i g (B + 66) 1) = nI (ph i w) ∧ ph i w ≤ 9999) ∧ ∀ w, w < q → ∃ s, s < 20 ∧ mm_i g (B + 129) w = nI s ∧ 0 ≤ mm_i g (B + 117) s ∧ mm_i g (B + 117) s ≤ 7
section PH
variable {B : Nat} {h g g' : mm_H} {nn n q : Nat} {am rm : Nat → Nat} {lo hi pl ph : Nat → Nat → Nat}
theorem yQ.cg (Q : yQ B g nn n q am pl ph) (e : ∀ x k, x ≠ B + 131 → mm_i g' x k = mm_i g x k) : yQ B g' nn n q am pl ph := by
  obtain ⟨a1, a2, a3, a4, a5⟩ := Q
  have ep : ∀ c t k d, (c = 123 ∨ c = 124) → prF g' B nn c t k d = prF g B nn c t k d := fun c t k d hc => by
    have : yNe g' B t k d = yNe g B t k d := by
      funext j; unfold yNe; rw [e _ _ (by omega), e _ _ (by omega), e _ _ (by omega)]
    unfold prF
    rw [this]
    cases lastF (yNe g B t k d) nn with
    | none => rfl
    | some v => exact e _ v (by omega)
  refine ⟨by rw [e _ _ (by omega)]; exact a1, a2, by rw [e _ _ (by omega)]; exact a3, fun i hi => ?_, fun w hw => ?_⟩
  · obtain ⟨l, l1, l2, l3, l4, l5⟩ := a4 i hi
    refine ⟨l, l1, by rw [e _ _ (by omega)]; exact l2, by rw [e _ _ (by omega)]; exact l3, by rw [e _ _ (by omega)]; exact l4, fun w hw => ?_⟩
    have et : (if w = q then (8 : Int32) else mm_i g' (B + 117) (mm_i g' (B + 129) w).toNatClampNeg) = (if w = q then 8 else mm_i g (B + 117) (mm_i g (B + 129) w).toNatClampNeg) := by
      rw [e _ _ (show B + 129 ≠ B + 131 by omega), e _ _ (show B + 117 ≠ B + 131 by omega)]
    rw [et, e _ _ (show B + 74 ≠ B + 131 by omega), e _ _ (show B + 66 ≠ B + 131 by omega), ep _ _ _ _ (Or.inl rfl), ep _ _ _ _ (Or.inr rfl)]
    exact l5 w hw
  · obtain ⟨s, s1, s2, s3⟩ := a5 w hw
    exact ⟨s, s1, by rw [e _ _ (by omega)]; exact s2, by rw [e _ _ (by omega)]; exact s3⟩
theorem y_pr_L89 {i : Nat} {b2 : Int32} (hi : i < n) : ∀ (e w fuel : Nat) (g : mm_H), w + e = q + 1 → e < fuel → mS B g → yQ B g nn n q am pl ph → ∃ g', (∀ K, fX12_plan_L89 (B + 66) b2 (nI q) (nI i) K fuel (nI w) g = K g') ∧ mX B (fun x _ => x = B + 134 ∨ x = B + 135) g g' ∧ mm_i g' = mm_i g ∧ (∀ u, w ≤ u → u ≤ q → mm_j g' (B + 134) (5 * i + u) = lN (am i * pl i u) ∧ mm_j g' (B + 135) (5 * i + u) = lN (am i * ph i u)) ∧ ∀ p, (p < 5 * i + w ∨ 5 * i + q < p) → mm_j g' (B + 134) p = mm_j g (B + 134) p ∧ mm_j g' (B + 135) p = mm_j g (B + 135) p := by
  intro e
  induction e with
  | zero =>
    intro w fuel g hw hf S Q
    obtain ⟨f, rfl⟩ : ∃ f, fuel = f + 1 := ⟨fuel - 1, by omega⟩
    have q4 := Q.2.1.2
    refine ⟨g, fun K => ?_, mX.rf S.1, rfl, fun u h1 h2 => by omega, fun _ _ => ⟨rfl, rfl⟩⟩
    show fX12_plan_L89_b _ _ _ _ _ _ _ _ = _
    unfold fX12_plan_L89_b
    rw [if_pos (nI_lt (show q < w by omega) (by omega))]
  | succ e ih =>
    intro w fuel g hw hf S Q
    obtain ⟨f, rfl⟩ : ∃ f, fuel = f + 1 := ⟨fuel - 1, by omega⟩
    obtain ⟨⟨a1, a1'⟩, ⟨n5, q4⟩, a3, a4, a5⟩ := id Q
    have hwq : w ≤ q := by omega
    obtain ⟨l, l1, l2, ⟨l3, l3'⟩, l4, l5⟩ := a4 i hi
    obtain ⟨⟨p1, p2⟩, p3, p4⟩ := l5 w hwq
    have hqi := fun (β : Type) (z : Option β) => q_ckx (show i < 5 by omega) (by decide) z
    have hqw := fun (β : Type) (z : Option β) (hc : w < 4) => q_ckx hc (by decide) z
    have hql := fun (β : Type) (z : Option β) => q_ckx l1 (by decide) z
    have hci := nI_clamp (n := i) (by omega)
    have hcw := nI_clamp (n := w) (by omega)
    have hcl := nI_clamp (n := l) (by omega)
    have hidx : (5 : Int32) * nI i + nI w = nI (5 * i + w) := by rw [show (5 : Int32) = nI 5 by decide +kernel, nI_mul, nI_add]
    have hq2 := fun (β : Type) (z : Option β) => q_ckx (show 5 * i + w < 25 by omega) (by decide) z
    have hc2 := nI_clamp (n := 5 * i + w) (by omega)
    obtain ⟨tw, htw⟩ : ∃ tw : Int32, tw = (if w = q then 8 else mm_i g (B + 117) (mm_i g (B + 129) w).toNatClampNeg) := ⟨_, rfl⟩
    rw [← htw] at p1 p3
    have ht8 : 0 ≤ tw ∧ tw ≤ 8 := by
      rw [htw]
      by_cases c : w = q
      · rw [if_pos c]; decide
      · rw [if_neg c]
        obtain ⟨s, s1, s2, s3, s4⟩ := a5 w (by omega)
        rw [s2, nI_clamp (by omega)]
        exact ⟨s3, Int32.le_trans s4 (by decide)⟩
    have hp0 : fX12_price (B + 66) tw (mm_i g (B + 74) l) (mm_i g (B + 66) 1) 0 g = some (nI (pl i w), g) := by
      have := y_price S a1 a1' (w := 0) ht8 l4 a3 (by decide)
      rw [if_pos rfl, p1] at this
      exact this
    obtain ⟨g1, e1⟩ : ∃ g', g' = mm_setJ g (B + 134) (5 * i + w) (lN (am i * pl i w)) := ⟨_, rfl⟩
    have S1 : mS B g1 := by rw [e1]; exact S
    have i1 : mm_i g1 = mm_i g := by rw [e1]; rfl
    have hp1 : fX12_price (B + 66) tw (mm_i g (B + 74) l) (mm_i g (B + 66) 1) 1 g1 = some (nI (ph i w), g1) := by
      have := y_price S1 (by rw [i1]; exact a1) a1' (w := 1) ht8 l4 a3 (by decide)
      have ep : prF g1 B nn 124 tw (mm_i g (B + 74) l) (mm_i g (B + 66) 1) = nI (ph i w) := by
        rw [← p3, e1]; rfl
      rw [if_neg (by decide), ep] at this
      exact this
    obtain ⟨g2, e2⟩ : ∃ g', g' = mm_setJ g1 (B + 135) (5 * i + w) (lN (am i * ph i w)) := ⟨_, rfl⟩
    have x2 : mX B (fun x _ => x = B + 134 ∨ x = B + 135) g g2 := by rw [e2, e1]; exact ((mX.rf (W := fun x _ => x = B + 134 ∨ x = B + 135) S.1).J (Or.inl (Or.inl rfl))).J (Or.inl (Or.inr rfl))
    have i2 : mm_i g2 = mm_i g := by rw [e2]; exact i1
    obtain ⟨g', q1, q2, q3, q4', q5⟩ := ih (w + 1) f g2 (by omega) (by omega) (x2.S S) (Q.cg fun x k _ => by rw [i2])
    refine ⟨g', fun K => ?_, x2.tr q2, q3.trans i2, fun u h1 h2 => ?_, fun p hp => ?_⟩
    · rw [← q1 K]
      show fX12_plan_L89_b _ _ _ _ _ _ _ _ = _
      unfold fX12_plan_L89_b
      simp only [hci, hcw, hidx, hc2]
      rw [if_neg (nI_nlt hwq (by omega))]
      refine (jn_eq tw (fun q' => ?_)).trans ?_
      · rw [htw]
        by_cases c : w = q
        · rw [if_neg (not_not_intro (by rw [c])), if_pos c]
        · obtain ⟨s, s1, s2, s3, s4⟩ := a5 w (by omega)
          have hqs := fun (β : Type) (z : Option β) => q_ckx s1 (by decide) z
          rw [if_pos (fun z => c ((nI_eq (by omega) (by omega)).mp z)), if_neg c, q_ck (sk66 S), sr66_94 S, p_rf, q_ck (sk129 S), sn129 S, hqw _ _ (by omega), sr66_78 S, p_rf, q_ck (sk117 S), s2, sn117 S, hqs]
      · rw [q_ck (sk66 S), sr66_95 S, p_rf, q_ck (sk130 S), sn130 S, hqi, sr66_12 S, p_rf, q_ck (sk75 S), l2, sn75 S, hql, hqi, sr66_11 S, p_rf, q_ck (sk74 S), sn74 S, hql, hcl, hp0, p_cl, sr66_99 S, p_rf, q_ck (sk134 S), sn134 S, hq2, l3, nI_l (by omega), nI_l (by omega), lN_mul, ← e1, p_lt, q_ck (sk66 S1), sr66_95 S1, p_rf, q_ck (sk130 S1), sn130 S1, hqi, sr66_12 S1, p_rf, q_ck (sk75 S1), i1, l2, sn75 S1, hql, hqi, sr66_11 S1, p_rf, q_ck (sk74 S1), sn74 S1, hql, hcl, hp1, p_cl, sr66_100 S1, p_rf, q_ck (sk135 S1), sn135 S1, hq2, l3, nI_l (by omega), nI_l (by omega), lN_mul, ← e2, p_lt, p_lt, nI_1]
    · by_cases c : u = w
      · subst c
        obtain ⟨b1, b2⟩ := q5 (5 * i + u) (by omega)
        rw [b1, b2, e2, j_J, if_neg (fun z => by omega), j_J, if_pos ⟨rfl, rfl⟩, e1, j_J, if_pos ⟨rfl, rfl⟩]
        exact ⟨rfl, rfl⟩
      · exact q4' u (by omega) h2
    · obtain ⟨b1, b2⟩ := q5 p (by omega)
      rw [b1, b2, e2, j_J, if_neg (fun z => by omega), j_J, if_neg (fun z => by omega), e1, j_J, if_neg (fun z => by omega), j_J, if_neg (fun z => by omega)]
      exact ⟨rfl, rfl⟩
theorem y_pr_L72 : ∀ (e i fuel : Nat) (g : mm_H), i + e = n → e < fuel → mS B g → yQ B g nn n q am pl ph → ∃ g', (∀ K, fX12_plan_L72 (B + 66) (nI n) (nI q) K fuel (nI i) g = K g') ∧ mX B (fun x _ => x = B + 131 ∨ x = B + 134 ∨ x = B + 135) g g' ∧ (∀ x k, x ≠ B + 131 → mm_i g' x k = mm_i g x k) ∧ (∀ u, u < i → mm_i g' (B + 131) u = mm_i g (B + 131) u) ∧ (∀ u, i ≤ u → u < n → mm_i g' (B + 131) u = 0) ∧ (∀ u w, i ≤ u → u < n → w ≤ q → mm_j g' (B + 134) (5 * u + w) = lN (am u * pl u w) ∧ mm_j g' (B + 135) (5 * u + w) = lN (am u * ph u w)) ∧ ∀ p, p < 5 * i → mm_j g' (B + 134) p = mm_j g (B + 134) p ∧ mm_j g' (B + 135) p = mm_j g (B + 135) p := by
  intro e
  induction e with
  | zero =>
    intro i fuel g hi hf S Q
    obtain ⟨f, rfl⟩ : ∃ f, fuel = f + 1 := ⟨fuel - 1, by omega⟩
    have n5 := Q.2.1.1
    refine ⟨g, fun K => ?_, mX.rf S.1, fun _ _ _ => rfl, fun _ _ => rfl, fun u h1 h2 => by omega, fun u w h1 h2 => by omega, fun _ _ => ⟨rfl, rfl⟩⟩
    show fX12_plan_L72_b _ _ _ _ _ _ _ = _
    unfold fX12_plan_L72_b
    rw [if_pos (nI_le (show n ≤ i by omega) (by omega))]
  | succ e ih =>
    intro i fuel g hi hf S Q
    obtain ⟨f, rfl⟩ : ∃ f, fuel = f + 1 := ⟨fuel - 1, by omega⟩
    obtain ⟨n5, q4⟩ := Q.2.1
    have hi2 : i < n := by omega
    have hqi := fun (β : Type) (z : Option β) => q_ckx (show i < 5 by omega) (by decide) z
    have hci := nI_clamp (n := i) (by omega)
    obtain ⟨g1, e1⟩ : ∃ g', g' = mm_setI g (B + 131) i 0 := ⟨_, rfl⟩
    have x1 : mX B (fun x _ => x = B + 131 ∨ x = B + 134 ∨ x = B + 135) g g1 := by rw [e1]; exact (mX.rf (W := fun x _ => x = B + 131 ∨ x = B + 134 ∨ x = B + 135) S.1).I (Or.inl (Or.inl rfl))
    have i1 : ∀ x k, x ≠ B + 131 → mm_i g1 x k = mm_i g x k := fun x k hx => by rw [e1, i_I_ne hx]
    obtain ⟨g2, k1, k2, k3, k4, k5⟩ := y_pr_L89 (b2 := nI n) hi2 (q + 1) 0 mm_F g1 (by omega) (by unfold mm_F; omega) (x1.S S) (Q.cg i1)
    have x2 := x1.tr (k2.up fun a k _ z => (Or.inr z : a = B + 131 ∨ a = B + 134 ∨ a = B + 135))
    have i2 : ∀ x k, x ≠ B + 131 → mm_i g2 x k = mm_i g x k := fun x k hx => by rw [k3]; exact i1 x k hx
    obtain ⟨g', q1, q2, q3, q4', q5, q6, q7⟩ := ih (i + 1) f g2 (by omega) (by omega) (x2.S S) (Q.cg i2)
    refine ⟨g', fun K => ?_, x2.tr q2, fun x k hx => (q3 x k hx).trans (i2 x k hx), fun u hu => ?_, fun u h1 h2 => ?_, fun u w h1 h2 h3 => ?_, fun p hp => ?_⟩
    · rw [← q1 K]
      rw [nI_0] at k1
      show fX12_plan_L72_b _ _ _ _ _ _ _ = _
      unfold fX12_plan_L72_b
      rw [if_neg (nI_ge hi2 (by omega)), q_ck (sk66 S), sr66_96 S, p_rf, q_ck (sk131 S), sn131 S, hqi, hci, ← e1, p_lt, k1, p_lt, nI_1]
    · rw [q4' u (by omega), k3, e1, i_I, if_neg (fun z => by omega)]
    · by_cases c : u = i
      · rw [c, q4' i (by omega), k3, e1, i_I_eq]
      · exact q5 u (by omega) h2
    · by_cases c : u = i
      · subst c
        obtain ⟨b1, b2⟩ := q7 (5 * u + w) (by omega)
        rw [b1, b2]
        exact k4 w (Nat.zero_le _) h3
      · exact q6 u w (by omega) h2 h3
    · obtain ⟨b1, b2⟩ := q7 p (by omega)
      obtain ⟨b3, b4⟩ := k5 p (by omega)
      rw [b1, b2, b3, b4, e1]
      exact ⟨rfl, rfl⟩
end PH
