/-! the plan: hopes and ways of the class, on -/
section PE
variable {B : Nat} {h g g' : mm_H} {n q : Nat} {am rm hp : Nat → Nat} {lo hi : Nat → Nat → Nat}
theorem div_child {b p w : Nat} (hw : w < b) {e : Nat} {t : Nat} (h1 : (p * b + w) * b ^ e ≤ t) (h2 : t < (p * b + w) * b ^ e + b ^ e) : t / b ^ e = p * b + w := by
  have hb : 0 < b ^ e := Nat.pow_pos (by omega)
  refine (Nat.div_eq_iff hb).mpr ⟨?_, ?_⟩ <;> omega
theorem x_mx (S : mS B g) {k : Nat} (hk : k < 5) (h5 : mm_i g (B + 37) 5 = nI q) (hq4 : q ≤ 4) {a : Nat → Nat} (ha : ∀ w, w < q → mm_j g (B + 42) (k * 5 + w) = lN (a w)) (ha9 : ∀ w, a w ≤ 1000000000) (K : Int64 → mm_H → Option (Unit × mm_H)) : ∀ (e w fuel v : Nat), w + e = q → e < fuel → v ≤ 1000000000 → fX9_findBest_L54 (B + 37) (nI k) K fuel (lN v) (nI w) g = K (lN (mxF a e w v)) g := by
  intro e
  induction e with
  | zero =>
    intro w fuel v hw hf hv
    obtain ⟨f, rfl⟩ : ∃ f, fuel = f + 1 := ⟨fuel - 1, by omega⟩
    show fX9_findBest_L54_b _ _ _ _ _ _ _ = _
    unfold fX9_findBest_L54_b
    rw [q_ck (sk37 S), h5, if_pos (nI_le (show q ≤ w by omega) (by omega))]
    rfl
  | succ e ih =>
    intro w fuel v hw hf hv
    obtain ⟨f, rfl⟩ : ∃ f, fuel = f + 1 := ⟨fuel - 1, by omega⟩
    have hidx : nI k * (5 : Int32) + nI w = nI (k * 5 + w) := by rw [show (5 : Int32) = nI 5 by decide +kernel, nI_mul, nI_add]
    have hq2 := fun (β : Type) (z : Option β) => q_ckx (show k * 5 + w < 25 by omega) (by decide) z
    have hc2 := nI_clamp (n := k * 5 + w) (by omega)
    have hw9 := ha9 w
    show fX9_findBest_L54_b _ _ _ _ _ _ _ = _
    unfold fX9_findBest_L54_b
    simp only [hidx, hc2]
    rw [q_ck (sk37 S), h5, if_neg (nI_ge (show w < q by omega) (by omega)), sr37_6 S, p_rf, q_ck (sk42 S), sn42 S, hq2, ha w (by omega), p_lt, p_lt, nI_1]
    show _ = K (lN (mxF a e (w + 1) (if a w < v then v else a w))) g
    have em : (if lN (a w) < lN v then lN v else lN (a w)) = lN (if a w < v then v else a w) := by
      by_cases c : a w < v
      · rw [if_pos c, if_pos ((lN_ltB (by omega) (by omega)).mpr c)]
      · rw [if_neg c, if_neg (fun z => c ((lN_ltB (by omega) (by omega)).mp z))]
    rw [em]
    exact ih (w + 1) f _ (by omega) (by omega) (by split <;> omega)
/-- the greatest worth of lot k -/
def mxK (lo : Nat → Nat → Nat) (q k : Nat) : Nat := mxF (lo k) q 0 (lo k q)
theorem x_hopes (hlo : ∀ i w, lo i w ≤ 1000000000) (hn : n ≤ 5) (hq4 : q ≤ 4) : ∀ (k fuel : Nat) (g : mm_H), k ≤ n → k < fuel → mS B g → mm_i g (B + 37) 5 = nI q → (∀ i w, i < n → w ≤ q → mm_j g (B + 42) (i * 5 + pwI q w) = lN (lo i w)) → (∀ i, k ≤ i → i ≤ n → mm_j g (B + 44) i = lN (hpN (mxK lo q) n (n - i))) → ∃ g', (∀ K, fX9_findBest_L36 (B + 37) K fuel (nI k - 1) g = K g') ∧ mX B (fun x _ => x = B + 44) g g' ∧ mm_i g' = mm_i g ∧ ∀ i, i ≤ n → mm_j g' (B + 44) i = lN (hpN (mxK lo q) n (n - i)) := by
  have mb : ∀ k, mxK lo q k ≤ 1000000000 := fun k => mxF_b (hlo k) (hlo k q)
  intro k
  induction k with
  | zero =>
    intro fuel g hk hf S h5 hl hh
    obtain ⟨f, rfl⟩ : ∃ f, fuel = f + 1 := ⟨fuel - 1, by omega⟩
    refine ⟨g, fun K => ?_, mX.rf S.1, rfl, fun i hi => hh i (Nat.zero_le _) hi⟩
    show fX9_findBest_L36_b _ _ _ _ _ = _
    unfold fX9_findBest_L36_b
    rw [if_pos (by rw [nI_0]; decide)]
  | succ k ih =>
    intro fuel g hk hf S h5 hl hh
    obtain ⟨f, rfl⟩ : ∃ f, fuel = f + 1 := ⟨fuel - 1, by omega⟩
    have hidx : nI k * (5 : Int32) + (4 : Int32) = nI (k * 5 + 4) := by rw [show (5 : Int32) = nI 5 by decide +kernel, show (4 : Int32) = nI 4 by decide +kernel, nI_mul, nI_add]
    have hq2 := fun (β : Type) (z : Option β) => q_ckx (show k * 5 + 4 < 25 by omega) (by decide) z
    have hc2 := nI_clamp (n := k * 5 + 4) (by omega)
    have hqk := fun (β : Type) (z : Option β) => q_ckx (show k < 6 by omega) (by decide) z
    have hqk1 := fun (β : Type) (z : Option β) => q_ckx (show k + 1 < 6 by omega) (by decide) z
    have hck := nI_clamp (n := k) (by omega)
    have hck1 := nI_clamp (n := k + 1) (by omega)
    have hhere := hl k q (by omega) (Nat.le_refl _)
    rw [(pwI_le hq4 (Nat.le_refl q)).2.1 rfl] at hhere
    have hmx := fun K => x_mx S (show k < 5 by omega) h5 hq4 (a := lo k) (fun w hw => by
      have := hl k w (by omega) (by omega)
      rwa [(pwI_le hq4 (show w ≤ q by omega)).2.2 (by omega)] at this) (hlo k) K q 0 mm_F (lo k q) (by omega) (by unfold mm_F; omega) (hlo k q)
    simp only [nI_0] at hmx
    have hb := hpN_b (n := n) mb (n - (k + 1))
    have er : hpN (mxK lo q) n (n - k) = hpN (mxK lo q) n (n - (k + 1)) + mxK lo q k := by
      rw [show n - k = (n - (k + 1)) + 1 by omega]
      simp only [hpN]
      rw [show n - ((n - (k + 1)) + 1) = k by omega]
    obtain ⟨g1, e1⟩ : ∃ g', g' = mm_setJ g (B + 44) k (lN (hpN (mxK lo q) n (n - k))) := ⟨_, rfl⟩
    have x1 : mX B (fun x _ => x = B + 44) g g1 := by rw [e1]; exact (mX.rf (W := fun x _ => x = B + 44) S.1).J (Or.inl rfl)
    have i1 : mm_i g1 = mm_i g := by rw [e1]; rfl
    obtain ⟨g', q1, q2, q3, q4⟩ := ih f g1 (by omega) (by omega) (x1.S S) (by rw [i1]; exact h5) (fun i w hi hw => by rw [e1, j_J, if_neg (fun z => by omega)]; exact hl i w hi hw) (fun i h1 h2 => by
      rw [e1, j_J]
      by_cases c : i = k
      · rw [if_pos ⟨rfl, c⟩, c]
      · rw [if_neg (fun z => c z.2)]; exact hh i (by omega) h2)
    refine ⟨g', fun K => ?_, x1.tr q2, q3.trans i1, q4⟩
    rw [← q1 K]
    have hcell : mm_j g (B + 44) (nI (k + 1)).toNatClampNeg = lN (hpN (mxK lo q) n (n - (k + 1))) := by rw [hck1]; exact hh (k + 1) (Nat.le_refl _) (by omega)
    have hset : mm_setJ g (B + 44) (nI k).toNatClampNeg (lN (hpN (mxK lo q) n (n - (k + 1))) + lN (mxF (lo k) q 0 (lo k q))) = g1 := by
      rw [hck, e1, lN_add, er]; rfl
    show fX9_findBest_L36_b _ _ _ _ _ = _
    unfold fX9_findBest_L36_b
    rw [nI_pred, if_neg (nI_pos (by omega)), q_ck (sk37 S), sr37_6 S, p_rf, q_ck (sk42 S), hidx, sn42 S, hq2, hc2, hhere, p_lt, hmx, q_ck (sk37 S), sr37_8 S, p_rf, q_ck (sk44 S), sn44 S, nI_1, hqk1, hqk, hcell, hset, p_lt, p_lt, nI_m1]
theorem x_try (hlo : ∀ i w, lo i w ≤ 1000000000) (hhi : ∀ i w, hi i w ≤ 1000000000) (hrm : ∀ j, rm j ≤ 1000000) : ∀ (r k p f : Nat) (st : Option (Nat × Nat × Nat)) (g : mm_H), k + r = n → r < f → mS B g → cP B g n q am lo hi hp → vP B g n q am rm st k p → ∃ g', fgG3 f (B + 37) (nI k) (lN (pG lo (q + 1) k p)) (lN (pG hi (q + 1) k p)) g = some ((), g') ∧ mX B (wP B) g g' ∧ vP B g' n q am rm (fr (pS am rm lo hi q n) ((q + 1) ^ r) (p * (q + 1) ^ r) st) k p := by
  intro r
  induction r with
  | zero =>
    intro k p f st g hk hf S Q V
    obtain ⟨f, rfl⟩ : ∃ u, f = u + 1 := ⟨f - 1, by omega⟩
    obtain rfl : k = n := by omega
    obtain ⟨⟨a1, a1'⟩, ⟨a2, a2'⟩, a3, a4, a5, a6, a7, a8⟩ := id Q
    obtain ⟨⟨v1, v2⟩, v3, v4, v5⟩ := id V
    have hqk := fun (β : Type) (z : Option β) => q_ckx (show k < 6 by omega) (by decide) z
    have hck := nI_clamp (n := k) (by omega)
    have bl := pG_le hlo (b := q + 1) (n := k) (t := p)
    have hfr : fr (pS am rm lo hi q k) ((q + 1) ^ 0) (p * (q + 1) ^ 0) st = pS am rm lo hi q k st p := by
      rw [Nat.pow_zero, Nat.mul_one]; rfl
    rw [hfr]
    have hhope : mm_j g (B + 44) (nI k).toNatClampNeg = lN 0 := by rw [hck, a5 k (Nat.le_refl _), a7]
    have start : ∀ X : Option (Unit × mm_H), (mm_ck (mm_kd g (B + 37) = 10) <| if (mm_i g (B + 37) 2) < nI k then (some ((), g)) else (mm_rf (mm_r g (B + 37) 8) fun u3 => mm_ck (mm_kd g u3 = 15) <| if (nI (mm_n g u3)) ≤ nI k then (some ((), g)) else (mm_ck (mm_ix (nI k) (mm_n g u3)) <| X))) = X := fun X => by
      rw [q_ck (sk37 S), a1, if_neg (nI_nlt (Nat.le_refl _) (by omega)), sr37_8 S, p_rf, q_ck (sk44 S), sn44 S, if_neg (nI_ge (show k < 6 by omega) (by omega)), hqk]
    show ∃ g', fX9_tryWays_g (fgG3 f) (B + 37) (nI k) (lN (pG lo (q + 1) k p)) (lN (pG hi (q + 1) k p)) g = some ((), g') ∧ _
    by_cases c : ∃ a u t, st = some (a, u, t) ∧ pG lo (q + 1) k p < a
    · obtain ⟨a, u, t, rfl, ha⟩ := c
      refine ⟨g, ?_, mX.rf S.1, ?_⟩
      · unfold fX9_tryWays_g
        rw [q_ck (sk37 S), a1, if_neg (nI_nlt (Nat.le_refl _) (by omega)), sr37_8 S, p_rf, q_ck (sk44 S), sn44 S, if_neg (nI_ge (show k < 6 by omega) (by omega)), hqk, hhope, lN_add, Nat.add_zero, v1, if_neg]
        rw [lg_cmp_ge]
        have b9 := (v5 a u t rfl).1.1
        show ¬ lN a ≤ lN (pG lo (q + 1) k p)
        rw [lN_le2 (by omega) (by omega)]; omega
      · rw [pS_low ha]; exact V
    · obtain ⟨g', p1, p2, p3⟩ := x_leaf S Q hlo hhi V
      refine ⟨g', ?_, p2, p3⟩
      have hge : 0 ≤ lg_cmp (lN (pG lo (q + 1) k p)) (eL st) := by
        rw [lg_cmp_ge]
        cases st with
        | none => exact (m1_le (by omega)).1
        | some s =>
          obtain ⟨a, u, t⟩ := s
          have b9 := (v5 a u t rfl).1.1
          show lN a ≤ lN (pG lo (q + 1) k p)
          rw [lN_le2 (by omega) (by omega)]
          exact Nat.not_lt.mp fun z => c ⟨a, u, t, rfl, z⟩
      unfold fX9_tryWays_g
      rw [q_ck (sk37 S), a1, if_neg (nI_nlt (Nat.le_refl _) (by omega)), sr37_8 S, p_rf, q_ck (sk44 S), sn44 S, if_neg (nI_ge (show k < 6 by omega) (by omega)), hqk, hhope, lN_add, Nat.add_zero, v1, if_pos hge, if_neg (not_not_intro rfl), p1, p_cl]
  | succ r ih =>
    intro k p f st g hk hf S Q V
    obtain ⟨f, rfl⟩ : ∃ u, f = u + 1 := ⟨f - 1, by omega⟩
    obtain ⟨⟨a1, a1'⟩, ⟨a2, a2'⟩, a3, a4, a5, a6, a7, a8⟩ := id Q
    obtain ⟨⟨v1, v2⟩, v3, v4, v5⟩ := id V
    have hk5 : k < n := by omega
    have hqk := fun (β : Type) (z : Option β) => q_ckx (show k < 6 by omega) (by decide) z
    have hqk5 := fun (β : Type) (z : Option β) => q_ckx (show k < 5 by omega) (by decide) z
    have hck := nI_clamp (n := k) (by omega)
    have bl := pG_le hlo (b := q + 1) (n := k) (t := p)
    have hhope : mm_j g (B + 44) (nI k).toNatClampNeg = lN (hp k) := by rw [hck, a5 k (by omega)]
    have hp9 := a6 k
    have hpos : 0 < (q + 1) ^ r := Nat.pow_pos (by omega)
    have hpos1 : 0 < (q + 1) ^ (r + 1) := Nat.pow_pos (by omega)
    show ∃ g', fX9_tryWays_g (fgG3 f) (B + 37) (nI k) (lN (pG lo (q + 1) k p)) (lN (pG hi (q + 1) k p)) g = some ((), g') ∧ _
    by_cases c : ∃ a u t, st = some (a, u, t) ∧ pG lo (q + 1) k p + hp k < a
    · -- nothing better can come
      obtain ⟨a, u, t, rfl, ha⟩ := c
      refine ⟨g, ?_, mX.rf S.1, ?_⟩
      · unfold fX9_tryWays_g
        rw [q_ck (sk37 S), a1, if_neg (nI_nlt (show k ≤ n by omega) (by omega)), sr37_8 S, p_rf, q_ck (sk44 S), sn44 S, if_neg (nI_ge (show k < 6 by omega) (by omega)), hqk, hhope, lN_add, v1, if_neg]
        rw [lg_cmp_ge]
        have b9 := (v5 a u t rfl).1.1
        show ¬ lN a ≤ lN (pG lo (q + 1) k p + hp k)
        rw [lN_le2 (by omega) (by omega)]; omega
      · rw [fr_same fun t' h1 h2 => ?_]
        · exact V
        · have hd : t' / (q + 1) ^ (r + 1) = p := (Nat.div_eq_iff hpos1).mpr (by omega)
          have hh := pG_hope (a := lo) (hp := hp) (b := q + 1) (by omega) (r := r + 1) (k := k) (t := t') (fun i w h1 h2 h3 => a8 i w (by omega) h3)
          rw [hd, show k + (r + 1) = n by omega, a7, Nat.add_zero] at hh
          exact pS_low (by omega)
    -- all ways of lot k
    have hge : 0 ≤ lg_cmp (lN (pG lo (q + 1) k p + hp k)) (eL st) := by
      rw [lg_cmp_ge]
      cases st with
      | none => exact (m1_le (by omega)).1
      | some s =>
        obtain ⟨a, u, t⟩ := s
        have b9 := (v5 a u t rfl).1.1
        show lN a ≤ lN (pG lo (q + 1) k p + hp k)
        rw [lN_le2 (by omega) (by omega)]
        exact Nat.not_lt.mp fun z => c ⟨a, u, t, rfl, z⟩
    -- one way: from a heap with that way told, down and back
    have one : ∀ (w : Nat) (st : Option (Nat × Nat × Nat)) (g : mm_H), w ≤ q → mS B g → cP B g n q am lo hi hp → (mm_j g (B + 37) 11 = eL st ∧ mm_j g (B + 37) 12 = eH st) → (∀ j, j < q → mm_i g (B + 41) j = nI (rm j - pG (pL am j) (q + 1) (k + 1) (p * (q + 1) + w)) ∧ pG (pL am j) (q + 1) (k + 1) (p * (q + 1) + w) ≤ rm j) → (∀ i, i < k → mm_i g (B + 45) i = nI (pwI q (pD (q + 1) k p i))) → mm_i g (B + 45) k = nI (pwI q w) → (∀ a c t, st = some (a, c, t) → (a ≤ 5000000000 ∧ c ≤ 5000000000) ∧ ∀ i, i < n → mm_i g (B + 46) i = nI (pwI q (pD (q + 1) n t i))) → ∃ g', fgG3 f (B + 37) (nI (k + 1)) (lN (pG lo (q + 1) k p + lo k w)) (lN (pG hi (q + 1) k p + hi k w)) g = some ((), g') ∧ mX B (wP B) g g' ∧ vP B g' n q am rm (fr (pS am rm lo hi q n) ((q + 1) ^ r) ((p * (q + 1) + w) * (q + 1) ^ r) st) (k + 1) (p * (q + 1) + w) := by
      intro w st g hw S Q h1 h2 h3 h4 h5
      obtain ⟨g', p1, p2, p3⟩ := ih (k + 1) (p * (q + 1) + w) f st g (by omega) (by omega) S Q ⟨h1, h2, fun i hi => by
        rw [pD_child (by omega)]
        by_cases e : i = k
        · rw [if_pos e, e]; exact h4
        · rw [if_neg e]; exact h3 i (by omega), h5⟩
      rw [pG_child (by omega), pG_child (by omega)] at p1
      exact ⟨g', p1, p2, p3⟩
    have tr0 : ∀ w i, w ≤ q → i < k → pD (q + 1) (k + 1) (p * (q + 1) + w) i = pD (q + 1) k p i := fun w i hw hi => by rw [pD_child (by omega), if_neg (by omega)]
    -- the ships
    have ships : ∀ (e w fuel : Nat) (st : Option (Nat × Nat × Nat)) (g : mm_H), w + e = q → e < fuel → mS B g → cP B g n q am lo hi hp → vP B g n q am rm st k p → ∃ g', (∀ K, fX9_tryWays_L53 (fgG3 f) (B + 37) (nI k) (lN (pG lo (q + 1) k p)) (lN (pG hi (q + 1) k p)) K fuel (nI w) g = K g') ∧ mX B (wP B) g g' ∧ vP B g' n q am rm (fr (pS am rm lo hi q n) (e * (q + 1) ^ r) ((p * (q + 1) + w) * (q + 1) ^ r) st) k p := by
      intro e
      induction e with
      | zero =>
        intro w fuel st g hw hf S Q V
        obtain ⟨u, rfl⟩ : ∃ u, fuel = u + 1 := ⟨fuel - 1, by omega⟩
        refine ⟨g, fun K => ?_, mX.rf S.1, ?_⟩
        · show fX9_tryWays_L53_b _ _ _ _ _ _ _ _ _ = _
          unfold fX9_tryWays_L53_b
          rw [q_ck (sk37 S), Q.2.1.1, if_pos (nI_le (show q ≤ w by omega) (by omega))]
        · rw [Nat.zero_mul]; exact V
      | succ e ihe =>
        intro w fuel st g hw hf S Q V
        obtain ⟨u, rfl⟩ : ∃ u, fuel = u + 1 := ⟨fuel - 1, by omega⟩
        obtain ⟨⟨a1, a1'⟩, ⟨a2, a2'⟩, a3, a4, a5, a6, a7, a8⟩ := id Q
        obtain ⟨⟨v1, v2⟩, v3, v4, v5⟩ := id V
        have hwq : w < q := by omega
        have rm9 := hrm w
        have hqw := fun (β : Type) (z : Option β) => q_ckx (show w < 4 by omega) (by decide) z
        have hcw := nI_clamp (n := w) (by omega)
        obtain ⟨m1, m2⟩ := a3 k hk5
        obtain ⟨r1, r2⟩ := v3 w hwq
        obtain ⟨Lw, hLw⟩ : ∃ L, L = pG (pL am w) (q + 1) k p := ⟨_, rfl⟩
        rw [← hLw] at r1 r2
        have hsplit : fr (pS am rm lo hi q n) ((e + 1) * (q + 1) ^ r) ((p * (q + 1) + w) * (q + 1) ^ r) st = fr (pS am rm lo hi q n) (e * (q + 1) ^ r) ((p * (q + 1) + (w + 1)) * (q + 1) ^ r) (fr (pS am rm lo hi q n) ((q + 1) ^ r) ((p * (q + 1) + w) * (q + 1) ^ r) st) := by
          rw [Nat.succ_mul, Nat.add_comm, fr_add]
          congr 1
          rw [← Nat.succ_mul]; rfl
        rw [hsplit]
        have hidx : nI k * (5 : Int32) + nI w = nI (k * 5 + w) := by rw [show (5 : Int32) = nI 5 by decide +kernel, nI_mul, nI_add]
        have hq2 := fun (β : Type) (z : Option β) => q_ckx (show k * 5 + w < 25 by omega) (by decide) z
        have hc2 := nI_clamp (n := k * 5 + w) (by omega)
        have ldc : ∀ j, pG (pL am j) (q + 1) (k + 1) (p * (q + 1) + w) = pG (pL am j) (q + 1) k p + if w = j then am k else 0 := fun j => by
          rw [pG_child (by omega)]; rfl
        by_cases cf : rm w - Lw < am k
        · -- no room
          have hfr : fr (pS am rm lo hi q n) ((q + 1) ^ r) ((p * (q + 1) + w) * (q + 1) ^ r) st = st := fr_same fun t' h1 h2 => pS_no (by
            have hd := div_child (show w < q + 1 by omega) h1 h2
            have hpf := pG_pref (a := pL am w) (b := q + 1) (r := r) (k := k + 1) (t := t')
            rw [hd, ldc w, if_pos rfl, show k + 1 + r = n by omega, ← hLw] at hpf
            cases z : okP am rm q n t' with
            | false => rfl
            | true =>
              have := okP_iff.mp z w hwq
              omega)
          rw [hfr]
          obtain ⟨g', q1, q2, q3⟩ := ihe (w + 1) u st g (by omega) (by omega) S Q V
          refine ⟨g', fun K => ?_, q2, q3⟩
          rw [← q1 K]
          show fX9_tryWays_L53_b _ _ _ _ _ _ _ _ _ = _
          unfold fX9_tryWays_L53_b
          simp only [hck, hcw]
          rw [q_ck (sk37 S), a2, if_neg (nI_ge hwq (by omega)), sr37_1 S, p_rf, q_ck (sk39 S), sn39 S, hqk5, sr37_4 S, p_rf, q_ck (sk41 S), sn41 S, hqw, r1, m1]
          refine (jn_eq g (fun q' => if_pos (nI_lt cf (by omega)))).trans ?_
          rw [p_lt, nI_1]
        · -- on board, and back
          obtain ⟨g1, e1⟩ : ∃ g', g' = mm_setI g (B + 41) w (nI (rm w - Lw - am k)) := ⟨_, rfl⟩
          obtain ⟨g2, e2⟩ : ∃ g', g' = mm_setI g1 (B + 45) k (nI w) := ⟨_, rfl⟩
          have S1 : mS B g1 := by rw [e1]; exact S
          have S2 : mS B g2 := by rw [e2]; exact S1
          have x2 : mX B (wP B) g g2 := by rw [e2, e1]; exact ((mX.rf (W := wP B) S.1).I (Or.inl (Or.inl rfl))).I (Or.inl (Or.inr (Or.inl rfl)))
          have Q2 := Q.up x2
          have j2 : mm_j g2 = mm_j g := by rw [e2, e1]; rfl
          have cw := (pwI_le a2' (show w ≤ q by omega)).2.2 (by omega)
          obtain ⟨g3, p1, p2, ⟨u1, u2, u3, u4⟩⟩ := one w st g2 (by omega) S2 Q2 (by rw [j2]; exact ⟨v1, v2⟩) (fun j hj => by
            rw [ldc j, e2, i_I_ne (by omega), e1, i_I]
            by_cases ej : w = j
            · rw [if_pos ej, if_pos ⟨rfl, ej.symm⟩, ← ej, ← hLw]
              exact ⟨by rw [Nat.sub_sub], by omega⟩
            · rw [if_neg ej, if_neg (fun z => ej z.2.symm), Nat.add_zero]; exact v3 j hj) (fun i hi => by
            rw [e2, i_I, if_neg (fun z => by omega), e1, i_I_ne (by omega)]; exact v4 i hi) (by rw [e2, i_I_eq, cw]) (fun a c' t e' => by
            obtain ⟨b1, b2⟩ := v5 a c' t e'
            refine ⟨b1, fun i hi => ?_⟩
            rw [e2, i_I_ne (by omega), e1, i_I_ne (by omega)]; exact b2 i hi)
          have S3 := p2.S S2
          have x3 := x2.tr p2
          have Q3 := Q.up x3
          obtain ⟨w1, w2⟩ := u2 w hwq
          rw [ldc w, if_pos rfl, ← hLw] at w1 w2
          obtain ⟨m1', -⟩ := Q3.2.2.1 k hk5
          obtain ⟨g4, e4⟩ : ∃ g', g' = mm_setI g3 (B + 41) w (nI (rm w - Lw)) := ⟨_, rfl⟩
          have S4 : mS B g4 := by rw [e4]; exact S3
          have x4 : mX B (wP B) g g4 := by rw [e4]; exact x3.I (Or.inl (Or.inl rfl))
          have Q4 := Q.up x4
          have V4 : vP B g4 n q am rm (fr (pS am rm lo hi q n) ((q + 1) ^ r) ((p * (q + 1) + w) * (q + 1) ^ r) st) k p := by
            refine ⟨by rw [e4]; exact u1, fun j hj => ?_, fun i hi => ?_, fun a c' t e' => ?_⟩
            · obtain ⟨y1, y2⟩ := u2 j hj
              rw [ldc j] at y1 y2
              rw [e4, i_I]
              by_cases ej : w = j
              · rw [if_pos ⟨rfl, ej.symm⟩, ← ej, ← hLw]; exact ⟨rfl, r2⟩
              · rw [if_neg (fun z => ej z.2.symm)]
                rw [if_neg ej, Nat.add_zero] at y1 y2
                exact ⟨y1, y2⟩
            · rw [e4, i_I_ne (by omega), u3 i (by omega), tr0 w i (by omega) hi]
            · obtain ⟨b1, b2⟩ := u4 a c' t e'
              refine ⟨b1, fun i hi => ?_⟩
              rw [e4, i_I_ne (by omega)]; exact b2 i hi
          obtain ⟨g', q1, q2, q3⟩ := ihe (w + 1) u _ g4 (by omega) (by omega) S4 Q4 V4
          refine ⟨g', fun K => ?_, x4.tr q2, q3⟩
          rw [← q1 K]
          have lw : mm_j g2 (B + 42) (k * 5 + w) = lN (lo k w) := by
            have := (Q2.2.2.2.1 k w hk5 (by omega)).1
            rwa [cw] at this
          have hw' : mm_j g2 (B + 43) (k * 5 + w) = lN (hi k w) := by
            have := (Q2.2.2.2.1 k w hk5 (by omega)).2
            rwa [cw] at this
          show fX9_tryWays_L53_b _ _ _ _ _ _ _ _ _ = _
          unfold fX9_tryWays_L53_b
          simp only [hck, hcw, hidx, hc2]
          rw [q_ck (sk37 S), a2, if_neg (nI_ge hwq (by omega)), sr37_1 S, p_rf, q_ck (sk39 S), sn39 S, hqk5, sr37_4 S, p_rf, q_ck (sk41 S), sn41 S, hqw, r1, m1]
          refine (jn_eq g4 (fun q' => ?_)).trans ?_
          · rw [if_neg (nI_nlt (Nat.not_lt.mp cf) (by omega)), hqw, hqk5, hqw, nI_sub (Nat.not_lt.mp cf), ← e1, p_lt, sr37_9 S1, p_rf, q_ck (sk45 S1), sn45 S1, hqk5, ← e2, p_lt, sr37_6 S2, p_rf, q_ck (sk42 S2), sn42 S2, hq2, sr37_7 S2, p_rf, q_ck (sk43 S2), sn43 S2, hq2, nI_1, lw, hw', lN_add, lN_add, p1, p_cl, q_ck (sk37 S3), sr37_4 S3, p_rf, q_ck (sk41 S3), sn41 S3, hqw, sr37_1 S3, p_rf, q_ck (sk39 S3), sn39 S3, hqk5, hqw, w1, m1', nI_add, show rm w - (Lw + am k) + am k = rm w - Lw by omega, ← e4, p_lt]
          · rw [p_lt, nI_1]
    obtain ⟨g1, k1, y1, V1⟩ := ships q 0 mm_F st g (by omega) (by unfold mm_F; omega) S Q V
    simp only [nI_0] at k1
    have S1 := y1.S S
    have Q1 := Q.up y1
    obtain ⟨⟨z1, z2⟩, z3, z4, z5⟩ := id V1
    -- here
    obtain ⟨g2, e2⟩ : ∃ g', g' = mm_setI g1 (B + 45) k 4 := ⟨_, rfl⟩
    have S2 : mS B g2 := by rw [e2]; exact S1
    have x2 : mX B (wP B) g g2 := by rw [e2]; exact y1.I (Or.inl (Or.inr (Or.inl rfl)))
    have Q2 := Q.up x2
    have j2 : mm_j g2 = mm_j g1 := by rw [e2]; rfl
    have cq := (pwI_le a2' (Nat.le_refl q)).2.1 rfl
    have ldq : ∀ j, j < q → pG (pL am j) (q + 1) (k + 1) (p * (q + 1) + q) = pG (pL am j) (q + 1) k p := fun j hj => by
      rw [pG_child (by omega)]
      show _ + (if q = j then am k else 0) = _
      rw [if_neg (by omega), Nat.add_zero]
    obtain ⟨g3, p1, p2, ⟨u1, u2, u3, u4⟩⟩ := one q _ g2 (Nat.le_refl _) S2 Q2 (by rw [j2]; exact ⟨z1, z2⟩) (fun j hj => by rw [ldq j hj, e2, i_I_ne (by omega)]; exact z3 j hj) (fun i hi => by rw [e2, i_I, if_neg (fun z => by omega)]; exact z4 i hi) (by rw [e2, i_I_eq, cq]; decide +kernel) (fun a c' t e' => by
      obtain ⟨b1, b2⟩ := z5 a c' t e'
      exact ⟨b1, fun i hi => by rw [e2, i_I_ne (by omega)]; exact b2 i hi⟩)
    have hall : fr (pS am rm lo hi q n) ((q + 1) ^ (r + 1)) (p * (q + 1) ^ (r + 1)) st = fr (pS am rm lo hi q n) ((q + 1) ^ r) ((p * (q + 1) + q) * (q + 1) ^ r) (fr (pS am rm lo hi q n) (q * (q + 1) ^ r) ((p * (q + 1) + 0) * (q + 1) ^ r) st) := by
      rw [show (q + 1) ^ (r + 1) = q * (q + 1) ^ r + (q + 1) ^ r by rw [Nat.pow_succ', Nat.succ_mul], fr_add]
      congr 1
      · rw [Nat.add_mul, Nat.mul_add, Nat.mul_assoc, Nat.succ_mul, Nat.mul_add]
      · congr 1
        show p * (q * (q + 1) ^ r + (q + 1) ^ r) = (p * (q + 1)) * (q + 1) ^ r
        rw [Nat.mul_assoc, Nat.succ_mul]
    rw [hall]
    refine ⟨g3, ?_, x2.tr p2, u1, fun j hj => by rw [← ldq j hj]; exact u2 j hj, fun i hi => by rw [u3 i (by omega), tr0 q i (Nat.le_refl _) hi], u4⟩
    have hidx : nI k * (5 : Int32) + (4 : Int32) = nI (k * 5 + 4) := by rw [show (5 : Int32) = nI 5 by decide +kernel, show (4 : Int32) = nI 4 by decide +kernel, nI_mul, nI_add]
    have hq2 := fun (β : Type) (z : Option β) => q_ckx (show k * 5 + 4 < 25 by omega) (by decide) z
    have hc2 := nI_clamp (n := k * 5 + 4) (by omega)
    obtain ⟨lw, hw'⟩ := Q2.2.2.2.1 k q hk5 (Nat.le_refl _)
    rw [cq] at lw hw'
    have hkn : ¬ nI k = nI n := fun z => by
      have := (nI_eq (by omega) (by omega)).mp z
      omega
    unfold fX9_tryWays_g
    rw [q_ck (sk37 S), a1, if_neg (nI_nlt (show k ≤ n by omega) (by omega)), sr37_8 S, p_rf, q_ck (sk44 S), sn44 S, if_neg (nI_ge (show k < 6 by omega) (by omega)), hqk, hhope, lN_add, v1, if_pos hge, if_pos hkn, k1, q_ck (sk37 S1), sr37_9 S1, p_rf, q_ck (sk45 S1), sn45 S1, hqk5, hck, ← e2, p_lt, sr37_6 S2, p_rf, q_ck (sk42 S2), sn42 S2, hidx, hq2, sr37_7 S2, p_rf, q_ck (sk43 S2), sn43 S2, hq2, hc2, nI_1, lw, hw', lN_add, lN_add, p1, p_cl]
end PE
