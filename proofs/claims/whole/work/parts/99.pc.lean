/-! the plan: prices and hopes of the class -/
def pwI (q w : Nat) : Nat := if w = q then 4 else w
def wQ3 (B : Nat) : Nat → Nat → Prop := fun x _ => x = B + 42 ∨ x = B + 43
def mxF (a : Nat → Nat) : Nat → Nat → Nat → Nat
  | 0, _, v => v
  | e + 1, w, v => mxF a e (w + 1) (if a w < v then v else a w)
theorem mxF_le {a : Nat → Nat} : ∀ {e w v : Nat}, v ≤ mxF a e w v ∧ ∀ u, w ≤ u → u < w + e → a u ≤ mxF a e w v := by
  intro e
  induction e with
  | zero => intro w v; exact ⟨Nat.le_refl _, fun u h1 h2 => by omega⟩
  | succ e ih =>
    intro w v
    obtain ⟨h1, h2⟩ := ih (w := w + 1) (v := if a w < v then v else a w)
    have hv : v ≤ (if a w < v then v else a w) ∧ a w ≤ (if a w < v then v else a w) := by split <;> omega
    refine ⟨Nat.le_trans hv.1 h1, fun u h3 h4 => ?_⟩
    by_cases c : u = w
    · subst c; exact Nat.le_trans hv.2 h1
    · exact h2 u (by omega) (by omega)
theorem mxF_b {a : Nat → Nat} {M : Nat} (ha : ∀ w, a w ≤ M) : ∀ {e w v : Nat}, v ≤ M → mxF a e w v ≤ M := by
  intro e
  induction e with
  | zero => intro w v h; exact h
  | succ e ih =>
    intro w v h
    refine ih ?_
    have := ha w
    split <;> omega
def hpN (mx : Nat → Nat) (n : Nat) : Nat → Nat
  | 0 => 0
  | r + 1 => hpN mx n r + mx (n - (r + 1))
theorem hpN_b {mx : Nat → Nat} {n M : Nat} (h : ∀ k, mx k ≤ M) : ∀ r, hpN mx n r ≤ r * M := by
  intro r
  induction r with
  | zero => exact Nat.zero_le _
  | succ r ih =>
    have := h (n - (r + 1))
    simp only [hpN]
    rw [Nat.succ_mul]; omega
theorem lN_ltB {a b : Nat} (ha : a < 2 ^ 62) (hb : b < 2 ^ 62) : lN a < lN b ↔ a < b := by
  rw [Int64.lt_iff_toInt_lt, show (lN a).toInt = (a : Int) from lg_ofNat_toInt (by omega), show (lN b).toInt = (b : Int) from lg_ofNat_toInt (by omega)]
  omega
section PC
variable {B : Nat} {h g g' hx hy : mm_H} {ow ow' : Nat → Nat × Nat} {nl nm ns np nn n q : Nat} {am : Nat → Nat} {lo hi pl ph : Nat → Nat → Nat} {al : Nat → Nat}
theorem x_setPrices (S : mS B g) {k w : Nat} (hk : k < 5) (hw : w < 5) {a : Nat} (ha : mm_i g (B + 39) k = nI a) (ha9 : a ≤ 100000) {u v : Nat} (hu : u ≤ 9999) (hv : v ≤ 9999) : fX9_setPrices (B + 37) (nI k) (nI w) (nI u) (nI v) g = some ((), mm_setJ (mm_setJ g (B + 42) (k * 5 + w) (lN (a * u))) (B + 43) (k * 5 + w) (lN (a * v))) := by
  have hq := fun (β : Type) (z : Option β) => q_ckx hk (by decide) z
  have hcl := nI_clamp (n := k) (by omega)
  have hidx : nI k * (5 : Int32) + nI w = nI (k * 5 + w) := by rw [show (5 : Int32) = nI 5 by decide +kernel, nI_mul, nI_add]
  have hq2 := fun (β : Type) (z : Option β) => q_ckx (show k * 5 + w < 25 by omega) (by decide) z
  have hc2 := nI_clamp (n := k * 5 + w) (by omega)
  obtain ⟨g1, e1⟩ : ∃ g', g' = mm_setJ g (B + 42) (k * 5 + w) (lN (a * u)) := ⟨_, rfl⟩
  have S1 : mS B g1 := by rw [e1]; exact S
  have ha1 : mm_i g1 (B + 39) k = nI a := by rw [e1]; exact ha
  unfold fX9_setPrices
  simp only [hidx, hcl, hc2]
  rw [if_neg (nI_pos (show k < 2 ^ 31 by omega)), if_neg (show ¬ (5 : Int32) ≤ nI k from nI_ge (b := 5) hk (by omega)), if_neg (nI_pos (show w < 2 ^ 31 by omega)), if_neg (show ¬ (5 : Int32) ≤ nI w from nI_ge (b := 5) hw (by omega)), q_ck (sk37 S), sr37_1 S, p_rf, q_ck (sk39 S), sn39 S, hq, sr37_6 S, p_rf, q_ck (sk42 S), sn42 S, hq2, ha, nI_l (by omega), nI_l (by omega), lN_mul, ← e1, p_lt, sr37_1 S1, p_rf, q_ck (sk39 S1), sn39 S1, hq, sr37_7 S1, p_rf, q_ck (sk43 S1), sn43 S1, hq2, ha1, nI_l (by omega), nI_l (by omega), lN_mul, p_lt]
/-- what the telling of prices wants of a heap, and keeps: the int cells alone -/
def tQ (B : Nat) (ow : Nat → Nat × Nat) (g : mm_H) (nl : Nat) (al : Nat → Nat) (nn n q : Nat) (am : Nat → Nat) (pl ph : Nat → Nat → Nat) : Prop := mL B ow g (B + 2) 1 7 nl al ∧ RNe B g ∧ (mm_i g (B + 66) 77 = nI nn ∧ nn ≤ 200) ∧ (mm_i g (B + 37) 2 = nI n ∧ n ≤ 5) ∧ (mm_i g (B + 37) 5 = nI q ∧ q ≤ 4) ∧ (∀ k, k < n → ∃ l, l < nl ∧ mm_i g (B + 38) k = nI l ∧ mm_i g (B + 39) k = nI (am k) ∧ am k ≤ 100000 ∧ ∀ w, w ≤ q → (prF g B nn 123 (if w = q then 8 else mm_i g (B + 24) (mm_i g (B + 40) w).toNatClampNeg) (mm_i g (al l) 0) (mm_i g B 11) = nI (pl k w) ∧ pl k w ≤ 9999) ∧ prF g B nn 124 (if w = q then 8 else mm_i g (B + 24) (mm_i g (B + 40) w).toNatClampNeg) (mm_i g (al l) 0) (mm_i g B 11) = nI (ph k w) ∧ ph k w ≤ 9999) ∧ ∀ w, w < q → ∃ s, s < 20 ∧ mm_i g (B + 40) w = nI s
theorem tQ.cg (Q : tQ B ow g nl al nn n q am pl ph) (x : mX B (wQ3 B) g g') (e : mm_i g' = mm_i g) : tQ B ow g' nl al nn n q am pl ph := by
  obtain ⟨a1, a2, a3, a4, a5, a6, a7⟩ := Q
  have ep : ∀ c t k d, prF g' B nn c t k d = prF g B nn c t k d := fun c t k d => by
    have : yNe g' B t k d = yNe g B t k d := by funext j; unfold yNe; rw [e]
    unfold prF
    rw [this, e]
  refine ⟨a1.up (by omega) x mO.rf ⟨by unfold wQ3; omega, by unfold wQ3; omega⟩ (fun a k v => by have := v.1; unfold wQ3; omega), ?_, by rw [e]; exact a3, by rw [e]; exact a4, by rw [e]; exact a5, ?_, by rw [e]; exact a7⟩
  · unfold RNe at *; rw [e]; exact a2
  · rw [e]
    simp only [ep]
    exact a6
theorem x_tell_L38 {k l : Nat} {kn : Int32} (hk : k < n) : ∀ (e w fuel : Nat) (g : mm_H), w + e = q → e < fuel → mS B g → tQ B ow g nl al nn n q am pl ph → l < nl → mm_i g (B + 38) k = nI l → mm_i g (al l) 0 = kn → ∃ g', (∀ K, fX11_tellPlannerPrices_L38 B (nI k) kn K fuel (nI w) g = K g') ∧ mX B (wQ3 B) g g' ∧ mm_i g' = mm_i g ∧ (∀ u, w ≤ u → u < q → mm_j g' (B + 42) (k * 5 + u) = lN (am k * pl k u) ∧ mm_j g' (B + 43) (k * 5 + u) = lN (am k * ph k u)) ∧ ∀ p, (p < k * 5 + w ∨ k * 5 + q ≤ p) → mm_j g' (B + 42) p = mm_j g (B + 42) p ∧ mm_j g' (B + 43) p = mm_j g (B + 43) p := by
  intro e
  induction e with
  | zero =>
    intro w fuel g hw hf S Q hl h38 hkn
    obtain ⟨f, rfl⟩ : ∃ f, fuel = f + 1 := ⟨fuel - 1, by omega⟩
    obtain ⟨a1, a2, a3, a4, ⟨a5, a5'⟩, a6, a7⟩ := Q
    refine ⟨g, fun K => ?_, mX.rf S.1, rfl, fun u h1 h2 => by omega, fun _ _ => ⟨rfl, rfl⟩⟩
    show fX11_tellPlannerPrices_L38_b _ _ _ _ _ _ _ = _
    unfold fX11_tellPlannerPrices_L38_b
    rw [q_ck (sk0 S), sr0_8 S, p_rf, q_ck (sk37 S), a5, if_pos (nI_le (show q ≤ w by omega) (by omega))]
  | succ e ih =>
    intro w fuel g hw hf S Q hl h38 hkn
    obtain ⟨f, rfl⟩ : ∃ f, fuel = f + 1 := ⟨fuel - 1, by omega⟩
    obtain ⟨a1, a2, ⟨a3, a3'⟩, ⟨a4, a4'⟩, ⟨a5, a5'⟩, a6, a7⟩ := id Q
    have hw2 : w < q := by omega
    obtain ⟨s, s1, s2⟩ := a7 w hw2
    obtain ⟨l', l1, l2, l3, l4, l5⟩ := a6 k hk
    have hll : l' = l := by
      have n9 := a1.1
      exact (nI_eq (by omega) (by omega)).mp (l2.symm.trans h38)
    subst hll
    obtain ⟨⟨p1, p2⟩, p3, p4⟩ := l5 w (by omega)
    rw [if_neg (by omega), s2, nI_clamp (show s < 2 ^ 31 by omega), hkn] at p1 p3
    have hq := fun (β : Type) (z : Option β) => q_ckx (show w < 4 by omega) (by decide) z
    have hcl := nI_clamp (n := w) (by omega)
    have hqs := fun (β : Type) (z : Option β) => q_ckx s1 (by decide) z
    have hcs := nI_clamp (n := s) (by omega)
    have hlow := x_lowPrice S a2 a3 a3' (mm_i g (B + 24) s) kn (mm_i g B 11)
    have hhigh := x_highPrice S a2 a3 a3' (mm_i g (B + 24) s) kn (mm_i g B 11)
    rw [p1] at hlow
    rw [p3] at hhigh
    have hset := x_setPrices S (show k < 5 by omega) (show w < 5 by omega) l3 l4 p2 p4
    obtain ⟨g1, e1⟩ : ∃ g', g' = mm_setJ (mm_setJ g (B + 42) (k * 5 + w) (lN (am k * pl k w))) (B + 43) (k * 5 + w) (lN (am k * ph k w)) := ⟨_, rfl⟩
    rw [← e1] at hset
    have x1 : mX B (wQ3 B) g g1 := by rw [e1]; exact ((mX.rf (W := wQ3 B) S.1).J (Or.inl (Or.inl rfl))).J (Or.inl (Or.inr rfl))
    have i1 : mm_i g1 = mm_i g := by rw [e1]; rfl
    obtain ⟨g', q1, q2, q3, q4, q5⟩ := ih (w + 1) f g1 (by omega) (by omega) (x1.S S) (Q.cg x1 i1) hl (by rw [i1]; exact h38) (by rw [i1]; exact hkn)
    refine ⟨g', fun K => ?_, x1.tr q2, q3.trans i1, fun u h1 h2 => ?_, fun p hp => ?_⟩
    · rw [← q1 K]
      show fX11_tellPlannerPrices_L38_b _ _ _ _ _ _ _ = _
      unfold fX11_tellPlannerPrices_L38_b
      simp only [hcl]
      rw [q_ck (sk0 S), sr0_8 S, p_rf, q_ck (sk37 S), a5, if_neg (nI_ge hw2 (by omega)), sr0_7 S, p_rf, q_ck (sk23 S), sr37_3 S, p_rf, q_ck (sk40 S), sn40 S, hq, sr23_0 S, p_rf, q_ck (sk24 S), s2, sn24 S, hqs, hcs, p_lt, hlow, p_cl, q_ck (sk0 S), sr0_7 S, p_rf, q_ck (sk23 S), hhigh, p_cl, q_ck (sk37 S), hset, p_cl, p_lt, nI_1]
    · by_cases c : u = w
      · subst c
        obtain ⟨b1, b2⟩ := q5 (k * 5 + u) (by omega)
        rw [b1, b2, e1, j_J, if_neg (fun z => by omega), j_J, if_pos ⟨rfl, rfl⟩, j_J, if_pos ⟨rfl, rfl⟩]
        exact ⟨rfl, rfl⟩
      · exact q4 u (by omega) h2
    · obtain ⟨b1, b2⟩ := q5 p (by omega)
      rw [b1, b2, e1, j_J, if_neg (fun z => by omega), j_J, if_neg (fun z => by omega), j_J, if_neg (fun z => by omega), j_J, if_neg (fun z => by omega)]
      exact ⟨rfl, rfl⟩
theorem x_tell : ∀ (e k fuel : Nat) (g : mm_H), k + e = n → e < fuel → mS B g → tQ B ow g nl al nn n q am pl ph → ∃ g', (∀ K, fX11_tellPlannerPrices_L2 B K fuel (nI k) g = K g') ∧ mX B (wQ3 B) g g' ∧ mm_i g' = mm_i g ∧ (∀ p u, k ≤ p → p < n → u ≤ q → mm_j g' (B + 42) (p * 5 + pwI q u) = lN (am p * pl p u) ∧ mm_j g' (B + 43) (p * 5 + pwI q u) = lN (am p * ph p u)) ∧ ∀ p, p < k * 5 → mm_j g' (B + 42) p = mm_j g (B + 42) p ∧ mm_j g' (B + 43) p = mm_j g (B + 43) p := by
  intro e
  induction e with
  | zero =>
    intro k fuel g hk hf S Q
    obtain ⟨f, rfl⟩ : ∃ f, fuel = f + 1 := ⟨fuel - 1, by omega⟩
    obtain ⟨a1, a2, a3, ⟨a4, a4'⟩, a5, a6, a7⟩ := Q
    refine ⟨g, fun K => ?_, mX.rf S.1, rfl, fun p u h1 h2 => by omega, fun _ _ => ⟨rfl, rfl⟩⟩
    show fX11_tellPlannerPrices_L2_b _ _ _ _ _ = _
    unfold fX11_tellPlannerPrices_L2_b
    rw [q_ck (sk0 S), sr0_8 S, p_rf, q_ck (sk37 S), a4, if_pos (nI_le (show n ≤ k by omega) (by omega))]
  | succ e ih =>
    intro k fuel g hk hf S Q
    obtain ⟨f, rfl⟩ : ∃ f, fuel = f + 1 := ⟨fuel - 1, by omega⟩
    obtain ⟨a1, a2, ⟨a3, a3'⟩, ⟨a4, a4'⟩, ⟨a5, a5'⟩, a6, a7⟩ := id Q
    have hk2 : k < n := by omega
    obtain ⟨l, l1, l2, l3, l4, l5⟩ := a6 k hk2
    have l9 := a1.1
    have hq := fun (β : Type) (z : Option β) => q_ckx (show k < 5 by omega) (by decide) z
    have hcl := nI_clamp (n := k) (by omega)
    have hgl := x_get (sk2 S) a1 l1
    have kd7 := (a1.2.2.2 l l1).2
    obtain ⟨g1, p1, p2, p3, p4, p5⟩ := x_tell_L38 (ow := ow) (am := am) (pl := pl) (ph := ph) hk2 q 0 mm_F g (by omega) (by unfold mm_F; omega) S Q l1 l2 rfl
    simp only [nI_0] at p1
    have S1 := p2.S S
    have Q1 := Q.cg p2 p3
    obtain ⟨b1, b2, ⟨b3, b3'⟩, -, -, b6, -⟩ := id Q1
    obtain ⟨⟨r1, r2⟩, r3, r4⟩ := l5 q (Nat.le_refl _)
    rw [if_pos rfl] at r1 r3
    have ep : ∀ c t u d, prF g1 B nn c t u d = prF g B nn c t u d := fun c t u d => by
      have : yNe g1 B t u d = yNe g B t u d := by funext j; unfold yNe; rw [p3]
      unfold prF
      rw [this, p3]
    have hlow : fX10_lowPrice (B + 23) 8 (mm_i g (al l) 0) (mm_i g1 B 11) g1 = some (nI (pl k q), g1) := by rw [x_lowPrice S1 b2 b3 b3', ep, p3, r1]
    have hhigh : fX10_highPrice (B + 23) 8 (mm_i g (al l) 0) (mm_i g1 B 11) g1 = some (nI (ph k q), g1) := by rw [x_highPrice S1 b2 b3 b3', ep, p3, r3]
    have hset := x_setPrices S1 (show k < 5 by omega) (show 4 < 5 by omega) (by rw [p3]; exact l3) l4 r2 r4
    obtain ⟨g2, e2⟩ : ∃ g', g' = mm_setJ (mm_setJ g1 (B + 42) (k * 5 + 4) (lN (am k * pl k q))) (B + 43) (k * 5 + 4) (lN (am k * ph k q)) := ⟨_, rfl⟩
    rw [← e2] at hset
    have x2 : mX B (wQ3 B) g1 g2 := by rw [e2]; exact ((mX.rf (W := wQ3 B) S1.1).J (Or.inl (Or.inl rfl))).J (Or.inl (Or.inr rfl))
    have i2 : mm_i g2 = mm_i g1 := by rw [e2]; rfl
    have i3 := i2.trans p3
    have j2 : ∀ p, p ≠ k * 5 + 4 → mm_j g2 (B + 42) p = mm_j g1 (B + 42) p ∧ mm_j g2 (B + 43) p = mm_j g1 (B + 43) p := fun p hp => by
      rw [e2, j_J, if_neg (fun z => by omega), j_J, if_neg (fun z => hp z.2), j_J, if_neg (fun z => hp z.2), j_J, if_neg (fun z => by omega)]
      exact ⟨rfl, rfl⟩
    obtain ⟨g', q1, q2, q3, q4, q5⟩ := ih (k + 1) f g2 (by omega) (by omega) (x2.S S1) (Q1.cg x2 i2)
    refine ⟨g', fun K => ?_, (p2.tr x2).tr q2, q3.trans i3, fun p u h1 h2 h3 => ?_, fun p hp => ?_⟩
    · rw [← q1 K]
      show fX11_tellPlannerPrices_L2_b _ _ _ _ _ = _
      unfold fX11_tellPlannerPrices_L2_b
      simp only [hcl]
      rw [q_ck (sk0 S), sr0_8 S, p_rf, q_ck (sk37 S), a4, if_neg (nI_ge hk2 (by omega)), sr37_0 S, p_rf, q_ck (sk38 S), sn38 S, hq, sr0_1 S, p_rf, q_ck (sk2 S), l2, hgl, p_cl, p_rf, q_ck kd7, p_lt, p1, q_ck (sk0 S1), sr0_7 S1, p_rf, q_ck (sk23 S1), hlow, p_cl, q_ck (sk0 S1), sr0_7 S1, p_rf, q_ck (sk23 S1), hhigh, p_cl, sr0_8 S1, p_rf, q_ck (sk37 S1), show (4 : Int32) = nI 4 by decide +kernel, hset, p_cl, p_lt, nI_1]
    · have cu : pwI q u ≤ 4 ∧ (u = q → pwI q u = 4) ∧ (u ≠ q → pwI q u = u) := by
        unfold pwI; split <;> omega
      by_cases c : p = k
      · subst c
        obtain ⟨b1, b2⟩ := q5 (p * 5 + pwI q u) (by omega)
        rw [b1, b2]
        by_cases c2 : u = q
        · rw [cu.2.1 c2, e2, j_J, if_neg (fun z => by omega), j_J, if_pos ⟨rfl, rfl⟩, j_J, if_pos ⟨rfl, rfl⟩, c2]
          exact ⟨rfl, rfl⟩
        · have := j2 (p * 5 + pwI q u) (by rw [cu.2.2 c2]; omega)
          rw [this.1, this.2, cu.2.2 c2]
          exact p4 u (Nat.zero_le _) (by omega)
      · exact q4 p u (by omega) h2 h3
    · obtain ⟨b1, b2⟩ := q5 p (by omega)
      obtain ⟨b3, b4⟩ := j2 p (by omega)
      obtain ⟨b5, b6⟩ := p5 p (by omega)
      exact ⟨(b1.trans b3).trans b5, (b2.trans b4).trans b6⟩
end PC
