/-! the plan: the reference gathers lots and ships -/
section PG
variable {B : Nat} {h g g' : mm_H} {nl nm ns np nn n q m : Nat} {al : Nat → Nat}
theorem y_pl_lots {P : Nat → Bool} (nl9 : nl ≤ 200) : ∀ (e i c fuel : Nat) (g : mm_H), i + e = nl → e < fuel → c ≤ 5 → mS B g → mm_i g (B + 66) 10 = nI nl → (∀ k, k < nl → P k = (decide (mm_i g (B + 76) k = nI m) && decide (¬ mm_i g (B + 75) k ≤ 0))) → ∃ g', (∀ K, fX12_plan_L16 (B + 66) (nI m) K fuel (nI c) (nI i) g = K (nI (c + (tk P e i (5 - c)).length)) g') ∧ mX B (fun x _ => x = B + 130) g g' ∧ (∀ t, t < c → mm_i g' (B + 130) t = mm_i g (B + 130) t) ∧ ∀ t, t < (tk P e i (5 - c)).length → mm_i g' (B + 130) (c + t) = nI ((tk P e i (5 - c)).getD t 0) := by
  intro e
  induction e with
  | zero =>
    intro i c fuel g hi hf hc S h10 hP
    obtain ⟨f, rfl⟩ : ∃ f, fuel = f + 1 := ⟨fuel - 1, by omega⟩
    refine ⟨g, fun K => ?_, mX.rf S.1, fun _ _ => rfl, fun t ht => by cases ht⟩
    show fX12_plan_L16_b _ _ _ _ _ _ _ = _
    unfold fX12_plan_L16_b
    rw [q_ck (sk66 S), h10, if_pos (nI_le (show nl ≤ i by omega) (by omega))]
    rfl
  | succ e ih =>
    intro i c fuel g hi hf hc S h10 hP
    obtain ⟨f, rfl⟩ : ∃ f, fuel = f + 1 := ⟨fuel - 1, by omega⟩
    have hi2 : i < nl := by omega
    have hq := fun (β : Type) (z : Option β) => q_ckx (show i < 200 by omega) (by decide) z
    have hcl := nI_clamp (n := i) (by omega)
    by_cases c5 : c = 5
    · subst c5
      refine ⟨g, fun K => ?_, mX.rf S.1, fun _ _ => rfl, fun t ht => by rw [Nat.sub_self, tk_0] at ht; cases ht⟩
      show fX12_plan_L16_b _ _ _ _ _ _ _ = _
      unfold fX12_plan_L16_b
      rw [q_ck (sk66 S), h10, if_neg (nI_ge hi2 (by omega)), if_pos (show (5 : Int32) ≤ nI 5 from nI_le (a := 5) (by omega) (by omega)), Nat.sub_self, tk_0]
      rfl
    have hqc := fun (β : Type) (z : Option β) => q_ckx (show c < 5 by omega) (by decide) z
    have hcc := nI_clamp (n := c) (by omega)
    have hp := hP i hi2
    by_cases w : P i = true
    · obtain ⟨g1, e1⟩ : ∃ g', g' = mm_setI g (B + 130) c (nI i) := ⟨_, rfl⟩
      have x1 : mX B (fun x _ => x = B + 130) g g1 := by rw [e1]; exact (mX.rf (W := fun x _ => x = B + 130) S.1).I (Or.inl rfl)
      have S1 := x1.S S
      obtain ⟨g', q1, q2, q3, q4⟩ := ih (i + 1) (c + 1) f g1 (by omega) (by omega) (by omega) S1 (by rw [e1, i_I_ne (by omega)]; exact h10) (fun k hk => by rw [e1, i_I_ne (by omega), i_I_ne (by omega)]; exact hP k hk)
      have et : tk P (e + 1) i (5 - c) = i :: tk P e (i + 1) (5 - (c + 1)) := by
        simp only [tk]
        rw [if_neg (by omega), if_pos w, show 5 - c - 1 = 5 - (c + 1) by omega]
      rw [et]
      refine ⟨g', fun K => ?_, x1.tr q2, fun t ht => ?_, fun t ht => ?_⟩
      · rw [hp, Bool.and_eq_true, decide_eq_true_eq, decide_eq_true_eq] at w
        show fX12_plan_L16_b _ _ _ _ _ _ _ = _
        unfold fX12_plan_L16_b
        simp only [hcl, hcc]
        rw [q_ck (sk66 S), h10, if_neg (nI_ge hi2 (by omega)), if_neg (show ¬ (5 : Int32) ≤ nI c from nI_ge (b := 5) (by omega) (by omega)), sr66_13 S, p_rf, q_ck (sk76 S), sn76 S, hq, p_jn, if_neg (not_not_intro w.1), sr66_12 S, p_rf, q_ck (sk75 S), sn75 S, hq, if_neg w.2, sr66_95 S, p_rf, q_ck (sk130 S), sn130 S, hqc, ← e1, p_lt, p_lt]
        dsimp only
        rw [p_lt, nI_1, nI_1, q1, List.length_cons, show c + ((tk P e (i + 1) (5 - (c + 1))).length + 1) = c + 1 + (tk P e (i + 1) (5 - (c + 1))).length by omega]
      · rw [q3 t (by omega), e1, i_I, if_neg (fun z => by omega)]
      · cases t with
        | zero =>
          show mm_i g' (B + 130) c = nI i
          rw [q3 c (by omega), e1, i_I_eq]
        | succ t => rw [show c + (t + 1) = c + 1 + t by omega, List.getD_cons_succ, q4 t (by rw [List.length_cons] at ht; omega)]
    · obtain ⟨g', q1, q2, q3, q4⟩ := ih (i + 1) c f g (by omega) (by omega) hc S h10 hP
      have et : tk P (e + 1) i (5 - c) = tk P e (i + 1) (5 - c) := by
        simp only [tk]
        rw [if_neg (by omega), if_neg w]
      rw [et]
      refine ⟨g', fun K => ?_, q2, q3, q4⟩
      rw [← q1 K]
      show fX12_plan_L16_b _ _ _ _ _ _ _ = _
      unfold fX12_plan_L16_b
      simp only [hcl]
      rw [q_ck (sk66 S), h10, if_neg (nI_ge hi2 (by omega)), if_neg (show ¬ (5 : Int32) ≤ nI c from nI_ge (b := 5) (by omega) (by omega)), sr66_13 S, p_rf, q_ck (sk76 S), sn76 S, hq, p_jn]
      by_cases w1 : mm_i g (B + 76) i = nI m
      · have w2 : mm_i g (B + 75) i ≤ 0 := by
          rw [hp, decide_eq_true w1, Bool.true_and, decide_eq_true_eq] at w
          exact Classical.not_not.mp w
        rw [if_neg (not_not_intro w1), sr66_12 S, p_rf, q_ck (sk75 S), sn75 S, hq, if_pos w2]
        dsimp only
        rw [p_lt, nI_1]
      · rw [if_pos w1]
        dsimp only
        rw [p_lt, nI_1]
theorem y_ga_L4 {c : Int32} : ∀ (e i fuel : Nat) (g : mm_H), i + e = 20 → e < fuel → mS B g → ∃ g', (∀ K, fX12_gathers_L4 (B + 66) c K fuel (nI i) g = K g') ∧ mX B (fun x _ => x = B + 132) g g' ∧ (∀ t, t < i → mm_i g' (B + 132) t = mm_i g (B + 132) t) ∧ ∀ t, i ≤ t → t < 20 → mm_i g' (B + 132) t = 0 := by
  intro e
  induction e with
  | zero =>
    intro i fuel g hi hf S
    obtain ⟨f, rfl⟩ : ∃ f, fuel = f + 1 := ⟨fuel - 1, by omega⟩
    refine ⟨g, fun K => ?_, mX.rf S.1, fun _ _ => rfl, fun t h1 h2 => by omega⟩
    show fX12_gathers_L4_b _ _ _ _ _ _ = _
    unfold fX12_gathers_L4_b
    rw [if_pos (show (20 : Int32) ≤ nI i from nI_le (a := 20) (by omega) (by omega))]
  | succ e ih =>
    intro i fuel g hi hf S
    obtain ⟨f, rfl⟩ : ∃ f, fuel = f + 1 := ⟨fuel - 1, by omega⟩
    have hq := fun (β : Type) (z : Option β) => q_ckx (show i < 20 by omega) (by decide) z
    have hcl := nI_clamp (n := i) (by omega)
    obtain ⟨g1, e1⟩ : ∃ g', g' = mm_setI g (B + 132) i 0 := ⟨_, rfl⟩
    have x1 : mX B (fun x _ => x = B + 132) g g1 := by rw [e1]; exact (mX.rf (W := fun x _ => x = B + 132) S.1).I (Or.inl rfl)
    obtain ⟨g', q1, q2, q3, q4⟩ := ih (i + 1) f g1 (by omega) (by omega) (x1.S S)
    refine ⟨g', fun K => ?_, x1.tr q2, fun t ht => ?_, fun t h1 h2 => ?_⟩
    · rw [← q1 K]
      show fX12_gathers_L4_b _ _ _ _ _ _ = _
      unfold fX12_gathers_L4_b
      rw [if_neg (show ¬ (20 : Int32) ≤ nI i from nI_ge (b := 20) (by omega) (by omega)), q_ck (sk66 S), sr66_97 S, p_rf, q_ck (sk132 S), sn132 S, hq, hcl, show (0 : Int32) &&& 1 = 0 by decide, ← e1, p_lt, p_lt, nI_1]
    · rw [q3 t (by omega), e1, i_I, if_neg (fun z => by omega)]
    · by_cases c : t = i
      · rw [c, q3 i (by omega), e1, i_I_eq]
      · exact q4 t (by omega) h2
theorem y_ga_L39 (S : mS B g) (h76 : mm_i g (B + 66) 76 = nI ns) (ns9 : ns ≤ 20) (h38 : mm_i g (B + 66) 38 = nI np) (np9 : np ≤ 20) {now : Int32} (hnow : mm_i g (B + 66) 1 = now) {D : Nat → Int32} (hD : ∀ k, k < ns → mm_i g (B + 118) k = D k) {c : Int32} {p : Nat → Bool} (hp : ∀ k, k < ns → p k = (decide (mm_i g (B + 132) k = 0) && (decide (now ≤ D k) && !anyF (yShut g B (mm_i g (B + 117) k) (D k + mm_i g (B + 119) k) now) np 0))) (K : Int32 → mm_H → Option (Int32 × mm_H)) : ∀ (e i fuel : Nat) (f : Option Nat), i + e = ns → e < fuel → (∀ j, f = some j → j < i) → fX12_gathers_L39 (B + 66) c K fuel (eO f) (nI i) g = K (eO (nxt p D e i f)) g := by
  intro e
  induction e with
  | zero =>
    intro i fuel f hi hf hfi
    obtain ⟨u, rfl⟩ : ∃ u, fuel = u + 1 := ⟨fuel - 1, by omega⟩
    show fX12_gathers_L39_b _ _ _ _ _ _ _ = _
    unfold fX12_gathers_L39_b
    rw [q_ck (sk66 S), h76, if_pos (nI_le (show ns ≤ i by omega) (by omega))]
    rfl
  | succ e ih =>
    intro i fuel f hi hf hfi
    obtain ⟨u, rfl⟩ : ∃ u, fuel = u + 1 := ⟨fuel - 1, by omega⟩
    have hi2 : i < ns := by omega
    have hq := fun (β : Type) (z : Option β) => q_ckx (show i < 20 by omega) (by decide) z
    have hcl := nI_clamp (n := i) (by omega)
    have d1 := hD i hi2
    have hpi := hp i hi2
    have hsh := y_shuts S h38 np9 (mm_i g (B + 117) i) (D i + mm_i g (B + 119) i) now
    obtain ⟨A, hA⟩ : ∃ A, A = anyF (yShut g B (mm_i g (B + 117) i) (D i + mm_i g (B + 119) i) now) np 0 := ⟨_, rfl⟩
    rw [← hA] at hsh hpi
    obtain ⟨O, hO⟩ : ∃ O : Bool, O = p i := ⟨_, rfl⟩
    show fX12_gathers_L39_b _ _ _ _ _ _ _ = _
    unfold fX12_gathers_L39_b
    simp only [hcl]
    rw [q_ck (sk66 S), h76, if_neg (nI_ge hi2 (by omega)), sr66_97 S, p_rf, q_ck (sk132 S), sn132 S, hq]
    show _ = K (eO (nxt p D e (i + 1) (if (p i && btr D i f) = true then some i else f))) g
    refine (jn_eq2 (if O = true then (1 : Int32) else 0) g (fun q => ?_)).trans ?_
    · rw [p_jn, hO, hpi]
      by_cases w0 : mm_i g (B + 132) i = 0
      case neg => rw [if_pos w0, decide_eq_false w0, Bool.false_and, if_neg (by decide)]
      rw [if_neg (not_not_intro w0), sr66_79 S, p_rf, q_ck (sk118 S), sn118 S, hq, d1, hnow, decide_eq_true w0, Bool.true_and]
      by_cases w1 : now ≤ D i
      case neg => rw [if_pos (Int32.not_le.mp w1), decide_eq_false w1, Bool.false_and, if_neg (by decide)]
      rw [if_neg (Int32.not_lt.mpr w1), sr66_78 S, p_rf, q_ck (sk117 S), sn117 S, hq, hq, sr66_80 S, p_rf, q_ck (sk119 S), sn119 S, hq, hsh, p_cl, decide_eq_true w1, Bool.true_and]
      cases A with
      | true => rw [if_pos rfl, if_pos (show ¬ (1 : Int32) = 0 by decide), if_neg (by decide)]
      | false => rw [if_neg (show ¬ false = true by decide), if_neg (show ¬ ¬ (0 : Int32) = 0 by decide), if_pos (by decide)]
    refine (jn_eq (eO (if (p i && btr D i f) = true then some i else f)) (fun q => ?_)).trans ?_
    · rw [← hO]
      cases O with
      | false => rw [if_neg (show ¬ false = true by decide), if_pos rfl, Bool.false_and, if_neg (by decide)]
      | true =>
        rw [if_pos rfl, if_neg (by decide), p_jn, Bool.true_and]
        cases f with
        | none => rw [if_pos (show eO none = (-1 : Int32) from rfl), if_pos (show btr D i none = true from rfl)]; rfl
        | some j =>
          have hji := hfi j rfl
          have hqj := fun (β : Type) (z : Option β) => q_ckx (show j < 20 by omega) (by decide) z
          rw [if_neg (show ¬ eO (some j) = -1 from nI_neg1 (by omega)), q_ck (sk66 S), sr66_79 S, p_rf, q_ck (sk118 S), sn118 S, hq, show eO (some j) = nI j from rfl, hqj, nI_clamp (show j < 2 ^ 31 by omega), hD j (by omega), d1]
          by_cases w4 : D j ≤ D i
          · rw [if_pos w4, if_neg (by unfold btr; simp [w4])]; rfl
          · rw [if_neg w4, if_pos (by unfold btr; simp [w4])]; rfl
    · rw [p_lt, nI_1]
      refine ih (i + 1) u _ (by omega) (by omega) (fun j hj => ?_)
      by_cases w : (p i && btr D i f) = true
      · rw [if_pos w] at hj
        obtain rfl := Option.some.inj hj
        omega
      · rw [if_neg w] at hj
        have := hfi j hj; omega
theorem ltr_iff {D : Nat → Int32} {b k : Nat} : ltr D k (some b) = true ↔ (D b).toInt < (D k).toInt ∨ ((D k).toInt = (D b).toInt ∧ b < k) := by
  show (decide (D b < D k) || (decide (D k = D b) && decide (b < k))) = true ↔ _
  rw [Bool.or_eq_true, Bool.and_eq_true, decide_eq_true_eq, decide_eq_true_eq, decide_eq_true_eq, Int32.lt_iff_toInt_lt, Int32.toInt_inj]
/-- taken or not: the next among those not taken -/
theorem ltr_step {D : Nat → Int32} {f : Option Nat} {j k : Nat} (hj : ltr D j f = true) (hk : k ≠ j) (hm : ltr D k f = true → kle D j k) : ltr D k f = true ↔ ltr D k (some j) = true := by
  rw [ltr_iff]
  constructor
  · intro h
    have := hm h
    unfold kle at this
    omega
  · intro h
    cases f with
    | none => rfl
    | some b =>
      rw [ltr_iff] at hj ⊢
      omega
theorem y_ga_L25 (ns9 : ns ≤ 20) (np9 : np ≤ 20) {now : Int32} {D : Nat → Int32} {p : Nat → Bool} : ∀ (e c fuel : Nat) (f : Option Nat) (g : mm_H), c + e = 4 → e + 1 < fuel → mS B g → mm_i g (B + 66) 76 = nI ns → mm_i g (B + 66) 38 = nI np → mm_i g (B + 66) 1 = now → (∀ k, k < ns → mm_i g (B + 118) k = D k) → (∀ k, k < ns → p k = (decide (now ≤ D k) && !anyF (yShut g B (mm_i g (B + 117) k) (D k + mm_i g (B + 119) k) now) np 0)) → (∀ k, k < ns → p k = true → (mm_i g (B + 132) k = 0 ↔ ltr D k f = true)) → ∃ g', (∀ K, fX12_gathers_L25 (B + 66) K fuel (nI c) 1 g = K (nI (c + (sqL p D ns e f).length)) g') ∧ mX B (fun x _ => x = B + 132 ∨ x = B + 129) g g' ∧ (∀ t, t < c → mm_i g' (B + 129) t = mm_i g (B + 129) t) ∧ ∀ t, t < (sqL p D ns e f).length → mm_i g' (B + 129) (c + t) = nI ((sqL p D ns e f).getD t 0) := by
  intro e
  induction e with
  | zero =>
    intro c fuel f g hc hf S h76 h38 hnow hD hp hfl
    obtain ⟨u, rfl⟩ : ∃ u, fuel = u + 1 := ⟨fuel - 1, by omega⟩
    refine ⟨g, fun K => ?_, mX.rf S.1, fun _ _ => rfl, fun t ht => by cases ht⟩
    show fX12_gathers_L25_b _ _ _ _ _ _ = _
    unfold fX12_gathers_L25_b
    rw [if_neg (by decide), if_pos (show (4 : Int32) ≤ nI c from nI_le (a := 4) (by omega) (by omega))]
    rfl
  | succ e ih =>
    intro c fuel f g hc hf S h76 h38 hnow hD hp hfl
    obtain ⟨u, rfl⟩ : ∃ u, fuel = u + 1 := ⟨fuel - 1, by omega⟩
    have hL := fun K => y_ga_L39 S h76 ns9 h38 np9 hnow hD (c := nI c) (p := fun k => decide (mm_i g (B + 132) k = 0) && (decide (now ≤ D k) && !anyF (yShut g B (mm_i g (B + 117) k) (D k + mm_i g (B + 119) k) now) np 0)) (fun k _ => rfl) K ns 0 mm_F none (by omega) (by unfold mm_F; omega) (fun j hj => by cases hj)
    have hcg : nxt (fun k => decide (mm_i g (B + 132) k = 0) && (decide (now ≤ D k) && !anyF (yShut g B (mm_i g (B + 117) k) (D k + mm_i g (B + 119) k) now) np 0)) D ns 0 none = nxt (aft p D f) D ns 0 none := nxt_cg fun k _ hk => by
      have h1 := hfl k (by omega)
      show (decide (mm_i g (B + 132) k = 0) && _) = (p k && ltr D k f)
      rw [← hp k (by omega), Bool.and_comm]
      cases hpk : p k with
      | false => rfl
      | true =>
        rw [Bool.true_and, Bool.true_and]
        have h2 := h1 hpk
        by_cases w : mm_i g (B + 132) k = 0
        · rw [decide_eq_true w, h2.mp w]
        · rw [decide_eq_false w]
          cases z : ltr D k f with
          | false => rfl
          | true => exact absurd (h2.mpr z) w
    rw [hcg] at hL
    simp only [nI_0] at hL
    simp only [sqL]
    have hm1 : (-1 : Int32) = eO none := rfl
    cases en : nxt (aft p D f) D ns 0 none with
    | none =>
      rw [en] at hL
      refine ⟨g, fun K => ?_, mX.rf S.1, fun _ _ => rfl, fun t ht => by cases ht⟩
      show fX12_gathers_L25_b _ _ _ _ _ _ = _
      unfold fX12_gathers_L25_b
      obtain ⟨v, rfl⟩ : ∃ v, u = v + 1 := ⟨u - 1, by omega⟩
      rw [if_neg (by decide), if_neg (show ¬ (4 : Int32) ≤ nI c from nI_ge (b := 4) (by omega) (by omega)), hm1, hL, p_jn, if_pos rfl]
      dsimp only
      rw [p_jn, if_pos rfl]
      show fX12_gathers_L25_b _ _ _ _ _ _ = _
      unfold fX12_gathers_L25_b
      rw [if_pos rfl]
      rfl
    | some j =>
      rw [en] at hL
      obtain ⟨hj, hj2, hj3⟩ := nxt_mem en
      have hq := fun (β : Type) (z : Option β) => q_ckx (show j < 20 by omega) (by decide) z
      have hcl := nI_clamp (n := j) (by omega)
      have hqc := fun (β : Type) (z : Option β) => q_ckx (show c < 4 by omega) (by decide) z
      have hcc := nI_clamp (n := c) (by omega)
      obtain ⟨g1, e1⟩ : ∃ g', g' = mm_setI g (B + 132) j 1 := ⟨_, rfl⟩
      obtain ⟨g2, e2⟩ : ∃ g', g' = mm_setI g1 (B + 129) c (nI j) := ⟨_, rfl⟩
      have S1 : mS B g1 := by rw [e1]; exact S
      have x2 : mX B (fun x _ => x = B + 132 ∨ x = B + 129) g g2 := by rw [e2, e1]; exact ((mX.rf (W := fun x _ => x = B + 132 ∨ x = B + 129) S.1).I (Or.inl (Or.inl rfl))).I (Or.inl (Or.inr rfl))
      have k2 : ∀ x k, x ≠ B + 132 → x ≠ B + 129 → mm_i g2 x k = mm_i g x k := fun x k h1 h2 => by rw [e2, i_I_ne h2, e1, i_I_ne h1]
      have hjp : p j = true ∧ ltr D j f = true := by
        have : (p j && ltr D j f) = true := hj2
        rw [Bool.and_eq_true] at this; exact this
      obtain ⟨g', q1, q2, q3, q4⟩ := ih (c + 1) u (some j) g2 (by omega) (by omega) (x2.S S) (by rw [k2 _ _ (by omega) (by omega)]; exact h76) (by rw [k2 _ _ (by omega) (by omega)]; exact h38) (by rw [k2 _ _ (by omega) (by omega)]; exact hnow) (fun k hk => by rw [k2 _ _ (by omega) (by omega)]; exact hD k hk) (fun k hk => by
        have : ∀ t d r, yShut g2 B t d r = yShut g B t d r := fun t d r => by
          funext j; unfold yShut; rw [k2 _ _ (by omega) (by omega), k2 _ _ (by omega) (by omega), k2 _ _ (by omega) (by omega), k2 _ _ (by omega) (by omega)]
        rw [k2 _ _ (by omega) (by omega), k2 _ _ (by omega) (by omega), this]; exact hp k hk) (fun k hk hpk => by
        rw [e2, i_I_ne (by omega), e1, i_I]
        by_cases w : k = j
        · rw [if_pos ⟨rfl, w⟩, w, ltr_iff]
          constructor
          · intro z; exact absurd z (by decide)
          · intro z; omega
        · rw [if_neg (fun z => w z.2), hfl k hk hpk]
          exact ltr_step hjp.2 w fun z => hj3 k hk (by show (p k && ltr D k f) = true; rw [hpk, z]; rfl))
      refine ⟨g', fun K => ?_, x2.tr q2, fun t ht => ?_, fun t ht => ?_⟩
      · show fX12_gathers_L25_b _ _ _ _ _ _ = _
        unfold fX12_gathers_L25_b
        rw [if_neg (by decide), if_neg (show ¬ (4 : Int32) ≤ nI c from nI_ge (b := 4) (by omega) (by omega)), hm1, hL, p_jn, show eO (some j) = nI j from rfl, show eO none = -1 from rfl, if_neg (nI_neg1 (by omega))]
        dsimp only
        rw [p_jn, if_neg (by decide), q_ck (sk66 S), sr66_97 S, p_rf, q_ck (sk132 S), sn132 S, hq, hcl, show (1 : Int32) &&& 1 = 1 by decide, ← e1, p_lt, sr66_94 S1, p_rf, q_ck (sk129 S1), sn129 S1, hqc, hcc, ← e2, p_lt, nI_1, p_lt]
        dsimp only
        rw [q1, List.length_cons, show c + ((sqL p D ns e (some j)).length + 1) = c + 1 + (sqL p D ns e (some j)).length by omega]
      · rw [q3 t (by omega), e2, i_I, if_neg (fun z => by omega), e1, i_I_ne (by omega)]
      · cases t with
        | zero =>
          show mm_i g' (B + 129) c = nI j
          rw [q3 c (by omega), e2, i_I_eq]
        | succ t => rw [show c + (t + 1) = c + 1 + t by omega, List.getD_cons_succ, q4 t (by rw [List.length_cons] at ht; omega)]
theorem y_gathers (S : mS B g) (h76 : mm_i g (B + 66) 76 = nI ns) (ns9 : ns ≤ 20) (h38 : mm_i g (B + 66) 38 = nI np) (np9 : np ≤ 20) {now : Int32} (hnow : mm_i g (B + 66) 1 = now) {D : Nat → Int32} {p : Nat → Bool} (hD : ∀ k, k < ns → mm_i g (B + 118) k = D k) (hp : ∀ k, k < ns → p k = (decide (now ≤ D k) && !anyF (yShut g B (mm_i g (B + 117) k) (D k + mm_i g (B + 119) k) now) np 0)) : ∃ g', fX12_gathers (B + 66) g = some (nI (sqL p D ns 4 none).length, g') ∧ mX B (fun x _ => x = B + 132 ∨ x = B + 129) g g' ∧ ∀ t, t < (sqL p D ns 4 none).length → mm_i g' (B + 129) t = nI ((sqL p D ns 4 none).getD t 0) := by
  obtain ⟨g1, k1, k2, -, k4⟩ := y_ga_L4 (c := 0) 20 0 mm_F g (by omega) (by unfold mm_F; omega) S
  have e1 : ∀ x k, x < B + 147 → x ≠ B + 132 → mm_i g1 x k = mm_i g x k := fun x k h1 h2 => k2.i (by have := k2.1.2.2; omega) h2
  obtain ⟨g', q1, q2, -, q4⟩ := y_ga_L25 ns9 np9 (now := now) (D := D) (p := p) 4 0 mm_F none g1 (by omega) (by unfold mm_F; omega) (k2.S S) (by rw [e1 _ _ (by omega) (by omega)]; exact h76) (by rw [e1 _ _ (by omega) (by omega)]; exact h38) (by rw [e1 _ _ (by omega) (by omega)]; exact hnow) (fun k hk => by rw [e1 _ _ (by omega) (by omega)]; exact hD k hk) (fun k hk => by
    have : ∀ t d r, yShut g1 B t d r = yShut g B t d r := fun t d r => by
      funext j; unfold yShut; rw [e1 _ _ (by omega) (by omega), e1 _ _ (by omega) (by omega), e1 _ _ (by omega) (by omega), e1 _ _ (by omega) (by omega)]
    rw [e1 _ _ (by omega) (by omega), e1 _ _ (by omega) (by omega), this]; exact hp k hk) (fun k hk _ => ⟨fun _ => rfl, fun _ => k4 k (Nat.zero_le _) (by omega)⟩)
  refine ⟨g', ?_, (k2.up fun a k _ z => Or.inl z).tr q2, fun t ht => by have := q4 t ht; rwa [Nat.zero_add] at this⟩
  unfold fX12_gathers
  rw [nI_0] at k1 q1
  rw [k1, q1, Nat.zero_add]
end PG
