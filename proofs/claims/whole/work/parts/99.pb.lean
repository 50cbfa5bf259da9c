/-! the plan: the class gathers lots and ships -/
def wQ1 (B : Nat) : Nat → Nat → Prop := fun x i => x = B + 38 ∨ x = B + 39 ∨ (x = B + 37 ∧ i = 2)
def wQ2 (B : Nat) : Nat → Nat → Prop := fun x i => x = B + 40 ∨ x = B + 41 ∨ (x = B + 37 ∧ i = 5)
/-- a ship's port is open on the day of coming, and it has not left -/
def opn (h : mm_H) (B np : Nat) (now : Int32) (k : Nat) : Bool := decide (now ≤ mm_i h (B + 25) k) && !anyF (xShut h B (mm_i h (B + 24) k) (mm_i h (B + 25) k + mm_i h (B + 26) k) now) np 0
section PB
variable {B : Nat} {h g hx hy : mm_H} {ow ow' : Nat → Nat × Nat} {nl nm ns np : Nat} {am al : Nat → Nat}
theorem opn_cg {now : Int32} (e : ∀ j k, 24 ≤ j → j ≤ 36 → mm_i g (B + j) k = mm_i h (B + j) k) : opn g B np now = opn h B np now := by
  funext k
  unfold opn
  rw [e 24 k (by omega) (by omega), e 25 k (by omega) (by omega), e 26 k (by omega) (by omega)]
  have : ∀ t d r, xShut g B t d r = xShut h B t d r := fun t d r => by
    funext j
    unfold xShut xCov
    rw [e 33 j (by omega) (by omega), e 34 j (by omega) (by omega), e 35 j (by omega) (by omega), e 36 j (by omega) (by omega)]
  rw [this]
theorem x_addLot (S : mS B g) {c : Nat} (hc5 : c ≤ 5) (h2 : mm_i g (B + 37) 2 = nI c) (i v : Int32) : fX9_addLot (B + 37) i v g = some ((), if c = 5 then g else mm_setI (mm_setI (mm_setI g (B + 38) c i) (B + 39) c v) (B + 37) 2 (nI (c + 1))) := by
  unfold fX9_addLot
  rw [q_ck (sk37 S), h2]
  by_cases c5 : c = 5
  · rw [if_pos c5, if_pos (show (5 : Int32) ≤ nI c from nI_le (a := 5) (by omega) (by omega))]
  · rw [if_neg c5, if_neg (show ¬ (5 : Int32) ≤ nI c from nI_ge (b := 5) (by omega) (by omega))]
    have hq := fun (β : Type) (z : Option β) => q_ckx (show c < 5 by omega) (by decide) z
    have hcl := nI_clamp (n := c) (by omega)
    obtain ⟨g1, e1⟩ : ∃ g', g' = mm_setI g (B + 38) c i := ⟨_, rfl⟩
    have S1 : mS B g1 := by rw [e1]; exact S
    have h21 : mm_i g1 (B + 37) 2 = nI c := by rw [e1, i_I_ne (by omega)]; exact h2
    obtain ⟨g2, e2⟩ : ∃ g', g' = mm_setI g1 (B + 39) c v := ⟨_, rfl⟩
    have h22 : mm_i g2 (B + 37) 2 = nI c := by rw [e2, i_I_ne (by omega)]; exact h21
    rw [sr37_0 S, p_rf, q_ck (sk38 S), sn38 S, hq, hcl, ← e1, p_lt, sr37_1 S1, p_rf, q_ck (sk39 S1), h21, sn39 S1, hq, hcl, ← e2, p_lt, h22, nI_1, p_lt]
theorem x_addShip (S : mS B g) {c : Nat} (hc5 : c < 4) (h2 : mm_i g (B + 37) 5 = nI c) (i v : Int32) : fX9_addShip (B + 37) i v g = some ((), mm_setI (mm_setI (mm_setI g (B + 40) c i) (B + 41) c v) (B + 37) 5 (nI (c + 1))) := by
  unfold fX9_addShip
  have hq := fun (β : Type) (z : Option β) => q_ckx hc5 (by decide) z
  have hcl := nI_clamp (n := c) (by omega)
  obtain ⟨g1, e1⟩ : ∃ g', g' = mm_setI g (B + 40) c i := ⟨_, rfl⟩
  have S1 : mS B g1 := by rw [e1]; exact S
  have h21 : mm_i g1 (B + 37) 5 = nI c := by rw [e1, i_I_ne (by omega)]; exact h2
  obtain ⟨g2, e2⟩ : ∃ g', g' = mm_setI g1 (B + 41) c v := ⟨_, rfl⟩
  have h22 : mm_i g2 (B + 37) 5 = nI c := by rw [e2, i_I_ne (by omega)]; exact h21
  rw [q_ck (sk37 S), h2, if_neg (show ¬ (4 : Int32) ≤ nI c from nI_ge (b := 4) hc5 (by omega)), sr37_3 S, p_rf, q_ck (sk40 S), sn40 S, hq, hcl, ← e1, p_lt, sr37_4 S1, p_rf, q_ck (sk41 S1), h21, sn41 S1, hq, hcl, ← e2, p_lt, h22, nI_1, p_lt]
/-- of a man's lots those of some amount -/
def lotP (h : mm_H) (al : Nat → Nat) (m : Nat) (k : Nat) : Bool := decide (mm_i h (al k) 4 = nI m) && decide (¬ mm_i h (al k) 3 ≤ 0)
theorem x_pl_lots {m : Nat} : ∀ (e i c fuel : Nat) (g : mm_H), i + e = nl → e < fuel → c ≤ 5 → mS B g → mL B ow g (B + 2) 1 7 nl al → mm_i g (B + 37) 2 = nI c → ∃ g', (∀ K, fX11_plan_L21 B (nI m) K fuel (nI i) g = K g') ∧ mX B (wQ1 B) g g' ∧ mm_i g' (B + 37) 2 = nI (c + (tk (lotP g al m) e i (5 - c)).length) ∧ (∀ t, t < c → mm_i g' (B + 38) t = mm_i g (B + 38) t ∧ mm_i g' (B + 39) t = mm_i g (B + 39) t) ∧ ∀ t, t < (tk (lotP g al m) e i (5 - c)).length → mm_i g' (B + 38) (c + t) = nI ((tk (lotP g al m) e i (5 - c)).getD t 0) ∧ mm_i g' (B + 39) (c + t) = mm_i g (al ((tk (lotP g al m) e i (5 - c)).getD t 0)) 3 := by
  intro e
  induction e with
  | zero =>
    intro i c fuel g hi hf hc S L h2
    obtain ⟨f, rfl⟩ : ∃ f, fuel = f + 1 := ⟨fuel - 1, by omega⟩
    have n9 := L.1
    have hsz := x_size (sk2 S) L
    refine ⟨g, fun K => ?_, mX.rf S.1, by rw [h2]; rfl, fun _ _ => ⟨rfl, rfl⟩, fun t ht => by cases ht⟩
    show fX11_plan_L21_b _ _ _ _ _ _ = _
    unfold fX11_plan_L21_b
    rw [q_ck (sk0 S), sr0_1 S, p_rf, q_ck (sk2 S), hsz, p_cl, if_pos (nI_le (show nl ≤ i by omega) (by omega))]
  | succ e ih =>
    intro i c fuel g hi hf hc S L h2
    obtain ⟨f, rfl⟩ : ∃ f, fuel = f + 1 := ⟨fuel - 1, by omega⟩
    have n9 := L.1
    have hi2 : i < nl := by omega
    have hsz := x_size (sk2 S) L
    have hg := x_get (sk2 S) L hi2
    obtain ⟨Li, kd7⟩ := L.2.2.2 i hi2
    have step : ∀ (g1 : mm_H) (c1 : Nat), (∀ q : mm_H → Option (Int64 × mm_H), (if ¬ (mm_i g (al i) 4) = nI m then (q g) else (if (mm_i g (al i) 3) ≤ 0 then (q g) else (mm_ck (mm_kd g B = 12) <| mm_rf (mm_r g B 8) fun u32 => mm_ck (mm_kd g u32 = 10) <| mm_cl (fX9_addLot u32 (nI i) ((mm_i g (al i) 3)) g) fun _ g34 => q g34))) = q g1) → ∀ g', (∀ K, fX11_plan_L21 B (nI m) K f (nI (i + 1)) g1 = K g') → ∀ K, fX11_plan_L21 B (nI m) K (f + 1) (nI i) g = K g' := by
      intro g1 c1 hj g' hg' K
      rw [← hg' K]
      show fX11_plan_L21_b _ _ _ _ _ _ = _
      unfold fX11_plan_L21_b
      rw [q_ck (sk0 S), sr0_1 S, p_rf, q_ck (sk2 S), hsz, p_cl, if_neg (nI_ge hi2 (by omega)), q_ck (sk0 S), sr0_1 S, p_rf, q_ck (sk2 S), hg, p_cl, p_rf, q_ck kd7]
      refine (jn_eq g1 hj).trans ?_
      rw [p_lt, nI_1]
    have stay : (lotP g al m i = false ∨ c = 5) → ∃ g', (∀ K, fX11_plan_L21 B (nI m) K (f + 1) (nI i) g = K g') ∧ mX B (wQ1 B) g g' ∧ mm_i g' (B + 37) 2 = nI (c + (tk (lotP g al m) (e + 1) i (5 - c)).length) ∧ (∀ t, t < c → mm_i g' (B + 38) t = mm_i g (B + 38) t ∧ mm_i g' (B + 39) t = mm_i g (B + 39) t) ∧ ∀ t, t < (tk (lotP g al m) (e + 1) i (5 - c)).length → mm_i g' (B + 38) (c + t) = nI ((tk (lotP g al m) (e + 1) i (5 - c)).getD t 0) ∧ mm_i g' (B + 39) (c + t) = mm_i g (al ((tk (lotP g al m) (e + 1) i (5 - c)).getD t 0)) 3 := by
      intro hs
      obtain ⟨g', q1, q2, q3, q4, q5⟩ := ih (i + 1) c f g (by omega) (by omega) hc S L h2
      have et : tk (lotP g al m) (e + 1) i (5 - c) = tk (lotP g al m) e (i + 1) (5 - c) := by
        by_cases c5 : c = 5
        · rw [c5, Nat.sub_self, tk_0, tk_0]
        · have hp : lotP g al m i = false := by
            rcases hs with z | z
            · exact z
            · exact absurd z c5
          simp only [tk]
          rw [if_neg (by omega), if_neg (by rw [hp]; decide)]
      rw [et]
      refine ⟨g', step g c (fun q => ?_) g' q1, q2, q3, q4, q5⟩
      by_cases w1 : mm_i g (al i) 4 = nI m
      case neg => rw [if_pos w1]
      rw [if_neg (not_not_intro w1)]
      by_cases w2 : mm_i g (al i) 3 ≤ 0
      case pos => rw [if_pos w2]
      have c5 : c = 5 := by
        rcases hs with z | z
        · unfold lotP at z
          rw [decide_eq_true w1, decide_eq_true w2] at z; cases z
        · exact z
      rw [if_neg w2, q_ck (sk0 S), sr0_8 S, p_rf, q_ck (sk37 S), x_addLot S hc h2, p_cl, if_pos c5]
    by_cases hs : lotP g al m i = false ∨ c = 5
    · exact stay hs
    · have hp : lotP g al m i = true := by
        cases z : lotP g al m i with
        | true => rfl
        | false => exact absurd (Or.inl z) hs
      have c5 : ¬ c = 5 := fun z => hs (Or.inr z)
      obtain ⟨g1, e1⟩ : ∃ g', g' = mm_setI (mm_setI (mm_setI g (B + 38) c (nI i)) (B + 39) c (mm_i g (al i) 3)) (B + 37) 2 (nI (c + 1)) := ⟨_, rfl⟩
      have x1 : mX B (wQ1 B) g g1 := by rw [e1]; exact (((mX.rf S.1).I (Or.inl (Or.inl rfl))).I (Or.inl (Or.inr (Or.inl rfl)))).I (Or.inl (Or.inr (Or.inr ⟨rfl, rfl⟩)))
      have S1 := x1.S S
      have L1 : mL B ow g1 (B + 2) 1 7 nl al := L.up (by omega) x1 mO.rf ⟨by unfold wQ1; omega, by unfold wQ1; omega⟩ (fun a k v => by have := v.1; unfold wQ1; omega)
      have cell : ∀ k, k < nl → ∀ j, mm_i g1 (al k) j = mm_i g (al k) j := fun k hk j => by
        have := (L.2.2.2 k hk).1.1
        rw [e1, i_I_ne (by omega), i_I_ne (by omega), i_I_ne (by omega)]
      have lp : ∀ k, k < nl → lotP g1 al m k = lotP g al m k := fun k hk => by unfold lotP; rw [cell k hk, cell k hk]
      obtain ⟨g', q1, q2, q3, q4, q5⟩ := ih (i + 1) (c + 1) f g1 (by omega) (by omega) (by omega) S1 L1 (by rw [e1, i_I_eq])
      have et : tk (lotP g al m) (e + 1) i (5 - c) = i :: tk (lotP g1 al m) e (i + 1) (5 - (c + 1)) := by
        simp only [tk]
        rw [if_neg (by omega), if_pos hp, show 5 - c - 1 = 5 - (c + 1) by omega, tk_cg (fun k h1 h2 => lp k (by omega))]
      rw [et]
      refine ⟨g', step g1 (c + 1) (fun q => ?_) g' q1, x1.tr q2, ?_, fun t ht => ?_, fun t ht => ?_⟩
      · unfold lotP at hp
        simp only [Bool.and_eq_true, decide_eq_true_eq] at hp
        rw [if_neg (not_not_intro hp.1), if_neg hp.2, q_ck (sk0 S), sr0_8 S, p_rf, q_ck (sk37 S), x_addLot S hc h2, p_cl, if_neg c5, ← e1]
      · rw [q3, List.length_cons]
        congr 1
        omega
      · obtain ⟨a1, a2⟩ := q4 t (by omega)
        rw [a1, a2, e1, i_I_ne (by omega), i_I_ne (by omega), i_I, if_neg (fun z => by omega), i_I_ne (by omega), i_I, if_neg (fun z => by omega), i_I_ne (by omega)]
        exact ⟨rfl, rfl⟩
      · cases t with
        | zero =>
          obtain ⟨a1, a2⟩ := q4 c (by omega)
          show mm_i g' (B + 38) c = nI i ∧ mm_i g' (B + 39) c = mm_i g (al i) 3
          rw [a1, a2, e1, i_I_ne (by omega), i_I_ne (by omega), i_I_eq, i_I_ne (by omega), i_I_eq]
          exact ⟨rfl, rfl⟩
        | succ t =>
          have ht' : t < (tk (lotP g1 al m) e (i + 1) (5 - (c + 1))).length := by rw [List.length_cons] at ht; omega
          obtain ⟨a1, a2⟩ := q5 t ht'
          rw [show c + (t + 1) = c + 1 + t by omega, List.getD_cons_succ, a1, a2]
          refine ⟨rfl, ?_⟩
          have hm : (tk (lotP g1 al m) e (i + 1) (5 - (c + 1))).getD t 0 ∈ tk (lotP g1 al m) e (i + 1) (5 - (c + 1)) := getD_mem ht'
          exact cell _ (by have := (tk_mem hm).1; omega) 3
theorem x_next_L29 (S : mS B g) (h4 : mm_i g (B + 23) 4 = nI ns) (ns9 : ns ≤ 20) (h15 : mm_i g (B + 23) 15 = nI np) (np9 : np ≤ 20) {D : Nat → Int32} (hD : ∀ k, k < ns → mm_i g (B + 25) k = D k ∧ 0 ≤ D k) (now : Int32) {b : Option Nat} (hb : ∀ j, b = some j → j < ns) (K : Int32 → mm_H → Option (Int32 × mm_H)) : ∀ (e i fuel : Nat) (f : Option Nat), i + e = ns → e < fuel → (∀ j, f = some j → j < i) → fX10_nextOpenShip_L29 (B + 23) (eO b) now (eD D b) K fuel (eO f) (nI i) g = K (eO (nxt (aft (opn g B np now) D b) D e i f)) g := by
  intro e
  induction e with
  | zero =>
    intro i fuel f hi hf hfi
    obtain ⟨u, rfl⟩ : ∃ u, fuel = u + 1 := ⟨fuel - 1, by omega⟩
    show fX10_nextOpenShip_L29_b _ _ _ _ _ _ _ _ _ = _
    unfold fX10_nextOpenShip_L29_b
    rw [q_ck (sk23 S), h4, if_pos (nI_le (show ns ≤ i by omega) (by omega))]
    rfl
  | succ e ih =>
    intro i fuel f hi hf hfi
    obtain ⟨u, rfl⟩ : ∃ u, fuel = u + 1 := ⟨fuel - 1, by omega⟩
    have hi2 : i < ns := by omega
    have hq := fun (β : Type) (z : Option β) => q_ckx (show i < 20 by omega) (by decide) z
    have hcl := nI_clamp (n := i) (by omega)
    obtain ⟨d1, d2⟩ := hD i hi2
    have hco : fX10_comingOf (B + 23) (nI i) g = some (D i + mm_i g (B + 26) i, g) := by
      unfold fX10_comingOf
      simp only [hcl]
      rw [if_neg (nI_pos (show i < 2 ^ 31 by omega)), q_ck (sk23 S), h4, if_pos (nI_lt hi2 (by omega)), sr23_1 S, p_rf, q_ck (sk25 S), sn25 S, hq, sr23_2 S, p_rf, q_ck (sk26 S), sn26 S, hq, d1]
    have hcb := x_closedBy S h15 np9 (mm_i g (B + 24) i) (D i + mm_i g (B + 26) i) now
    obtain ⟨A, hA⟩ : ∃ A, A = anyF (xShut g B (mm_i g (B + 24) i) (D i + mm_i g (B + 26) i) now) np 0 := ⟨_, rfl⟩
    rw [← hA] at hcb
    obtain ⟨L, hL⟩ : ∃ L : Bool, L = ltr D i b := ⟨_, rfl⟩
    obtain ⟨O, hO⟩ : ∃ O : Bool, O = (decide (now ≤ D i) && !A) := ⟨_, rfl⟩
    have hx9 : aft (opn g B np now) D b i = (O && L) := by
      rw [hL, hO, hA]
      unfold aft opn
      rw [d1]
    show fX10_nextOpenShip_L29_b _ _ _ _ _ _ _ _ _ = _
    unfold fX10_nextOpenShip_L29_b
    simp only [hcl]
    rw [q_ck (sk23 S), h4, if_neg (nI_ge hi2 (by omega)), sr23_1 S, p_rf, q_ck (sk25 S), sn25 S, hq, d1]
    show _ = K (eO (nxt (aft (opn g B np now) D b) D e (i + 1) (if (aft (opn g B np now) D b i && btr D i f) = true then some i else f))) g
    refine (jn_eq (if L = true then (1 : Int32) else 0) (fun q => ?_)).trans ?_
    · rw [p_jn, hL]
      cases b with
      | none =>
        rw [if_pos (show eD D none < D i from Int32.lt_of_lt_of_le (show (-1 : Int32) < 0 by decide) d2), if_pos (show ltr D i none = true from rfl)]
      | some b =>
        have hb2 := hb b rfl
        rw [show eD D (some b) = D b from rfl, show eO (some b) = nI b from rfl, show ltr D i (some b) = (decide (D b < D i) || (decide (D i = D b) && decide (b < i))) from rfl]
        by_cases w1 : D b < D i
        · rw [if_pos w1, decide_eq_true w1, Bool.true_or, if_pos rfl]
        · rw [if_neg w1, hq, p_jn, decide_eq_false w1, Bool.false_or]
          by_cases w2 : D i = D b
          · rw [if_neg (not_not_intro w2), decide_eq_true w2, Bool.true_and]
            by_cases w3 : b < i
            · rw [if_neg (nI_ge w3 (by omega)), decide_eq_true w3, if_pos rfl]
            · rw [if_pos (nI_le (by omega) (by omega)), decide_eq_false w3, if_neg (by decide)]
          · rw [if_pos w2, decide_eq_false w2, Bool.false_and, if_neg (by decide)]
    rw [hq]
    refine (jn_eq2 (if O = true then (1 : Int32) else 0) g (fun q => ?_)).trans ?_
    · rw [p_jn, hO]
      by_cases w1 : now ≤ D i
      case neg => rw [if_pos (Int32.not_le.mp w1), decide_eq_false w1, Bool.false_and, if_neg (by decide)]
      rw [if_neg (Int32.not_lt.mpr w1), sr23_0 S, p_rf, q_ck (sk24 S), sn24 S, hq, hco, p_cl, q_ck (sk23 S), hcb, p_cl, decide_eq_true w1, Bool.true_and]
      cases A with
      | true => rw [if_pos rfl, if_pos (by decide), if_neg (by decide)]
      | false => rw [if_neg (by decide), if_pos (by decide)]
    refine (jn_eq (eO (if (aft (opn g B np now) D b i && btr D i f) = true then some i else f)) (fun q => ?_)).trans ?_
    · rw [hx9]
      cases L with
      | false => rw [if_pos (by decide), Bool.and_false, Bool.false_and, if_neg (by decide)]
      | true =>
        rw [if_pos rfl, if_neg (by decide)]
        cases O with
        | false => rw [if_pos (by decide), Bool.false_and, Bool.false_and, if_neg (by decide)]
        | true =>
          rw [if_pos rfl, if_neg (by decide), p_jn, Bool.true_and, Bool.true_and]
          cases f with
          | none => rw [if_pos (show eO none = (-1 : Int32) from rfl), if_pos (show btr D i none = true from rfl)]; rfl
          | some j =>
            have hji := hfi j rfl
            have hqj := fun (β : Type) (z : Option β) => q_ckx (show j < 20 by omega) (by decide) z
            rw [if_neg (show ¬ eO (some j) = -1 from nI_neg1 (by omega)), q_ck (sk23 S), sr23_1 S, p_rf, q_ck (sk25 S), sn25 S, hq, show eO (some j) = nI j from rfl, hqj, nI_clamp (show j < 2 ^ 31 by omega), (hD j (by omega)).1, d1]
            by_cases w4 : D j ≤ D i
            · rw [if_pos w4, if_neg (by unfold btr; simp [w4])]; rfl
            · rw [if_neg w4, if_pos (by unfold btr; simp [w4])]; rfl
    · rw [p_lt, nI_1]
      refine ih (i + 1) u _ (by omega) (by omega) (fun j hj => ?_)
      by_cases w : (aft (opn g B np now) D b i && btr D i f) = true
      · rw [if_pos w] at hj
        obtain rfl := Option.some.inj hj
        omega
      · rw [if_neg w] at hj
        have := hfi j hj; omega
theorem x_nextShip (S : mS B g) (h4 : mm_i g (B + 23) 4 = nI ns) (ns9 : ns ≤ 20) (h15 : mm_i g (B + 23) 15 = nI np) (np9 : np ≤ 20) {D : Nat → Int32} (hD : ∀ k, k < ns → mm_i g (B + 25) k = D k ∧ 0 ≤ D k) (now : Int32) {b : Option Nat} (hb : ∀ j, b = some j → j < ns) : fX10_nextOpenShip (B + 23) (eO b) now g = some (eO (nxt (aft (opn g B np now) D b) D ns 0 none), g) := by
  have hL := x_next_L29 S h4 ns9 h15 np9 hD now hb (fun z g => some (z, g)) ns 0 mm_F none (by omega) (by unfold mm_F; omega) (fun j hj => by cases hj)
  rw [nI_0] at hL
  unfold fX10_nextOpenShip
  refine (jn_eq (eD D b) (fun q => ?_)).trans hL
  rw [p_jn]
  cases b with
  | none => rw [if_pos (show eO none < 0 by decide)]; rfl
  | some j =>
    have hj := hb j rfl
    have hq := fun (β : Type) (z : Option β) => q_ckx (show j < 20 by omega) (by decide) z
    rw [show eO (some j) = nI j from rfl, if_neg (nI_pos (show j < 2 ^ 31 by omega)), q_ck (sk23 S), h4, if_pos (nI_lt hj (by omega)), sr23_1 S, p_rf, q_ck (sk25 S), sn25 S, hq, nI_clamp (show j < 2 ^ 31 by omega), (hD j hj).1]
    rfl
theorem x_pl_ships (ns9 : ns ≤ 20) (np9 : np ≤ 20) {D : Nat → Int32} {now : Int32} {p : Nat → Bool} : ∀ (e c fuel : Nat) (f : Option Nat) (g : mm_H), c + e = 4 → e < fuel → mS B g → mm_i g (B + 23) 4 = nI ns → mm_i g (B + 23) 15 = nI np → mm_i g B 11 = now → (∀ k, k < ns → mm_i g (B + 25) k = D k ∧ 0 ≤ D k) → opn g B np now = p → mm_i g (B + 37) 5 = nI c → (∀ j, f = some j → j < ns) → ∃ g', (∀ K, fX11_plan_L92 B K fuel (eO (nxt (aft p D f) D ns 0 none)) (nI c) g = K g') ∧ mX B (wQ2 B) g g' ∧ mm_i g' (B + 37) 5 = nI (c + (sqL p D ns e f).length) ∧ (∀ t, t < c → mm_i g' (B + 40) t = mm_i g (B + 40) t ∧ mm_i g' (B + 41) t = mm_i g (B + 41) t) ∧ ∀ t, t < (sqL p D ns e f).length → mm_i g' (B + 40) (c + t) = nI ((sqL p D ns e f).getD t 0) ∧ mm_i g' (B + 41) (c + t) = mm_i g (B + 27) ((sqL p D ns e f).getD t 0) := by
  intro e
  induction e with
  | zero =>
    intro c fuel f g hc hf S h4 h15 h11 hD hp h5 hb
    obtain ⟨u, rfl⟩ : ∃ u, fuel = u + 1 := ⟨fuel - 1, by omega⟩
    refine ⟨g, fun K => ?_, mX.rf S.1, by rw [h5]; rfl, fun _ _ => ⟨rfl, rfl⟩, fun t ht => by cases ht⟩
    show fX11_plan_L92_b _ _ _ _ _ _ = _
    unfold fX11_plan_L92_b
    rw [if_pos (show (4 : Int32) ≤ nI c from nI_le (a := 4) (by omega) (by omega))]
  | succ e ih =>
    intro c fuel f g hc hf S h4 h15 h11 hD hp h5 hb
    obtain ⟨u, rfl⟩ : ∃ u, fuel = u + 1 := ⟨fuel - 1, by omega⟩
    simp only [sqL]
    cases en : nxt (aft p D f) D ns 0 none with
    | none =>
      refine ⟨g, fun K => ?_, mX.rf S.1, by rw [h5]; rfl, fun _ _ => ⟨rfl, rfl⟩, fun t ht => by cases ht⟩
      show fX11_plan_L92_b _ _ _ _ _ _ = _
      unfold fX11_plan_L92_b
      rw [if_pos (show eO none = (-1 : Int32) from rfl), ite_self]
    | some j =>
      have hj := (nxt_mem en).1
      have hq := fun (β : Type) (z : Option β) => q_ckx (show j < 20 by omega) (by decide) z
      have hcl := nI_clamp (n := j) (by omega)
      obtain ⟨g1, e1⟩ : ∃ g', g' = mm_setI (mm_setI (mm_setI g (B + 40) c (nI j)) (B + 41) c (mm_i g (B + 27) j)) (B + 37) 5 (nI (c + 1)) := ⟨_, rfl⟩
      have x1 : mX B (wQ2 B) g g1 := by rw [e1]; exact (((mX.rf S.1).I (Or.inl (Or.inl rfl))).I (Or.inl (Or.inr (Or.inl rfl)))).I (Or.inl (Or.inr (Or.inr ⟨rfl, rfl⟩)))
      have S1 := x1.S S
      have k1 : ∀ q k, q < 37 → mm_i g1 (B + q) k = mm_i g (B + q) k := fun q k hq => by rw [e1, i_I_ne (by omega), i_I_ne (by omega), i_I_ne (by omega)]
      have h4' : mm_i g1 (B + 23) 4 = nI ns := (k1 23 4 (by omega)).trans h4
      have h15' : mm_i g1 (B + 23) 15 = nI np := (k1 23 15 (by omega)).trans h15
      have h11' : mm_i g1 B 11 = now := (k1 0 11 (by omega)).trans h11
      have hD' : ∀ k, k < ns → mm_i g1 (B + 25) k = D k ∧ 0 ≤ D k := fun k hk => by rw [k1 25 k (by omega)]; exact hD k hk
      have hp' : opn g1 B np now = p := by rw [← hp]; exact opn_cg fun q k h1 h2 => k1 q k (by omega)
      have hbj : ∀ i, some j = some i → i < ns := fun i hi => by obtain rfl := Option.some.inj hi; exact hj
      have hnext := x_nextShip S1 h4' ns9 h15' np9 hD' now (b := some j) hbj
      rw [hp'] at hnext
      obtain ⟨g', q1, q2, q3, q4, q5⟩ := ih (c + 1) u (some j) g1 (by omega) (by omega) S1 h4' h15' h11' hD' hp' (by rw [e1, i_I_eq]) hbj
      refine ⟨g', fun K => ?_, x1.tr q2, ?_, fun t ht => ?_, fun t ht => ?_⟩
      · rw [← q1 K]
        show fX11_plan_L92_b _ _ _ _ _ _ = _
        unfold fX11_plan_L92_b
        have v27 : mm_i g (B + 27) (nI j).toNatClampNeg = mm_i g (B + 27) j := by rw [hcl]
        rw [if_neg (show ¬ (4 : Int32) ≤ nI c from nI_ge (b := 4) (by omega) (by omega)), if_neg (show ¬ eO (some j) = -1 from nI_neg1 (by omega)), q_ck (sk0 S), sr0_7 S, p_rf, q_ck (sk23 S), sr23_3 S, p_rf, q_ck (sk27 S), sn27 S, show eO (some j) = nI j from rfl, hq, v27, sr0_8 S, p_rf, q_ck (sk37 S), x_addShip S (by omega) h5, p_cl, ← e1, q_ck (sk0 S1), sr0_7 S1, p_rf, q_ck (sk23 S1), h11', show nI j = eO (some j) from rfl, hnext, p_cl, p_lt, nI_1]
      · rw [q3, List.length_cons]
        congr 1
        omega
      · obtain ⟨a1, a2⟩ := q4 t (by omega)
        rw [a1, a2, e1, i_I_ne (by omega), i_I_ne (by omega), i_I, if_neg (fun z => by omega), i_I_ne (by omega), i_I, if_neg (fun z => by omega), i_I_ne (by omega)]
        exact ⟨rfl, rfl⟩
      · cases t with
        | zero =>
          obtain ⟨a1, a2⟩ := q4 c (by omega)
          show mm_i g' (B + 40) c = nI j ∧ mm_i g' (B + 41) c = mm_i g (B + 27) j
          rw [a1, a2, e1, i_I_ne (by omega), i_I_ne (by omega), i_I_eq, i_I_ne (by omega), i_I_eq]
          exact ⟨rfl, rfl⟩
        | succ t =>
          have ht' : t < (sqL p D ns e (some j)).length := by rw [List.length_cons] at ht; omega
          obtain ⟨a1, a2⟩ := q5 t ht'
          rw [show c + (t + 1) = c + 1 + t by omega, List.getD_cons_succ, a1, a2]
          exact ⟨rfl, k1 27 _ (by omega)⟩
end PB
