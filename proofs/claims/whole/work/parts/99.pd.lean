/-! the plan: the class's hopes, and all ways tried -/
def eL : Option (Nat × Nat × Nat) → Int64
  | none => -1
  | some (a, _, _) => lN a
def eH : Option (Nat × Nat × Nat) → Int64
  | none => -1
  | some (_, c, _) => lN c
theorem m1_le {x : Nat} (h : x < 2 ^ 62) : (-1 : Int64) ≤ lN x ∧ (-1 : Int64) < lN x := by
  rw [Int64.le_iff_toInt_le, Int64.lt_iff_toInt_lt, show (lN x).toInt = (x : Int) from lg_ofNat_toInt (by omega)]
  have : (-1 : Int64).toInt = -1 := by decide
  omega
/-- what stays while ways are tried -/
def cP (B : Nat) (h : mm_H) (n q : Nat) (am : Nat → Nat) (lo hi : Nat → Nat → Nat) (hp : Nat → Nat) : Prop := (mm_i h (B + 37) 2 = nI n ∧ n ≤ 5) ∧ (mm_i h (B + 37) 5 = nI q ∧ q ≤ 4) ∧ (∀ i, i < n → mm_i h (B + 39) i = nI (am i) ∧ am i ≤ 100000) ∧ (∀ i w, i < n → w ≤ q → mm_j h (B + 42) (i * 5 + pwI q w) = lN (lo i w) ∧ mm_j h (B + 43) (i * 5 + pwI q w) = lN (hi i w)) ∧ (∀ i, i ≤ n → mm_j h (B + 44) i = lN (hp i)) ∧ (∀ i, hp i ≤ 5000000000) ∧ (hp n = 0) ∧ ∀ i w, i < n → w < q + 1 → lo i w + hp (i + 1) ≤ hp i
/-- the ways tried so far: best, rooms, the first k places of the way p -/
def vP (B : Nat) (h : mm_H) (n q : Nat) (am rm : Nat → Nat) (st : Option (Nat × Nat × Nat)) (k p : Nat) : Prop := (mm_j h (B + 37) 11 = eL st ∧ mm_j h (B + 37) 12 = eH st) ∧ (∀ j, j < q → mm_i h (B + 41) j = nI (rm j - pG (pL am j) (q + 1) k p) ∧ pG (pL am j) (q + 1) k p ≤ rm j) ∧ (∀ i, i < k → mm_i h (B + 45) i = nI (pwI q (pD (q + 1) k p i))) ∧ ∀ a c t, st = some (a, c, t) → (a ≤ 5000000000 ∧ c ≤ 5000000000) ∧ ∀ i, i < n → mm_i h (B + 46) i = nI (pwI q (pD (q + 1) n t i))
def wP (B : Nat) : Nat → Nat → Prop := fun x i => x = B + 41 ∨ x = B + 45 ∨ x = B + 46 ∨ (x = B + 37 ∧ (i = 11 ∨ i = 12))
section PD
variable {B : Nat} {h g g' : mm_H} {n q : Nat} {am rm hp : Nat → Nat} {lo hi : Nat → Nat → Nat}
theorem pwI_le {q w : Nat} (hq : q ≤ 4) (hw : w ≤ q) : pwI q w ≤ 4 ∧ (w = q → pwI q w = 4) ∧ (w ≠ q → pwI q w = w) := by unfold pwI; split <;> omega
theorem cP.up (Q : cP B g n q am lo hi hp) (x : mX B (wP B) g g') : cP B g' n q am lo hi hp := by
  have hB := x.1.2.2
  have e : ∀ j k, j < 147 → j ≠ 41 → j ≠ 45 → j ≠ 46 → ¬ (j = 37 ∧ (k = 11 ∨ k = 12)) → mm_i g' (B + j) k = mm_i g (B + j) k ∧ mm_j g' (B + j) k = mm_j g (B + j) k := fun j k h0 h1 h2 h3 h4 => by
    have nw : ¬ wP B (B + j) k := by unfold wP; omega
    exact ⟨x.i (by omega) nw, x.j (by omega) nw⟩
  obtain ⟨⟨a1, a1'⟩, ⟨a2, a2'⟩, a3, a4, a5, a6, a7⟩ := Q
  refine ⟨⟨(e 37 2 (by omega) (by omega) (by omega) (by omega) (by omega)).1.trans a1, a1'⟩, ⟨(e 37 5 (by omega) (by omega) (by omega) (by omega) (by omega)).1.trans a2, a2'⟩, fun i hi => ?_, fun i w hi hw => ?_, fun i hi => ?_, a6, a7⟩
  · rw [(e 39 i (by omega) (by omega) (by omega) (by omega) (by omega)).1]; exact a3 i hi
  · rw [(e 42 _ (by omega) (by omega) (by omega) (by omega) (by omega)).2, (e 43 _ (by omega) (by omega) (by omega) (by omega) (by omega)).2]; exact a4 i w hi hw
  · rw [(e 44 i (by omega) (by omega) (by omega) (by omega) (by omega)).2]; exact a5 i hi
theorem i_cpI {h : mm_H} {b j a0 a m : Nat} : mm_i (mm_cpI h a0 0 a 0 m) b j = if b = a ∧ j < m then mm_i h a0 j else mm_i h b j := by
  show (if b = a then va_cpy (mm_i h a0) (mm_i h a) 0 0 m j else mm_i h b j) = _
  by_cases e1 : b = a
  · subst e1
    by_cases e2 : j < m
    · rw [if_pos rfl, if_pos ⟨rfl, e2⟩]; unfold va_cpy; rw [if_pos (by omega)]; congr 1; omega
    · rw [if_pos rfl, if_neg (fun z => e2 z.2)]; unfold va_cpy; rw [if_neg (by omega)]
  · rw [if_neg e1, if_neg (fun z => e1 z.1)]
/-- a whole way: kept if it is better -/
theorem x_leaf (S : mS B g) (Q : cP B g n q am lo hi hp) (hlo : ∀ i w, lo i w ≤ 1000000000) (hhi : ∀ i w, hi i w ≤ 1000000000) {st : Option (Nat × Nat × Nat)} {t : Nat} (V : vP B g n q am rm st n t) : ∃ g', fX9_keepIfBetter (B + 37) (lN (pG lo (q + 1) n t)) (lN (pG hi (q + 1) n t)) g = some ((), g') ∧ mX B (wP B) g g' ∧ vP B g' n q am rm (pS am rm lo hi q n st t) n t := by
  obtain ⟨⟨a1, a1'⟩, ⟨a2, a2'⟩, a3, a4, a5, a6, a7, a8⟩ := id Q
  obtain ⟨⟨v1, v2⟩, v3, v4, v5⟩ := id V
  have ok : okP am rm q n t = true := okP_iff.mpr fun j hj => (v3 j hj).2
  have bl := pG_le hlo (b := q + 1) (n := n) (t := t)
  have bh := pG_le hhi (b := q + 1) (n := n) (t := t)
  obtain ⟨l, hl⟩ : ∃ l, l = pG lo (q + 1) n t := ⟨_, rfl⟩
  obtain ⟨u, hu⟩ : ∃ u, u = pG hi (q + 1) n t := ⟨_, rfl⟩
  have l9 : l ≤ 5000000000 := by omega
  have u9 : u ≤ 5000000000 := by omega
  have hS : pS am rm lo hi q n st t = if bet st l u = true then some (l, u, t) else st := by
    unfold pS; rw [ok, Bool.true_and, ← hl, ← hu]
  rw [hS, ← hl, ← hu]
  obtain ⟨g3, e3⟩ : ∃ g3, g3 = mm_setJ (mm_setJ g (B + 37) 11 (lN l)) (B + 37) 12 (lN u) := ⟨_, rfl⟩
  obtain ⟨g4, e4⟩ : ∃ g4, g4 = mm_cpI g3 (B + 45) 0 (B + 46) 0 n := ⟨_, rfl⟩
  have S3 : mS B g3 := by rw [e3]; exact S
  have x3 : mX B (wP B) g g3 := by rw [e3]; exact ((mX.rf (W := wP B) S.1).J (Or.inl (Or.inr (Or.inr (Or.inr ⟨rfl, Or.inl rfl⟩))))).J (Or.inl (Or.inr (Or.inr (Or.inr ⟨rfl, Or.inr rfl⟩))))
  have x4 : mX B (wP B) g g4 := by
    refine ⟨by rw [e4]; exact x3.1, fun a ha => by rw [e4]; exact x3.2.1 a ha, fun a k ha => ⟨fun w => ?_, fun w => ?_⟩⟩
    · obtain ⟨y1, y2, y3⟩ := (x3.2.2 a k ha).1 w
      refine ⟨?_, by rw [e4]; exact y2, by rw [e4]; exact y3⟩
      rw [e4, i_cpI, if_neg (fun z => w (Or.inr (Or.inr (Or.inl z.1))))]; exact y1
    · rw [e4]; exact (x3.2.2 a k ha).2 w
  have keep : ∀ qq : Unit → Option (Unit × mm_H), (fun (_u : Unit) => mm_lt (mm_setJ g (B + 37) 11 (lN l)) fun g3 => mm_lt (mm_setJ g3 (B + 37) 12 (lN u)) fun g4 => mm_rf (mm_r g4 (B + 37) 9) fun u5 => mm_rf (mm_r g4 (B + 37) 10) fun u6 => mm_ck (mm_kd g4 u5 = 14) <| mm_ck (mm_kd g4 u6 = 14) <| mm_ck (¬ (0 : Int32) < 0 ∧ ¬ (0 : Int32) < 0 ∧ ¬ ((mm_i g4 (B + 37) 2)) < 0 ∧ Int32.toNatClampNeg (0 : Int32) + Int32.toNatClampNeg ((mm_i g4 (B + 37) 2)) ≤ mm_n g4 u5 ∧ Int32.toNatClampNeg (0 : Int32) + Int32.toNatClampNeg ((mm_i g4 (B + 37) 2)) ≤ mm_n g4 u6) <| mm_lt (mm_cpI g4 u5 (Int32.toNatClampNeg (0 : Int32)) u6 (Int32.toNatClampNeg (0 : Int32)) (Int32.toNatClampNeg ((mm_i g4 (B + 37) 2)))) fun g10 => some ((), g10)) () = some ((), g4) := fun _ => by
    have i2 : mm_i g3 (B + 37) 2 = nI n := by rw [e3]; exact a1
    have cn := nI_clamp (n := n) (by omega)
    have cond : ¬ (0 : Int32) < 0 ∧ ¬ (0 : Int32) < 0 ∧ ¬ nI n < 0 ∧ Int32.toNatClampNeg (0 : Int32) + Int32.toNatClampNeg (nI n) ≤ 5 ∧ Int32.toNatClampNeg (0 : Int32) + Int32.toNatClampNeg (nI n) ≤ 5 := by
      rw [cn]; exact ⟨by decide, by decide, nI_pos (by omega), by rw [show Int32.toNatClampNeg (0 : Int32) = 0 by decide]; omega, by rw [show Int32.toNatClampNeg (0 : Int32) = 0 by decide]; omega⟩
    show (mm_lt (mm_setJ g (B + 37) 11 (lN l)) fun g3 => _) = _
    rw [p_lt, ← e3, p_lt, sr37_9 S3, p_rf, sr37_10 S3, p_rf, q_ck (sk45 S3), q_ck (sk46 S3), i2, sn45 S3, sn46 S3, q_ck cond, show Int32.toNatClampNeg (0 : Int32) = 0 by decide, cn, ← e4, p_lt]
  have newV : vP B g4 n q am rm (some (l, u, t)) n t := by
    have k41 : ∀ x k, x ≠ B + 46 → mm_i g4 x k = mm_i g x k := fun x k hx => by rw [e4, i_cpI, if_neg (fun z => hx z.1), e3]; rfl
    refine ⟨⟨?_, ?_⟩, fun j hj => ?_, fun i hi => ?_, fun a c t' e' => ?_⟩
    · rw [e4]; show mm_j g3 (B + 37) 11 = _; rw [e3, j_J, if_neg (fun z => absurd z.2 (by decide)), j_J, if_pos ⟨rfl, rfl⟩]; rfl
    · rw [e4]; show mm_j g3 (B + 37) 12 = _; rw [e3, j_J, if_pos ⟨rfl, rfl⟩]; rfl
    · rw [k41 _ _ (by omega)]; exact v3 j hj
    · rw [k41 _ _ (by omega)]; exact v4 i hi
    · obtain ⟨rfl, e''⟩ := Prod.mk.inj (Option.some.inj e')
      obtain ⟨rfl, rfl⟩ := Prod.mk.inj e''
      refine ⟨⟨l9, u9⟩, fun i hi => ?_⟩
      rw [e4, i_cpI, if_pos ⟨rfl, hi⟩, e3]
      exact v4 i hi
  unfold fX9_keepIfBetter
  cases st with
  | none =>
    refine ⟨g4, ?_, x4, ?_⟩
    · rw [q_ck (sk37 S), v1, v2, p_jn, if_pos (show 0 < lg_cmp (lN l) (eL none) from (lg_cmp_gt _ _).mpr (m1_le (show l < 2 ^ 62 by omega)).2)]
      exact keep (fun _ => none)
    · rw [if_pos (show bet none l u = true from rfl)]; exact newV
  | some s =>
    obtain ⟨a, c, t'⟩ := s
    obtain ⟨⟨b1, b2⟩, -⟩ := v5 a c t' rfl
    have hb : bet (some (a, c, t')) l u = (decide (a < l) || (decide (a = l) && decide (c < u))) := rfl
    rw [show eL (some (a, c, t')) = lN a from rfl] at v1
    rw [show eH (some (a, c, t')) = lN c from rfl] at v2
    rw [q_ck (sk37 S), v1, v2, p_jn, hb]
    by_cases w1 : a < l
    · refine ⟨g4, ?_, x4, ?_⟩
      · rw [if_pos ((lg_cmp_gt _ _).mpr ((lN_ltB (by omega) (by omega)).mpr w1))]
        exact keep (fun _ => none)
      · rw [decide_eq_true w1, Bool.true_or, if_pos rfl]; exact newV
    by_cases w2 : a = l
    · by_cases w3 : c < u
      · refine ⟨g4, ?_, x4, ?_⟩
        · rw [if_neg (fun z => w1 ((lN_ltB (by omega) (by omega)).mp ((lg_cmp_gt _ _).mp z))), if_neg (not_not_intro (q_eqr w2.symm)), if_neg (q_nle w3 (by omega))]
          exact keep (fun _ => none)
        · rw [decide_eq_true w2, decide_eq_true w3, Bool.true_and, Bool.or_true, if_pos rfl]; exact newV
      · refine ⟨g, ?_, mX.rf S.1, ?_⟩
        · rw [if_neg (fun z => w1 ((lN_ltB (by omega) (by omega)).mp ((lg_cmp_gt _ _).mp z))), if_neg (not_not_intro (q_eqr w2.symm)), if_pos (q_le (Nat.not_lt.mp w3) (by omega))]
        · rw [decide_eq_false w1, decide_eq_false w3, Bool.and_false, Bool.false_or, if_neg (by decide)]; exact V
    · refine ⟨g, ?_, mX.rf S.1, ?_⟩
      · rw [if_neg (fun z => w1 ((lN_ltB (by omega) (by omega)).mp ((lg_cmp_gt _ _).mp z))), if_pos (q_neq (fun z => w2 z.symm) (by omega) (by omega))]
      · rw [decide_eq_false w1, decide_eq_false w2, Bool.false_and, Bool.false_or, if_neg (by decide)]; exact V
end PD
