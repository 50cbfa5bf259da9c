/-! the laws. V 0 k the object, V 1 k, V 2 k, V 3 k its rows of verdicts, starts, code; Z 0 k how many clauses, Z 1 k how long the code, Z (10 + c) k where clause c starts; G k j, E k j the step at j: what is done and with what -/
def tokOf (o : Nat) : Nat := if o = 3 then 27 else if o = 4 then 28 else if o = 5 then 29 else if o = 7 then 30 else if o = 8 then 31 else if o = 9 then 32 else if o = 10 then 33 else if o = 11 then 34 else if o = 12 then 19 else if o = 13 then 18 else 20
def stp (o v : Nat) : Int32 := if o = 0 then nI v else if o = 1 then -1 - nI v else -1 - nI (tokOf o)
/-- of what kind the values on the pile are (true: a fact), at most 80 -/
def ty1 : List Bool → Option (List Bool)
  | [] => none
  | a :: r => if a = true then some (true :: r) else none
def ty2 (o : Nat) : List Bool → Option (List Bool)
  | [] => none
  | [_] => none
  | a :: b :: q => if o = 3 ∨ o = 4 ∨ o = 5 then (if (a || b) = true then none else some (false :: q)) else if o = 7 ∨ o = 8 ∨ o = 9 ∨ o = 10 ∨ o = 11 then (if (a || b) = true then none else some (true :: q)) else if o = 12 ∨ o = 13 then (if (a && b) = true then some (true :: q) else none) else none
def tyStep (o : Nat) (s : List Bool) : Option (List Bool) := if o ≤ 1 then (if s.length < 80 then some (false :: s) else none) else if o = 14 then ty1 s else ty2 o s
def tyRun (f : Nat → Nat) : Nat → Nat → List Bool → Option (List Bool)
  | 0, _, s => some s
  | e + 1, i, s => match tyStep (f i) s with
    | none => none
    | some s' => tyRun f e (i + 1) s'
def mStp (B : Nat) (hx hy : mm_H) (a k : Nat) (G E : Nat → Nat → Nat) (j : Nat) : Prop := mm_i hx a j = stp (G k j) (E k j) ∧ mm_i hy (B + 87) (400 * k + j) = nI (G k j) ∧ (G k j ≤ 1 → mm_i hy (B + 88) (400 * k + j) = nI (E k j)) ∧ (G k j = 0 → E k j ≤ 99999) ∧ (G k j = 1 → E k j < 14)
def mLaw (B : Nat) (hx hy : mm_H) (V Z G E : Nat → Nat → Nat) (k : Nat) : Prop := (mm_i hy (B + 80) k = mm_i hx (V 0 k) 0 ∧ 0 ≤ mm_i hx (V 0 k) 0 ∧ mm_i hx (V 0 k) 0 ≤ 2) ∧ mm_i hy (B + 82) k = mm_i hx (V 0 k) 1 ∧ (mm_i hy (B + 81) k = mm_i hx (V 0 k) 2 ∧ (mm_i hx (V 0 k) 2 = -1 ∨ 0 ≤ mm_i hx (V 0 k) 2)) ∧ (mm_i hy (B + 83) k = nI (Z 0 k) ∧ Z 0 k ≤ 10 ∧ Z 1 k ≤ 400) ∧ (∀ c, c ≤ Z 0 k → mm_i hx (V 2 k) c = nI (Z (10 + c) k) ∧ Z (10 + c) k ≤ Z 1 k) ∧ (∀ c, c < Z 0 k → mm_i hy (B + 84) (10 * k + c) = mm_i hx (V 1 k) c ∧ mm_i hy (B + 85) (10 * k + c) = nI (Z (10 + c) k) ∧ mm_i hy (B + 86) (10 * k + c) = nI (Z (11 + c) k) ∧ Z (10 + c) k ≤ Z (11 + c) k ∧ tyRun (G k) (Z (11 + c) k - Z (10 + c) k) (Z (10 + c) k) [] = some [true]) ∧ ∀ j, j < Z 1 k → mStp B hx hy (V 3 k) k G E j
def mLrf (B : Nat) (ow : Nat → Nat × Nat) (hx : mm_H) (V Z : Nat → Nat → Nat) (k : Nat) : Prop := (mm_r hx (V 0 k) 3 = some (V 1 k) ∧ mm_r hx (V 0 k) 4 = some (V 2 k) ∧ mm_r hx (V 0 k) 5 = some (V 3 k)) ∧ (Lv B ow hx 8 k (V 1 k) ∧ Lv B ow hx 9 k (V 2 k) ∧ Lv B ow hx 10 k (V 3 k)) ∧ (mm_kd hx (V 1 k) = 14 ∧ mm_kd hx (V 2 k) = 14 ∧ mm_kd hx (V 3 k) = 14) ∧ mm_n hx (V 1 k) = Z 0 k ∧ mm_n hx (V 2 k) = Z 0 k + 1 ∧ mm_n hx (V 3 k) = Z 1 k
def RLw (B : Nat) (ow : Nat → Nat × Nat) (hx hy : mm_H) (n : Nat) (V Z G E : Nat → Nat → Nat) : Prop := n ≤ 30 ∧ mL B ow hx (B + 14) 3 5 n (V 0) ∧ mm_i hy (B + 66) 23 = nI n ∧ ∀ k, k < n → mLaw B hx hy V Z G E k ∧ mLrf B ow hx V Z k
def RTo (B : Nat) (hx hy : mm_H) : Prop := mm_i hy (B + 66) 59 = mm_i hx (B + 13) 3 ∧ mm_i hy (B + 66) 60 = mm_i hx (B + 13) 4
section LW
variable {B : Nat} {h hx hy hx' hy' : mm_H} {ow ow' : Nat → Nat × Nat} {n d nm nl nb nw a : Nat} {V Z G E : Nat → Nat → Nat}
theorem RTo.up (R : RTo B hx hy) {ms : List Nat} (x : mY B ow ms hx hx') {ms' : List Nat} (y : mY B ow ms' hy hy') (h1 : 10 ∉ ms) (h2 : 110 ∉ ms') : RTo B hx' hy' := by
  unfold RTo at *
  rw [y.iF (m := 110) (by omega) rfl h2, y.iF (m := 110) (by omega) rfl h2, x.iF (m := 10) (by omega) rfl h1, x.iF (m := 10) (by omega) rfl h1]
  exact R
theorem T_told (S : mS B h) (R : RTo B h h) (a : Int32) : ∃ r, fX11_told B a h = some (r, h) ∧ fX12_told (B + 66) a h = some (r, h) := by
  obtain ⟨R1, R2⟩ := R
  unfold fX11_told fX12_told
  by_cases c1 : a = 0
  · exact ⟨mm_i h (B + 13) 3, by simp only [q_rf, q_lt, q_cl, q_jn, q_b, q_b1, q_ck, kd_I, kd_J, kd_R, n_I, n_J, n_R, r_I, r_J, c_I, c_J, c_R, i_J, i_R, j_I, j_R, y_in, y_isDay, x_within, x_isDay, x_isTown, sb_xcourt S, c1, if_true], by simp only [q_rf, q_lt, q_cl, q_jn, q_b, q_b1, q_ck, kd_I, kd_J, kd_R, n_I, n_J, n_R, r_I, r_J, c_I, c_J, c_R, i_J, i_R, j_I, j_R, y_in, y_isDay, x_within, x_isDay, x_isTown, sk66 S, R1, c1, not_true, if_false]⟩
  · by_cases c2 : a = 1
    · exact ⟨mm_i h (B + 13) 4, by simp only [q_rf, q_lt, q_cl, q_jn, q_b, q_b1, q_ck, kd_I, kd_J, kd_R, n_I, n_J, n_R, r_I, r_J, c_I, c_J, c_R, i_J, i_R, j_I, j_R, y_in, y_isDay, x_within, x_isDay, x_isTown, sb_xcourt S, c2, q_10, if_true, if_false], by simp only [q_rf, q_lt, q_cl, q_jn, q_b, q_b1, q_ck, kd_I, kd_J, kd_R, n_I, n_J, n_R, r_I, r_J, c_I, c_J, c_R, i_J, i_R, j_I, j_R, y_in, y_isDay, x_within, x_isDay, x_isTown, sk66 S, R2, c2, q_10, not_true, not_false_iff, if_true, if_false]⟩
    · exact ⟨-1, by simp only [c1, c2, if_false], by simp only [c1, c2, not_false_iff, if_true]⟩
theorem mLrf.up {k : Nat} (M : mLrf B ow hx V Z k) {ms : List Nat} (L0 : Lv B ow hx 4 k (V 0 k)) (x : mY B ow ms hx hx') (o : mO ow ow' hx) (h1 : 8 ∉ ms) : mLrf B ow' hx' V Z k := by
  obtain ⟨⟨a1, a2, a3⟩, ⟨b1, b2, b3⟩, ⟨c1, c2, c3⟩, d1, d2, d3⟩ := M
  exact ⟨⟨(x.rL (m := 8) L0 rfl h1).trans a1, (x.rL (m := 8) L0 rfl h1).trans a2, (x.rL (m := 8) L0 rfl h1).trans a3⟩, ⟨b1.up x o, b2.up x o, b3.up x o⟩, ⟨(x.kd b1.2.1).trans c1, (x.kd b2.2.1).trans c2, (x.kd b3.2.1).trans c3⟩, (x.n b1.2.1).trans d1, (x.n b2.2.1).trans d2, (x.n b3.2.1).trans d3⟩
theorem mLaw.up {k : Nat} (M : mLaw B hx hy V Z G E k) (F : mLrf B ow hx V Z k) {ms : List Nat} (L0 : Lv B ow hx 4 k (V 0 k)) (x : mY B ow ms hx hx') {ms' : List Nat} (y : mY B ow ms' hy hy') (h1 : 8 ∉ ms ∧ 31 ∉ ms) (h2 : 108 ∉ ms' ∧ 131 ∉ ms') : mLaw B hx' hy' V Z G E k := by
  obtain ⟨p1, p2⟩ := h1
  obtain ⟨q1, q2⟩ := h2
  have e0 : mm_i hx' (V 0 k) 0 = mm_i hx (V 0 k) 0 := x.iL (m := 8) L0 rfl p1
  have e1 : mm_i hx' (V 0 k) 1 = mm_i hx (V 0 k) 1 := x.iL (m := 8) L0 rfl p1
  have e2 : mm_i hx' (V 0 k) 2 = mm_i hx (V 0 k) 2 := x.iL (m := 31) L0 rfl p2
  have v1 : ∀ i, mm_i hx' (V 1 k) i = mm_i hx (V 1 k) i := fun i => x.iL (m := 8) F.2.1.1 rfl p1
  have v2 : ∀ i, mm_i hx' (V 2 k) i = mm_i hx (V 2 k) i := fun i => x.iL (m := 8) F.2.1.2.1 rfl p1
  have v3 : ∀ i, mm_i hx' (V 3 k) i = mm_i hx (V 3 k) i := fun i => x.iL (m := 8) F.2.1.2.2 rfl p1
  have f80 : ∀ i, mm_i hy' (B + 80) i = mm_i hy (B + 80) i := fun i => y.iF (m := 108) (by omega) rfl q1
  have f81 : ∀ i, mm_i hy' (B + 81) i = mm_i hy (B + 81) i := fun i => y.iF (m := 131) (by omega) rfl q2
  have f82 : ∀ i, mm_i hy' (B + 82) i = mm_i hy (B + 82) i := fun i => y.iF (m := 108) (by omega) rfl q1
  have f83 : ∀ i, mm_i hy' (B + 83) i = mm_i hy (B + 83) i := fun i => y.iF (m := 108) (by omega) rfl q1
  have f84 : ∀ i, mm_i hy' (B + 84) i = mm_i hy (B + 84) i := fun i => y.iF (m := 108) (by omega) rfl q1
  have f85 : ∀ i, mm_i hy' (B + 85) i = mm_i hy (B + 85) i := fun i => y.iF (m := 108) (by omega) rfl q1
  have f86 : ∀ i, mm_i hy' (B + 86) i = mm_i hy (B + 86) i := fun i => y.iF (m := 108) (by omega) rfl q1
  have f87 : ∀ i, mm_i hy' (B + 87) i = mm_i hy (B + 87) i := fun i => y.iF (m := 108) (by omega) rfl q1
  have f88 : ∀ i, mm_i hy' (B + 88) i = mm_i hy (B + 88) i := fun i => y.iF (m := 108) (by omega) rfl q1
  unfold mLaw mStp at *
  simp only [e0, e1, e2, v1, v2, v3, f80, f81, f82, f83, f84, f85, f86, f87, f88]
  exact M
theorem RLw.up (R : RLw B ow hx hy n V Z G E) {ms : List Nat} (x : mY B ow ms hx hx') (o : mO ow ow' hx) {ms' : List Nat} (y : mY B ow ms' hy hy') (h1 : 8 ∉ ms ∧ 31 ∉ ms) (h2 : 108 ∉ ms' ∧ 131 ∉ ms') : RLw B ow' hx' hy' n V Z G E := by
  obtain ⟨a1, a2, a3, a4⟩ := R
  exact ⟨a1, a2.up2 rfl (by omega) x o (m := 8) rfl rfl (fun _ => rfl) h1.1, (y.iF (m := 108) (by omega) rfl h2.1).trans a3, fun k hk => ⟨(a4 k hk).1.up (a4 k hk).2 (a2.2.2.2 k hk).1 x y h1 h2, (a4 k hk).2.up (a2.2.2.2 k hk).1 x o h1.1⟩⟩
theorem x_lawAt (S : mS B h) (L : mL B ow h (B + 14) 3 5 n (V 0)) : (∀ k, k < n → fX2_lawAt (B + 13) (nI k) h = some (some (V 0 k), h)) ∧ ∀ a : Int32, (¬ ∃ k, k < n ∧ a = nI k) → fX2_lawAt (B + 13) a h = some (none, h) := by
  have hsz := x_size (sk14 S) L
  have n9 := L.1
  refine ⟨fun k hk => ?_, fun a ha => ?_⟩
  · have c1 : ¬ nI k < 0 := nI_pos (by omega)
    have c2 : nI k < nI n := nI_lt hk (by omega)
    have hg := x_get (sk14 S) L hk
    have kd := (L.2.2.2 k hk).2
    unfold fX2_lawAt
    simp only [q_rf, q_lt, q_cl, q_jn, q_b, q_b1, q_ck, kd_I, kd_J, kd_R, n_I, n_J, n_R, r_I, r_J, c_I, c_J, c_R, i_J, i_R, j_I, j_R, y_in, y_isDay, x_within, x_isDay, x_isTown, sb_xcourt S, hsz, hg, kd, c1, c2, if_true, if_false]
  · unfold fX2_lawAt
    by_cases c1 : a < 0
    · simp only [c1, if_true]
    · obtain ⟨k, hk, rfl⟩ := nI_of c1
      have c2 : ¬ nI k < nI n := fun z => ha ⟨k, (nI_ltI hk (by omega)).mp z, rfl⟩
      simp only [q_rf, q_lt, q_cl, q_jn, q_b, q_b1, q_ck, kd_I, kd_J, kd_R, n_I, n_J, n_R, r_I, r_J, c_I, c_J, c_R, i_J, i_R, j_I, j_R, y_in, y_isDay, x_within, x_isDay, x_isTown, sb_xcourt S, hsz, c1, c2, if_false]
theorem T_laws (S : mS B h) (R : RLw B ow h h n V Z G E) (a b : Int32) : ∃ r, fX11_laws B a b h = some (r, h) ∧ fX12_laws (B + 66) a b h = some (r, h) := by
  obtain ⟨f1, f2⟩ := x_lawAt S R.2.1
  have n9 := R.1
  have pre := q_pre (a := a) (n := n) (by omega)
  unfold fX11_laws fX12_laws
  by_cases c1 : ∃ k, k < n ∧ a = nI k
  case neg =>
    refine ⟨-1, by simp only [q_rf, q_lt, q_cl, q_jn, q_b, q_b1, q_ck, kd_I, kd_J, kd_R, n_I, n_J, n_R, r_I, r_J, c_I, c_J, c_R, i_J, i_R, j_I, j_R, y_in, y_isDay, x_within, x_isDay, x_isTown, sb_xcourt S, f2 a c1, q_10, q_01, eq_self, i_I, Nat.reduceEqDiff, Nat.add_left_cancel_iff, Nat.add_eq_left, Nat.left_eq_add, and_false, false_and, and_true, true_and, if_true, if_false, and_self, not_true, not_false_iff, reduceCtorEq], ?_⟩
    have c2 : ¬ (¬ a < 0 ∧ ¬ nI n ≤ a) := fun ⟨y1, y2⟩ => c1 (q_rng (by omega) y1 y2)
    simp only [q_rf, q_lt, q_cl, q_jn, q_b, q_b1, q_ck, kd_I, kd_J, kd_R, n_I, n_J, n_R, r_I, r_J, c_I, c_J, c_R, i_J, i_R, j_I, j_R, y_in, y_isDay, x_within, x_isDay, x_isTown, sk66 S, R.2.2.1, pre, c2, q_10, q_01, eq_self, i_I, Nat.reduceEqDiff, Nat.add_left_cancel_iff, Nat.add_eq_left, Nat.left_eq_add, and_false, false_and, and_true, true_and, if_true, if_false, and_self, not_true, not_false_iff, reduceCtorEq]
  obtain ⟨k, hk, rfl⟩ := c1
  have kdA := (R.2.1.2.2.2 k hk).2
  obtain ⟨m1, m2, m3, m4, -⟩ := (R.2.2.2 k hk).1
  obtain ⟨⟨r1, r2, r3⟩, -, ⟨k1, -⟩, v1, -⟩ := (R.2.2.2 k hk).2
  have c2 : ¬ nI k < 0 ∧ ¬ nI n ≤ nI k := ⟨nI_pos (by omega), nI_ge hk (by omega)⟩
  have hq := fun (β : Type) (z : Option β) => q_ckx (show k < 30 by omega) (by decide) z
  have hcl := nI_clamp (n := k) (by omega)
  refine ⟨_, by simp only [q_rf, q_lt, q_cl, q_jn, q_b, q_b1, q_ck, kd_I, kd_J, kd_R, n_I, n_J, n_R, r_I, r_J, c_I, c_J, c_R, i_J, i_R, j_I, j_R, y_in, y_isDay, x_within, x_isDay, x_isTown, sb_xcourt S, f1 k hk, kdA, r1, k1, v1, reduceCtorEq, q_10, q_01, eq_self, i_I, Nat.reduceEqDiff, Nat.add_left_cancel_iff, Nat.add_eq_left, Nat.left_eq_add, and_false, false_and, and_true, true_and, if_true, if_false, and_self, not_true, not_false_iff, reduceCtorEq, q_ifs]; rfl, ?_⟩
  simp only [q_rf, q_lt, q_cl, q_jn, q_b, q_b1, q_ck, kd_I, kd_J, kd_R, n_I, n_J, n_R, r_I, r_J, c_I, c_J, c_R, i_J, i_R, j_I, j_R, y_in, y_isDay, x_within, x_isDay, x_isTown, sb_ylaw S, R.2.2.1, pre, c2, hq, hcl, m1.1, m2, m3.1, m4.1, q_10, q_01, eq_self, i_I, Nat.reduceEqDiff, Nat.add_left_cancel_iff, Nat.add_eq_left, Nat.left_eq_add, and_false, false_and, and_true, true_and, if_true, if_false, and_self, not_true, not_false_iff, reduceCtorEq, q_ifs]
theorem T_read (S : mS B h) (N : RNow B h) (R : RLw B ow h h n V Z G E) (a : Int32) : ∃ r h1 h2, fX11_read B a h = some (r, h1) ∧ fX12_read (B + 66) a h1 = some (r, h2) ∧ mY B ow [31, 131] h h2 ∧ RLw B ow h2 h2 n V Z G E := by
  have hB := S.1
  have same : mY B ow [31, 131] h h := mX.rf hB
  obtain ⟨N1, N2, N3⟩ := N
  obtain ⟨f1, f2⟩ := x_lawAt S R.2.1
  have n9 := R.1
  have pre := q_pre (a := a) (n := n) (by omega)
  unfold fX11_read fX12_read
  by_cases c1 : ∃ k, k < n ∧ a = nI k
  case neg =>
    refine ⟨0, h, h, by simp only [q_rf, q_lt, q_cl, q_jn, q_b, q_b1, q_ck, kd_I, kd_J, kd_R, n_I, n_J, n_R, r_I, r_J, c_I, c_J, c_R, i_J, i_R, j_I, j_R, y_in, y_isDay, x_within, x_isDay, x_isTown, sb_xcourt S, f2 a c1, q_10, q_01, eq_self, i_I, Nat.reduceEqDiff, Nat.add_left_cancel_iff, Nat.add_eq_left, Nat.left_eq_add, and_false, false_and, and_true, true_and, if_true, if_false, and_self, not_true, not_false_iff, reduceCtorEq], ?_, same, R⟩
    have c2 : ¬ (¬ a < 0 ∧ ¬ nI n ≤ a) := fun ⟨y1, y2⟩ => c1 (q_rng (by omega) y1 y2)
    simp only [q_rf, q_lt, q_cl, q_jn, q_b, q_b1, q_ck, kd_I, kd_J, kd_R, n_I, n_J, n_R, r_I, r_J, c_I, c_J, c_R, i_J, i_R, j_I, j_R, y_in, y_isDay, x_within, x_isDay, x_isTown, sk66 S, R.2.2.1, pre, c2, q_10, q_01, eq_self, i_I, Nat.reduceEqDiff, Nat.add_left_cancel_iff, Nat.add_eq_left, Nat.left_eq_add, and_false, false_and, and_true, true_and, if_true, if_false, and_self, not_true, not_false_iff, reduceCtorEq]
  obtain ⟨k, hk, rfl⟩ := c1
  obtain ⟨L0, kdA⟩ := R.2.1.2.2.2 k hk
  obtain ⟨m1, m2, m3, m4, m5, m6, m7⟩ := (R.2.2.2 k hk).1
  have c2 : ¬ nI k < 0 ∧ ¬ nI n ≤ nI k := ⟨nI_pos (by omega), nI_ge hk (by omega)⟩
  have hq := fun (β : Type) (z : Option β) => q_ckx (show k < 30 by omega) (by decide) z
  have hcl := nI_clamp (n := k) (by omega)
  by_cases c3 : mm_i h (V 0 k) 0 = 2
  case neg =>
    have c3' : ¬ mm_i h (B + 80) k = 2 := by rw [m1.1]; exact c3
    exact ⟨0, h, h, by simp only [q_rf, q_lt, q_cl, q_jn, q_b, q_b1, q_ck, kd_I, kd_J, kd_R, n_I, n_J, n_R, r_I, r_J, c_I, c_J, c_R, i_J, i_R, j_I, j_R, y_in, y_isDay, x_within, x_isDay, x_isTown, sb_xcourt S, f1 k hk, kdA, c3, reduceCtorEq, q_10, q_01, eq_self, i_I, Nat.reduceEqDiff, Nat.add_left_cancel_iff, Nat.add_eq_left, Nat.left_eq_add, and_false, false_and, and_true, true_and, if_true, if_false, and_self, not_true, not_false_iff, reduceCtorEq], by simp only [q_rf, q_lt, q_cl, q_jn, q_b, q_b1, q_ck, kd_I, kd_J, kd_R, n_I, n_J, n_R, r_I, r_J, c_I, c_J, c_R, i_J, i_R, j_I, j_R, y_in, y_isDay, x_within, x_isDay, x_isTown, sb_ylaw S, R.2.2.1, pre, c2, hq, hcl, c3', q_10, q_01, eq_self, i_I, Nat.reduceEqDiff, Nat.add_left_cancel_iff, Nat.add_eq_left, Nat.left_eq_add, and_false, false_and, and_true, true_and, if_true, if_false, and_self, not_true, not_false_iff, reduceCtorEq], same, R⟩
  have c3' : mm_i h (B + 80) k = 2 := by rw [m1.1]; exact c3
  by_cases c4 : mm_i h (V 0 k) 2 = -1
  case neg =>
    have c4' : ¬ mm_i h (B + 81) k = -1 := by rw [m3.1]; exact c4
    exact ⟨0, h, h, by simp only [q_rf, q_lt, q_cl, q_jn, q_b, q_b1, q_ck, kd_I, kd_J, kd_R, n_I, n_J, n_R, r_I, r_J, c_I, c_J, c_R, i_J, i_R, j_I, j_R, y_in, y_isDay, x_within, x_isDay, x_isTown, sb_xcourt S, f1 k hk, kdA, c3, c4, reduceCtorEq, q_10, q_01, eq_self, i_I, Nat.reduceEqDiff, Nat.add_left_cancel_iff, Nat.add_eq_left, Nat.left_eq_add, and_false, false_and, and_true, true_and, if_true, if_false, and_self, not_true, not_false_iff, reduceCtorEq], by simp only [q_rf, q_lt, q_cl, q_jn, q_b, q_b1, q_ck, kd_I, kd_J, kd_R, n_I, n_J, n_R, r_I, r_J, c_I, c_J, c_R, i_J, i_R, j_I, j_R, y_in, y_isDay, x_within, x_isDay, x_isTown, sb_ylaw S, R.2.2.1, pre, c2, hq, hcl, c3', c4', q_10, q_01, eq_self, i_I, Nat.reduceEqDiff, Nat.add_left_cancel_iff, Nat.add_eq_left, Nat.left_eq_add, and_false, false_and, and_true, true_and, if_true, if_false, and_self, not_true, not_false_iff, reduceCtorEq], same, R⟩
  have c4' : mm_i h (B + 81) k = -1 := by rw [m3.1]; exact c4
  obtain ⟨h1, e1⟩ : ∃ h1, h1 = mm_setI h (V 0 k) 2 (mm_i h B 11) := ⟨_, rfl⟩
  have x1 : mY B ow [31] h h1 := by rw [e1]; exact (mX.rf hB).IL (m := 31) L0 rfl (by decide)
  have S1 := x1.S S
  have w23 := (x1.iF (j := 66) (k := 23) (m := 108) (by omega) rfl (by decide)).trans R.2.2.1
  have w80 := (x1.iF (j := 80) (k := k) (m := 108) (by omega) rfl (by decide)).trans c3'
  have w81 := (x1.iF (j := 81) (k := k) (m := 131) (by omega) rfl (by decide)).trans c4'
  have w1 := (x1.iF (j := 66) (k := 1) (m := 101) (by omega) rfl (by decide)).trans N1
  obtain ⟨h2, e2⟩ : ∃ h2, h2 = mm_setI h1 (B + 81) k (mm_i h B 11) := ⟨_, rfl⟩
  have x2 : mY B ow [131] h1 h2 := by rw [e2]; exact (mX.rf S1.1).IF (m := 131) (by omega) rfl (by decide)
  have x3 : mY B ow [31, 131] h h2 := (wM_le x1 (by simp)).tr (wM_le x2 (by simp))
  refine ⟨1, h1, h2, by simp only [q_rf, q_lt, q_cl, q_jn, q_b, q_b1, q_ck, kd_I, kd_J, kd_R, n_I, n_J, n_R, r_I, r_J, c_I, c_J, c_R, i_J, i_R, j_I, j_R, y_in, y_isDay, x_within, x_isDay, x_isTown, sb_xcourt S, f1 k hk, kdA, c3, c4, reduceCtorEq, q_10, q_01, eq_self, i_I, Nat.reduceEqDiff, Nat.add_left_cancel_iff, Nat.add_eq_left, Nat.left_eq_add, and_false, false_and, and_true, true_and, if_true, if_false, and_self, not_true, not_false_iff, reduceCtorEq, e1], by simp only [q_rf, q_lt, q_cl, q_jn, q_b, q_b1, q_ck, kd_I, kd_J, kd_R, n_I, n_J, n_R, r_I, r_J, c_I, c_J, c_R, i_J, i_R, j_I, j_R, y_in, y_isDay, x_within, x_isDay, x_isTown, sb_ylaw S1, w23, pre, c2, hq, hcl, w80, w81, w1, q_10, q_01, eq_self, i_I, Nat.reduceEqDiff, Nat.add_left_cancel_iff, Nat.add_eq_left, Nat.left_eq_add, and_false, false_and, and_true, true_and, if_true, if_false, and_self, not_true, not_false_iff, reduceCtorEq, e2], x3, n9, R.2.1.up2 rfl (by omega) x3 mO.rf (m := 8) rfl rfl (fun _ => rfl) (by decide), (x3.iF (m := 108) (by omega) rfl (by decide)).trans R.2.2.1, fun j hj => ⟨?_, (R.2.2.2 j hj).2.up (R.2.1.2.2.2 j hj).1 x3 mO.rf (by decide)⟩⟩
  obtain ⟨m1, m2, m3, m4, m5, m6, m7⟩ := (R.2.2.2 j hj).1
  obtain ⟨Lj, kdj⟩ := R.2.1.2.2.2 j hj
  obtain ⟨-, ⟨b1, b2, b3⟩, -⟩ := (R.2.2.2 j hj).2
  have e0 : mm_i h2 (V 0 j) 0 = mm_i h (V 0 j) 0 := x3.iL (m := 8) Lj rfl (by decide)
  have e1' : mm_i h2 (V 0 j) 1 = mm_i h (V 0 j) 1 := x3.iL (m := 8) Lj rfl (by decide)
  have v1 : ∀ i, mm_i h2 (V 1 j) i = mm_i h (V 1 j) i := fun i => x3.iL (m := 8) b1 rfl (by decide)
  have v2 : ∀ i, mm_i h2 (V 2 j) i = mm_i h (V 2 j) i := fun i => x3.iL (m := 8) b2 rfl (by decide)
  have v3 : ∀ i, mm_i h2 (V 3 j) i = mm_i h (V 3 j) i := fun i => x3.iL (m := 8) b3 rfl (by decide)
  have f80 : ∀ i, mm_i h2 (B + 80) i = mm_i h (B + 80) i := fun i => x3.iF (m := 108) (by omega) rfl (by decide)
  have f82 : ∀ i, mm_i h2 (B + 82) i = mm_i h (B + 82) i := fun i => x3.iF (m := 108) (by omega) rfl (by decide)
  have f83 : ∀ i, mm_i h2 (B + 83) i = mm_i h (B + 83) i := fun i => x3.iF (m := 108) (by omega) rfl (by decide)
  have f84 : ∀ i, mm_i h2 (B + 84) i = mm_i h (B + 84) i := fun i => x3.iF (m := 108) (by omega) rfl (by decide)
  have f85 : ∀ i, mm_i h2 (B + 85) i = mm_i h (B + 85) i := fun i => x3.iF (m := 108) (by omega) rfl (by decide)
  have f86 : ∀ i, mm_i h2 (B + 86) i = mm_i h (B + 86) i := fun i => x3.iF (m := 108) (by omega) rfl (by decide)
  have f87 : ∀ i, mm_i h2 (B + 87) i = mm_i h (B + 87) i := fun i => x3.iF (m := 108) (by omega) rfl (by decide)
  have f88 : ∀ i, mm_i h2 (B + 88) i = mm_i h (B + 88) i := fun i => x3.iF (m := 108) (by omega) rfl (by decide)
  unfold mLaw mStp at *
  simp only [e0, e1', v1, v2, v3, f80, f82, f83, f84, f85, f86, f87, f88]
  refine ⟨m1, m2, ?_, m4, m5, m6, m7⟩
  by_cases q : j = k
  · subst q
    have p1 : mm_i h2 (V 0 j) 2 = mm_i h B 11 := by rw [e2, i_I_ne (by have := L0.1; omega), e1, i_I_eq]
    have p2 : mm_i h2 (B + 81) j = mm_i h B 11 := by rw [e2, i_I_eq]
    rw [p1, p2]
    exact ⟨rfl, Or.inr N2⟩
  · have p1 : mm_i h2 (V 0 j) 2 = mm_i h (V 0 j) 2 := by rw [e2, i_I_ne (by have := Lj.1; omega), e1, i_I_ne (Lj.ne L0 (Or.inr q))]
    have p2 : mm_i h2 (B + 81) j = mm_i h (B + 81) j := by rw [e2, i_I, if_neg (fun z => q z.2), e1, i_I_ne (by have := L0.1; omega)]
    rw [p1, p2]
    exact m3
end LW
