/-! elder -/
def fstF (P : Nat → Bool) : Nat → Nat → Int32
  | 0, _ => -1
  | e + 1, i => if P i = true then nI i else fstF P e (i + 1)
def lmP (hx : mm_H) (am : Nat → Nat) (t d : Int32) (k : Nat) : Bool := decide (mm_i hx (am k) 0 = t) && (decide (mm_i hx (am k) 2 ≤ d) && (decide (mm_i hx (am k) 4 = -1) || decide (d < mm_i hx (am k) 4)))
theorem fstF_spec {P : Nat → Bool} : ∀ {e i : Nat}, i + e < 2 ^ 31 → fstF P e i = -1 ∨ ∃ j, i ≤ j ∧ j < i + e ∧ fstF P e i = nI j ∧ P j = true := by
  intro e
  induction e with
  | zero => intro i _; exact Or.inl rfl
  | succ e ih =>
    intro i hi
    simp only [fstF]
    by_cases c : P i = true
    · rw [if_pos c]; exact Or.inr ⟨i, by omega, by omega, rfl, c⟩
    · rw [if_neg c]
      rcases ih (i := i + 1) (by omega) with z | ⟨j, z1, z2, z3⟩
      · exact Or.inl z
      · exact Or.inr ⟨j, by omega, by omega, z3⟩
theorem nI_neg1 {k : Nat} (h : k < 2 ^ 31) : ¬ nI k = -1 := fun z => absurd (z ▸ nI_pos' h) (by decide)
theorem nI_mul {a b : Nat} : nI a * nI b = nI (a * b) := (Int32.ofNat_mul a b).symm
theorem nI_mod {a b : Nat} (ha : a < 2 ^ 31) (hb : b < 2 ^ 31) : nI a - nI a / nI b * nI b = nI (a % b) := by
  rw [nI_div ha hb, nI_mul, nI_sub (Nat.div_mul_le_self a b)]
  congr 1
  have := Nat.div_add_mod a b
  rw [Nat.mul_comm] at this
  omega
def REl (B : Nat) (ow : Nat → Nat × Nat) (hx hy : mm_H) (n d : Nat) (a : Nat) : Prop := (mm_r hx B 13 = some a ∧ mm_kd hx a = 14 ∧ mm_n hx a = n) ∧ (1 ≤ n ∧ n ≤ 8) ∧ (a = B + 65 ∨ Lv B ow hx 11 0 a) ∧ mm_i hy (B + 66) 73 = nI n ∧ (mm_i hx B 14 = nI d ∧ mm_i hy (B + 66) 74 = nI d ∧ 1 ≤ d ∧ d ≤ 400) ∧ ∀ i, i < n → mm_i hx a i = mm_i hy (B + 116) i ∧ 0 ≤ mm_i hx a i ∧ mm_i hx a i ≤ 7
section EL
variable {B : Nat} {h hx hy hx' hy' : mm_H} {ow ow' : Nat → Nat × Nat} {n d nm nl nb a : Nat} {am al : Nat → Nat} {P C : Nat → Nat} {A U U' : Nat → Nat → Nat} {T : Nat → Int32} {x : Nat}
theorem REl.up (R : REl B ow hx hy n d a) {ms : List Nat} (x : mY B ow ms hx hx') (o : mO ow ow' hx) {ms' : List Nat} (y : mY B ow ms' hy hy') (h1 : 3 ∉ ms) (h2 : 103 ∉ ms') : REl B ow' hx' hy' n d a := by
  obtain ⟨⟨a1, a2, a3⟩, a4, a5, a6, ⟨a7, a8, a9⟩, a10⟩ := R
  have hB := x.1.2.2
  have ha : a < mm_sz hx := by
    rcases a5 with a5 | a5
    · omega
    · exact a5.2.1
  have hc : ∀ i, mm_i hx' a i = mm_i hx a i := fun i => by
    rcases a5 with a5 | a5
    · subst a5; exact x.iF (m := 3) (by omega) rfl h1
    · exact x.iL (m := 3) a5 rfl h1
  refine ⟨⟨(x.r0 (m := 3) rfl h1).trans a1, (x.kd ha).trans a2, (x.n ha).trans a3⟩, a4, a5.imp id fun z => z.up x o, (y.iF (m := 103) (by omega) rfl h2).trans a6, ⟨(x.i0 (m := 3) rfl h1).trans a7, (y.iF (m := 103) (by omega) rfl h2).trans a8, a9⟩, fun i hi => ?_⟩
  rw [hc, y.iF (m := 103) (by omega) rfl h2]
  exact a10 i hi
theorem x_leastMan_L2 (S : mS B hx) (L : mL B ow hx (B + 1) 0 8 nm am) (t e9 : Int32) (K : mm_H → Option (Int32 × mm_H)) : ∀ (e i fuel : Nat), i + e = nm → e < fuel → fX11_leastMan_L2 B t e9 K fuel (nI i) hx = if fstF (lmP hx am t e9) e i = -1 then K hx else some (fstF (lmP hx am t e9) e i, hx) := by
  have hsz := x_size (sk1 S) L
  have n9 := L.1
  intro e
  induction e with
  | zero =>
    intro i fuel hi hf
    obtain ⟨f, rfl⟩ : ∃ f, fuel = f + 1 := ⟨fuel - 1, by omega⟩
    show fX11_leastMan_L2_b _ _ _ _ _ _ _ = _
    unfold fX11_leastMan_L2_b
    simp only [q_rf, q_lt, q_cl, q_jn, q_b, q_b1, q_ck, kd_I, kd_J, kd_R, n_I, n_J, n_R, r_I, r_J, c_I, c_J, c_R, i_J, i_R, j_I, j_R, y_in, y_isDay, x_within, x_isDay, x_isTown, sb_xbase S, hsz]
    rw [if_pos (by rw [show i = nm by omega]; exact Int32.le_refl _)]
    rfl
  | succ e ih =>
    intro i fuel hi hf
    obtain ⟨f, rfl⟩ : ∃ f, fuel = f + 1 := ⟨fuel - 1, by omega⟩
    have hi2 : i < nm := by omega
    have hg := x_get (sk1 S) L hi2
    have kd8 := (L.2.2.2 i hi2).2
    show fX11_leastMan_L2_b _ _ _ _ _ _ _ = _
    unfold fX11_leastMan_L2_b fX7_wasThere
    simp only [q_rf, q_lt, q_cl, q_jn, q_b, q_b1, q_ck, kd_I, kd_J, kd_R, n_I, n_J, n_R, r_I, r_J, c_I, c_J, c_R, i_J, i_R, j_I, j_R, y_in, y_isDay, x_within, x_isDay, x_isTown, sb_xbase S, hsz, hg, kd8, nI_1, ih (i + 1) f (by omega) (by omega)]
    rw [if_neg (nI_ge (by omega) (by omega))]
    simp only [fstF, lmP]
    have hne : ¬ nI i = -1 := nI_neg1 (by omega)
    by_cases c1 : mm_i hx (am i) 0 = t
    · by_cases c2 : e9 < mm_i hx (am i) 2
      · have c3 : ¬ mm_i hx (am i) 2 ≤ e9 := Int32.not_le.mpr c2
        simp [c1, c2, c3, q_cl]
        exact ih (i + 1) f (by omega) (by omega)
      · have c3 : mm_i hx (am i) 2 ≤ e9 := Int32.not_lt.mp c2
        by_cases c4 : mm_i hx (am i) 4 = -1
        · simp [c1, c2, c3, c4, q_cl, hne]
        · by_cases c5 : mm_i hx (am i) 4 ≤ e9
          · have c6 : ¬ e9 < mm_i hx (am i) 4 := Int32.not_lt.mpr c5
            simp [c1, c2, c3, c4, c5, c6, q_cl]
            exact ih (i + 1) f (by omega) (by omega)
          · have c6 : e9 < mm_i hx (am i) 4 := Int32.not_le.mp c5
            simp [c1, c2, c3, c4, c5, c6, q_cl, hne]
    · simp [c1, lmP]
theorem x_leastMan (S : mS B hx) (L : mL B ow hx (B + 1) 0 8 nm am) (t e9 : Int32) : fX11_leastMan B t e9 hx = some (fstF (lmP hx am t e9) nm 0, hx) := by
  have n9 := L.1
  unfold fX11_leastMan
  rw [← nI_0, x_leastMan_L2 S L t e9 _ nm 0 mm_F (by omega) (by unfold mm_F; omega)]
  by_cases c : fstF (lmP hx am t e9) nm 0 = -1
  · rw [if_pos c, c]
  · rw [if_neg c]
theorem y_elder_L59 (S : mS B hy) (M : RMn B ow hx hy nm am) (N3 : mm_i hx B 11 ≤ 3999) (b2 b4 t e9 : Int32) (he : e9 ≤ 3999) (K : mm_H → Option (Int32 × mm_H)) : ∀ (e i fuel : Nat), i + e = nm → e < fuel → fX12_elder_L59 (B + 66) b2 e9 b4 t K fuel (nI i) hy = if fstF (lmP hx am t e9) e i = -1 then K hy else some (fstF (lmP hx am t e9) e i, hy) := by
  obtain ⟨M1, M2, M3, M4⟩ := id M
  intro e
  induction e with
  | zero =>
    intro i fuel hi hf
    obtain ⟨f, rfl⟩ : ∃ f, fuel = f + 1 := ⟨fuel - 1, by omega⟩
    show fX12_elder_L59_b _ _ _ _ _ _ _ _ _ = _
    unfold fX12_elder_L59_b
    simp only [q_rf, q_lt, q_cl, q_jn, q_b, q_b1, q_ck, kd_I, kd_J, kd_R, n_I, n_J, n_R, r_I, r_J, c_I, c_J, c_R, i_J, i_R, j_I, j_R, y_in, y_isDay, x_within, x_isDay, x_isTown, sb_ymen S, M3]
    rw [if_pos (by rw [show i = nm by omega]; exact Int32.le_refl _)]
    rfl
  | succ e ih =>
    intro i fuel hi hf
    obtain ⟨f, rfl⟩ : ∃ f, fuel = f + 1 := ⟨fuel - 1, by omega⟩
    have hi2 : i < nm := by omega
    have hq := fun (β : Type) (z : Option β) => q_ckx (show i < 40 by omega) (by decide) z
    have hcl := nI_clamp (n := i) (by omega)
    obtain ⟨m1, m2, m3, m4⟩ := M4 i hi2
    show fX12_elder_L59_b _ _ _ _ _ _ _ _ _ = _
    unfold fX12_elder_L59_b
    simp only [q_rf, q_lt, q_cl, q_jn, q_b, q_b1, q_ck, kd_I, kd_J, kd_R, n_I, n_J, n_R, r_I, r_J, c_I, c_J, c_R, i_J, i_R, j_I, j_R, y_in, y_isDay, x_within, x_isDay, x_isTown, sb_ymen S, M3, hq, hcl, m1.1, m3.1, nI_1, ih (i + 1) f (by omega) (by omega)]
    rw [if_neg (nI_ge (by omega) (by omega))]
    simp only [fstF, lmP]
    have hne : ¬ nI i = -1 := nI_neg1 (by omega)
    by_cases c1 : mm_i hx (am i) 0 = t
    · by_cases c2 : e9 < mm_i hx (am i) 2
      · have c3 : ¬ mm_i hx (am i) 2 ≤ e9 := Int32.not_le.mpr c2
        simp [c1, c2, c3, lmP]
      · have c3 : mm_i hx (am i) 2 ≤ e9 := Int32.not_lt.mp c2
        rcases m4 with ⟨c4, c5⟩ | ⟨c4, c5, c6⟩
        · have c6 : ¬ (100000 : Int32) ≤ e9 := fun z => absurd (Int32.le_trans z he) (by decide)
          simp [c1, c2, c3, c4, c5, c6, hne]
        · have c7 : ¬ mm_i hx (am i) 4 = -1 := fun z => absurd (z ▸ c4) (by decide)
          by_cases c8 : mm_i hx (am i) 4 ≤ e9
          · have c9 : ¬ e9 < mm_i hx (am i) 4 := Int32.not_lt.mpr c8
            simp [c1, c2, c3, c6, c7, c8, c9, lmP]
          · have c9 : e9 < mm_i hx (am i) 4 := Int32.not_le.mp c8
            simp [c1, c2, c3, c6, c7, c8, c9, hne]
    · simp [c1, lmP]
def elV (hx : mm_H) (am : Nat → Nat) (nm a n t d : Nat) : Nat → Nat → Int32
  | 0, _ => -1
  | e + 1, i => if fstF (lmP hx am (mm_i hx a ((t + i) % n)) (nI (t * d))) nm 0 = -1 then elV hx am nm a n t d e (i + 1) else fstF (lmP hx am (mm_i hx a ((t + i) % n)) (nI (t * d))) nm 0
theorem x_elderOn_L28 (S : mS B hx) (L : mL B ow hx (B + 1) 0 8 nm am) (R : REl B ow hx hy n d a) {t : Nat} (ht : t < 2 ^ 20) (K : mm_H → Option (Int32 × mm_H)) : ∀ (e i fuel : Nat), i + e = n → e < fuel → fX11_elderOn_L28 B (nI t) K fuel (nI i) hx = if elV hx am nm a n t d e i = -1 then K hx else some (elV hx am nm a n t d e i, hx) := by
  obtain ⟨⟨a1, a2, a3⟩, a4, a5, a6, ⟨a7, a8, a9⟩, a10⟩ := R
  have n0 : ¬ nI n = 0 := nI_ne0 (by omega) (by omega)
  intro e
  induction e with
  | zero =>
    intro i fuel hi hf
    obtain ⟨f, rfl⟩ : ∃ f, fuel = f + 1 := ⟨fuel - 1, by omega⟩
    show fX11_elderOn_L28_b _ _ _ _ _ _ = _
    unfold fX11_elderOn_L28_b
    simp only [q_rf, q_lt, q_cl, q_jn, q_b, q_b1, q_ck, kd_I, kd_J, kd_R, n_I, n_J, n_R, r_I, r_J, c_I, c_J, c_R, i_J, i_R, j_I, j_R, y_in, y_isDay, x_within, x_isDay, x_isTown, sk0 S, a1, a2, a3]
    rw [if_pos (by rw [show i = n by omega]; exact Int32.le_refl _)]
    rfl
  | succ e ih =>
    intro i fuel hi hf
    obtain ⟨f, rfl⟩ : ∃ f, fuel = f + 1 := ⟨fuel - 1, by omega⟩
    have hm : (t + i) % n < n := Nat.mod_lt _ (by omega)
    have hq := fun (β : Type) (z : Option β) => q_ckx hm (by omega) z
    have hcl := nI_clamp (n := (t + i) % n) (by omega)
    have hmod := nI_mod (a := t + i) (b := n) (by omega) (by omega)
    have hl := x_leastMan S L (mm_i hx a ((t + i) % n)) (nI (t * d))
    show fX11_elderOn_L28_b _ _ _ _ _ _ = _
    unfold fX11_elderOn_L28_b
    rw [a7, nI_add, nI_mul]
    simp only [q_rf, q_lt, q_cl, q_jn, q_b, q_b1, q_ck, kd_I, kd_J, kd_R, n_I, n_J, n_R, r_I, r_J, c_I, c_J, c_R, i_J, i_R, j_I, j_R, y_in, y_isDay, x_within, x_isDay, x_isTown, sk0 S, a1, a2, a3, n0, not_false_iff, hmod, hq, hcl, hl, nI_1, ih (i + 1) f (by omega) (by omega)]
    rw [if_neg (nI_ge (by omega) (by omega))]
    simp only [elV]
    by_cases c : fstF (lmP hx am (mm_i hx a ((t + i) % n)) (nI (t * d))) nm 0 = -1
    · simp only [c, if_true]
    · simp only [c, if_false]
theorem x_elderOn (S : mS B hx) (L : mL B ow hx (B + 1) 0 8 nm am) (R : REl B ow hx hy n d a) {q : Nat} (hq9 : q ≤ 3999) : fX11_elderOn B (nI q) hx = some (elV hx am nm a n (q / d) d n 0, hx) := by
  obtain ⟨⟨a1, a2, a3⟩, a4, a5, a6, ⟨a7, a8, a9, a9'⟩, a10⟩ := id R
  have hd : q / d ≤ q := Nat.div_le_self _ _
  have e1 : ¬ nI d < 1 := by rw [show (1 : Int32) = nI 1 by decide +kernel]; exact nI_nlt a9 (by omega)
  have e2 : (1 : Int32) ≤ nI n := by rw [show (1 : Int32) = nI 1 by decide +kernel]; exact nI_le a4.1 (by omega)
  have e3 : ¬ nI d = 0 := nI_ne0 (by omega) (by omega)
  unfold fX11_elderOn
  rw [a7]
  simp only [q_rf, q_lt, q_cl, q_jn, q_b, q_b1, q_ck, kd_I, kd_J, kd_R, n_I, n_J, n_R, r_I, r_J, c_I, c_J, c_R, i_J, i_R, j_I, j_R, y_in, y_isDay, x_within, x_isDay, x_isTown, sk0 S, a1, a2, a3, e1, e2, e3, not_false_iff, if_true, if_false, nI_div (show q < 2 ^ 31 by omega) (show d < 2 ^ 31 by omega)]
  have := x_elderOn_L28 S L R (t := q / d) (by omega) (fun g19 => some (-1, g19)) n 0 mm_F (by omega) (by unfold mm_F; omega)
  rw [nI_0] at this
  rw [this]
  by_cases c : elV hx am nm a n (q / d) d n 0 = -1
  · rw [if_pos c, c]
  · rw [if_neg c]
theorem y_elder_L26 (S : mS B hy) (M : RMn B ow hx hy nm am) (N3 : mm_i hx B 11 ≤ 3999) (R : REl B ow hx hy n d a) {t : Nat} (ht : t < 2 ^ 20) (htd : t * d ≤ 3999) (K : mm_H → Option (Int32 × mm_H)) : ∀ (e i fuel : Nat), i + e = n → e < fuel → fX12_elder_L26 (B + 66) (nI t) (nI (t * d)) K fuel (nI i) hy = if elV hx am nm a n t d e i = -1 then K hy else some (elV hx am nm a n t d e i, hy) := by
  obtain ⟨⟨a1, a2, a3⟩, a4, a5, a6, ⟨a7, a8, a9⟩, a10⟩ := R
  have n0 : ¬ nI n = 0 := nI_ne0 (by omega) (by omega)
  have m9 := M.1
  have htd2 : nI (t * d) ≤ 3999 := nI_le (b := 3999) htd (by omega)
  intro e
  induction e with
  | zero =>
    intro i fuel hi hf
    obtain ⟨f, rfl⟩ : ∃ f, fuel = f + 1 := ⟨fuel - 1, by omega⟩
    show fX12_elder_L26_b _ _ _ _ _ _ _ = _
    unfold fX12_elder_L26_b
    simp only [q_rf, q_lt, q_cl, q_jn, q_b, q_b1, q_ck, kd_I, kd_J, kd_R, n_I, n_J, n_R, r_I, r_J, c_I, c_J, c_R, i_J, i_R, j_I, j_R, y_in, y_isDay, x_within, x_isDay, x_isTown, sk66 S, a6]
    rw [if_pos (by rw [show i = n by omega]; exact Int32.le_refl _)]
    rfl
  | succ e ih =>
    intro i fuel hi hf
    obtain ⟨f, rfl⟩ : ∃ f, fuel = f + 1 := ⟨fuel - 1, by omega⟩
    have hm : (t + i) % n < n := Nat.mod_lt _ (by omega)
    have hq := fun (β : Type) (z : Option β) => q_ckx (show (t + i) % n < 8 by omega) (by omega) z
    have hcl := nI_clamp (n := (t + i) % n) (by omega)
    have hmod1 := nI_mod (a := t) (b := n) (by omega) (by omega)
    have hlt := Nat.mod_lt t (show n > 0 by omega)
    have hmod2 := nI_mod (a := t % n + i) (b := n) (by omega) (by omega)
    rw [Nat.mod_add_mod] at hmod2
    have hl := fun K => y_elder_L59 S M N3 (nI t) (nI i) (mm_i hx a ((t + i) % n)) (nI (t * d)) htd2 K nm 0 mm_F (by omega) (by unfold mm_F; omega)
    simp only [nI_0] at hl
    show fX12_elder_L26_b _ _ _ _ _ _ _ = _
    unfold fX12_elder_L26_b
    rw [a6, hmod1, nI_add, hmod2]
    simp only [q_rf, q_lt, q_cl, q_jn, q_b, q_b1, q_ck, kd_I, kd_J, kd_R, n_I, n_J, n_R, r_I, r_J, c_I, c_J, c_R, i_J, i_R, j_I, j_R, y_in, y_isDay, x_within, x_isDay, x_isTown, sb_yorder S, n0, not_false_iff, hq, hcl, ← (a10 _ hm).1, hl, nI_1, ih (i + 1) f (by omega) (by omega)]
    rw [if_neg (nI_ge (by omega) (by omega))]
    simp only [elV]
    by_cases c : fstF (lmP hx am (mm_i hx a ((t + i) % n)) (nI (t * d))) nm 0 = -1
    · simp only [c, if_true]
    · simp only [c, if_false]
theorem y_elder (S : mS B hy) (M : RMn B ow hx hy nm am) (N3 : mm_i hx B 11 ≤ 3999) (R : REl B ow hx hy n d a) {q : Nat} (hq9 : q ≤ 3999) : fX12_elder (B + 66) (nI q) hy = some (elV hx am nm a n (q / d) d n 0, hy) := by
  obtain ⟨⟨a1, a2, a3⟩, a4, a5, a6, ⟨a7, a8, a9, a9'⟩, a10⟩ := id R
  have hd : q / d ≤ q := Nat.div_le_self _ _
  have hdm : q / d * d ≤ q := Nat.div_mul_le_self _ _
  have e3 : ¬ nI d = 0 := nI_ne0 (by omega) (by omega)
  have e4 : 0 ≤ nI q ∧ nI q ≤ 3999 := ⟨nI_pos' (by omega), nI_le (b := 3999) hq9 (by omega)⟩
  unfold fX12_elder
  rw [y_isDay, if_pos e4, q_cl, if_pos (by decide), a8, nI_div (by omega) (by omega), q_lt, nI_mul, q_lt]
  simp only [q_rf, q_lt, q_cl, q_jn, q_b, q_b1, q_ck, kd_I, kd_J, kd_R, n_I, n_J, n_R, r_I, r_J, c_I, c_J, c_R, i_J, i_R, j_I, j_R, y_in, y_isDay, x_within, x_isDay, x_isTown, sk66 S, e3, not_false_iff]
  have := y_elder_L26 S M N3 R (t := q / d) (by omega) (by omega) (fun g19 => some (-1, g19)) n 0 mm_F (by omega) (by unfold mm_F; omega)
  rw [nI_0] at this
  rw [this]
  by_cases c : elV hx am nm a n (q / d) d n 0 = -1
  · rw [if_pos c, c]
  · rw [if_neg c]
theorem T_elder (S : mS B h) (N : RNow B h) (M : RMn B ow h h nm am) (R : REl B ow h h n d a) (b : Int32) : ∃ r, fX11_elder B b h = some (r, h) ∧ fX12_elder (B + 66) b h = some (r, h) := by
  by_cases c : 0 ≤ b ∧ b ≤ 3999
  case neg => exact ⟨-1, by unfold fX11_elder; simp only [q_rf, q_lt, q_cl, q_jn, q_b, q_b1, q_ck, kd_I, kd_J, kd_R, n_I, n_J, n_R, r_I, r_J, c_I, c_J, c_R, i_J, i_R, j_I, j_R, y_in, y_isDay, x_within, x_isDay, x_isTown, c, q_10, q_01, eq_self, i_I, Nat.reduceEqDiff, Nat.add_left_cancel_iff, Nat.add_eq_left, Nat.left_eq_add, and_false, false_and, and_true, true_and, if_true, if_false, and_self, not_true, not_false_iff, reduceCtorEq], by unfold fX12_elder; simp only [q_rf, q_lt, q_cl, q_jn, q_b, q_b1, q_ck, kd_I, kd_J, kd_R, n_I, n_J, n_R, r_I, r_J, c_I, c_J, c_R, i_J, i_R, j_I, j_R, y_in, y_isDay, x_within, x_isDay, x_isTown, c, q_10, q_01, eq_self, i_I, Nat.reduceEqDiff, Nat.add_left_cancel_iff, Nat.add_eq_left, Nat.left_eq_add, and_false, false_and, and_true, true_and, if_true, if_false, and_self, not_true, not_false_iff, reduceCtorEq]⟩
  obtain ⟨q, hq, rfl⟩ := nI_of (Int32.not_lt.mpr c.1)
  have q9 : q ≤ 3999 := (nI_leI (b := 3999) hq (by omega)).mp c.2
  refine ⟨_, ?_, y_elder S M N.2.2 R q9⟩
  unfold fX11_elder
  simp only [q_rf, q_lt, q_cl, q_jn, q_b, q_b1, q_ck, kd_I, kd_J, kd_R, n_I, n_J, n_R, r_I, r_J, c_I, c_J, c_R, i_J, i_R, j_I, j_R, y_in, y_isDay, x_within, x_isDay, x_isTown, c, sk0 S, x_elderOn S M.2.1 R q9, q_10, q_01, eq_self, i_I, Nat.reduceEqDiff, Nat.add_left_cancel_iff, Nat.add_eq_left, Nat.left_eq_add, and_false, false_and, and_true, true_and, if_true, if_false, and_self, not_true, not_false_iff, reduceCtorEq]
end EL
