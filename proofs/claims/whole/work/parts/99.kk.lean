/-! sums alike -/
/-- what waits in a sum: times, and before it + or - -/
def pnS (b : Bool) (w : Nat) : List Nat := (if b = true then [5] else []) ++ (if w = 0 then [] else [w])
def emS (b : Bool) (w : Nat) (cs : List (Nat × Nat)) : List (Nat × Nat) := if w = 0 then (if b = true then (5, 0) :: cs else cs) else (w, 0) :: (if b = true then (5, 0) :: cs else cs)
def vlS (b : Bool) (w : Nat) : Nat := (if w = 0 then 0 else 1) + (if b = true then 1 else 0)
def rpF (o : Bool) : Nat → List Bool → List Bool
  | 0, s => s
  | k + 1, s => o :: rpF o k s
theorem rpF_len {o : Bool} : ∀ {k : Nat} {s : List Bool}, (rpF o k s).length = k + s.length := by
  intro k
  induction k with
  | zero => intro s; rw [Nat.zero_add]; rfl
  | succ k ih => intro s; simp only [rpF, List.length_cons]; rw [ih]; omega
/-- kinds, with some values that wait below -/
def tyV (o : Bool) (V : Nat) (new : List (Nat × Nat)) (c c' : Nat) : Prop := (∀ seg s, tyL seg = some (rpF o V s) → V + s.length ≤ c → tyL (new ++ seg) = some (o :: s)) ∧ (∀ x, x ∈ new → okC x) ∧ c < c'
theorem tyL_c {x : Nat × Nat} {r : List (Nat × Nat)} {s s' : List Bool} (h : tyL r = some s) (e : tyStep x.1 s = some s') : tyL (x :: r) = some s' := by
  simp only [tyL]
  rw [h]
  exact e
section KM
variable {B : Nat} {h h' : mm_H} {t : Nat → Int32} {n m i c N : Nat} {s : List Nat} {cs : List (Nat × Nat)}
theorem sumS_t (h : tp s ≠ 3 ∧ tp s ≠ 4 ∧ tp s ≠ 5) {b : Bool} : sumS b s cs = (s, cs) := by
  cases s with
  | nil => rfl
  | cons k r =>
    have hk : k ≠ 3 ∧ k ≠ 4 ∧ k ≠ 5 := h
    simp only [sumS]
    rw [if_neg (by omega)]
theorem sumS_f (h : tp s ≠ 3 ∧ tp s ≠ 4 ∧ tp s ≠ 5) {b : Bool} {w : Nat} (hw : w = 0 ∨ w = 3 ∨ w = 4) : sumS false (pnS b w ++ s) cs = (s, emS b w cs) ∧ sumS true (pnS b w ++ s) cs = (pnS false w ++ s, if b = true then (5, 0) :: cs else cs) := by
  rcases hw with rfl | rfl | rfl <;> cases b <;> simp [pnS, emS, sumS, sumS_t h]
theorem pnS_dc {b : Bool} {w : Nat} (hw : w = 0 ∨ w = 3 ∨ w = 4) : dc (pnS b w ++ s) = dc s := by
  rcases hw with rfl | rfl | rfl <;> cases b <;> simp [pnS, dc]
theorem pnS_len {b : Bool} {w : Nat} (hw : w = 0 ∨ w = 3 ∨ w = 4) : (pnS b w ++ s).length = vlS b w + s.length ∧ (emS b w cs).length = vlS b w + cs.length := by
  rcases hw with rfl | rfl | rfl <;> cases b <;> simp [pnS, emS, vlS] <;> omega
theorem emS_app {b : Bool} {w : Nat} {new : List (Nat × Nat)} (hw : w = 0 ∨ w = 3 ∨ w = 4) : emS b w (new ++ cs) = emS b w new ++ cs := by
  rcases hw with rfl | rfl | rfl <;> cases b <;> rfl
theorem emS_ty {b : Bool} {w : Nat} {X : List (Nat × Nat)} {τ : List Bool} (hw : w = 0 ∨ w = 3 ∨ w = 4) (h : tyL X = some (false :: rpF false (vlS b w) τ)) : tyL (emS b w X) = some (false :: τ) ∧ tyL (if b = true then (5, 0) :: X else X) = some (false :: rpF false (if w = 0 then 0 else 1) τ) := by
  have t5 : ∀ q, tyStep 5 (false :: false :: q) = some (false :: q) := fun q => rfl
  have t3 : ∀ q, tyStep 3 (false :: false :: q) = some (false :: q) := fun q => rfl
  have t4 : ∀ q, tyStep 4 (false :: false :: q) = some (false :: q) := fun q => rfl
  rcases hw with rfl | rfl | rfl <;> cases b
  · exact ⟨h, h⟩
  · exact ⟨tyL_c h (t5 _), tyL_c h (t5 _)⟩
  · exact ⟨tyL_c h (t3 _), h⟩
  · exact ⟨tyL_c (tyL_c h (t5 _)) (t3 _), tyL_c h (t5 _)⟩
  · exact ⟨tyL_c h (t4 _), h⟩
  · exact ⟨tyL_c (tyL_c h (t5 _)) (t4 _), tyL_c h (t5 _)⟩
theorem emS_ok {b : Bool} {w : Nat} {X : List (Nat × Nat)} (hw : w = 0 ∨ w = 3 ∨ w = 4) (h : ∀ x, x ∈ X → okC x) : (∀ x, x ∈ emS b w X → okC x) ∧ ∀ x, x ∈ (if b = true then (5, 0) :: X else X) → okC x := by
  have o : ∀ k, 2 ≤ k → k ≤ 14 → okC (k, 0) := fun k h1 h2 => ⟨fun z => by have : k = 0 := z; omega, fun z => by have : k = 1 := z; omega, h2⟩
  have c1 : ∀ {Y : List (Nat × Nat)} {k}, (∀ x, x ∈ Y → okC x) → 2 ≤ k → k ≤ 14 → ∀ x, x ∈ (k, 0) :: Y → okC x := fun hY h1 h2 x hx => by
    rcases List.mem_cons.mp hx with z | z
    · rw [z]; exact o _ h1 h2
    · exact hY x z
  rcases hw with rfl | rfl | rfl <;> cases b
  · exact ⟨h, h⟩
  · exact ⟨c1 h (by omega) (by omega), c1 h (by omega) (by omega)⟩
  · exact ⟨c1 h (by omega) (by omega), h⟩
  · exact ⟨c1 (c1 h (by omega) (by omega)) (by omega) (by omega), c1 h (by omega) (by omega)⟩
  · exact ⟨c1 h (by omega) (by omega), h⟩
  · exact ⟨c1 (c1 h (by omega) (by omega)) (by omega) (by omega), c1 h (by omega) (by omega)⟩
def wcI (w : Nat) : Int32 := if w = 0 then -1 else nI (w + 24)
/-- the class's loop over a sum's values, with what waits -/
theorem J_sum_L (hV : PV B t n m N) {rc1 : Nat → Int32 → mm_H → Option (Int32 × mm_H)} (K : mm_H → Option (Int32 × mm_H)) {s : List Nat} (hs : tp s ≠ 3 ∧ tp s ≠ 4 ∧ tp s ≠ 5) (hd : dc s ≤ 10) (hNd : 2 * (11 - dc s) ≤ N) : ∀ (e : Nat) (h : mm_H) (i c : Nat) (cs : List (Nat × Nat)) (b : Bool) (w u fuel : Nat), m - i < e → e < fuel → xS B h t n m i c cs → c ≤ 80 → (w = 0 ∨ w = 3 ∨ w = 4) → u ≤ i → (pnS b w ++ s).length + cs.length ≤ i → (∃ h' i' c' new k, fX5_readSum_L7 (fgG1 N).1 rc1 (B + 5) (nI (dc s)) K fuel (wcI w) (if b = true then 1 else 0) (nI u) h = some (1, h') ∧ mX B (wPx B) h h' ∧ xS B h' t n m i' c' (new ++ cs) ∧ i < i' ∧ c' ≤ 80 ∧ tyV false (vlS b w) new c c' ∧ s.length + (new ++ cs).length ≤ i' ∧ k ≤ 3 * (i' - i) ∧ ∃ s1 cs1, (∀ f, rRun t n (f + k) (1, i, c, pnS b w ++ s, cs, 0) = rRun t n f (2, i', c', s1, cs1, 0)) ∧ sumS false s1 cs1 = (s, new ++ cs) ∧ (tkF t n (plF t n i') ≠ 27 ∧ tkF t n (plF t n i') ≠ 28 ∧ tkF t n (plF t n i') ≠ 29)) ∨ flR B t n m (fX5_readSum_L7 (fgG1 N).1 rc1 (B + 5) (nI (dc s)) K fuel (wcI w) (if b = true then 1 else 0) (nI u) h) h i c (pnS b w ++ s) cs 1 := by
  intro e
  induction e with
  | zero => intro h i c cs b w u fuel he; omega
  | succ e ih =>
    intro h i c cs b w u fuel he hf X hc hw hu hb
    obtain ⟨g, rfl⟩ : ∃ f, fuel = f + 1 := ⟨fuel - 1, by omega⟩
    have S := X.1.1
    have hm9 := X.1.2.2.2.1
    have him := X.2.1.2
    obtain ⟨pl1, -⟩ := pnS_len (s := s) (cs := cs) (b := b) hw
    have r1 := hV h i c (pnS b w ++ s) cs X hc (by rw [pnS_dc hw]; exact hd) (by rw [pnS_dc hw]; exact hNd) hb
    rw [pnS_dc hw] at r1
    have eL : ∀ fuel x2 x3 x4 h, fX5_readSum_L7 (fgG1 N).1 rc1 (B + 5) (nI (dc s)) K (fuel + 1) x2 x3 x4 h = fX5_readSum_L7_b (fgG1 N).1 rc1 (B + 5) (nI (dc s)) K (fX5_readSum_L7 (fgG1 N).1 rc1 (B + 5) (nI (dc s)) K fuel) x2 x3 x4 h := fun _ _ _ _ _ => rfl
    rw [eL]
    unfold fX5_readSum_L7_b
    rw [if_neg (show ¬ (400 : Int32) < nI u from nI_nlt (a := 400) (by omega) (by omega)), q_ck (sk5 S)]
    rcases r1 with ⟨g1, i1, c1, new1, k1, r1, r2, X1, r4, r4', r5, r6, r7, r8⟩ | ⟨g1, k1, r, r1, r2, r3, r4, r5, r6⟩
    · rw [r1, p_cl, if_pos (show ¬ (1 : Int32) = 0 by decide)]
      have him1 := X1.2.1.2
      obtain ⟨pl2, pl3⟩ := pnS_len (s := s) (cs := new1 ++ cs) (b := b) hw
      rw [pl2] at r6
      have hV1 : vlS b w ≤ 2 ∧ (b = true → 1 ≤ vlS b w) ∧ (w ≠ 0 → 1 ≤ vlS b w) ∧ (b = true → w ≠ 0 → 2 ≤ vlS b w) := by
        unfold vlS
        rcases hw with rfl | rfl | rfl <;> cases b <;> simp
      -- times that waits
      obtain ⟨g2, j1, x2, X2⟩ : ∃ g2, (∀ (q8 : mm_H → Option (Int32 × mm_H)), (if (if b = true then (1 : Int32) else 0) = 0 then (q8 g1) else (mm_ck (mm_kd g1 (B + 5) = 6) <| mm_cl (fX5_emit (B + 5) (-30 : Int32) g1) fun _ g34 => q8 g34)) = q8 g2) ∧ mX B (wPx B) g1 g2 ∧ xS B g2 t n m i1 c1 (if b = true then (5, 0) :: (new1 ++ cs) else new1 ++ cs) := by
        cases b with
        | false => exact ⟨g1, fun q => by rw [if_neg (show ¬ false = true by decide), if_pos rfl], mX.rf X1.1.1.1, X1⟩
        | true =>
          obtain ⟨g2, q1, q2, q3⟩ := x_emit X1 (by have := hV1.2.1 rfl; omega) (o := 5) (w := 0) (v := -30) (by decide +kernel)
          exact ⟨g2, fun q => by rw [if_pos rfl, if_neg (show ¬ (1 : Int32) = 0 by decide), q_ck (sk5 X1.1.1), q1, p_cl], q2, q3⟩
      have S2 := X2.1.1
      have hk := tk_b (t := t) (n := n) (p := plF t n i1)
      have hq := fun (β : Type) (z : Option β) => q_ckx (show i1 < 401 by omega) (by decide) z
      have htok := (X2.1.2.1 i1 (by omega)).1
      -- + or - that waits
      have later : ∃ g3, (∀ (q25 : mm_H → Option (Int32 × mm_H)), (if wcI w = (-1 : Int32) then (q25 g2) else (mm_cl (fX5_emit (B + 5) (((-1 : Int32) - wcI w)) g2) fun _ g29 => q25 g29)) = q25 g3) ∧ mX B (wPx B) g2 g3 ∧ xS B g3 t n m i1 c1 (emS b w (new1 ++ cs)) := by
        have hlen : (if b = true then (5, 0) :: (new1 ++ cs) else new1 ++ cs).length ≤ (new1 ++ cs).length + (if b = true then 1 else 0) := by
          cases b <;> simp
        have hv := hV1.2.2.2
        have hv2 := hV1.2.2.1
        rcases hw with rfl | rfl | rfl
        · exact ⟨g2, fun q => if_pos rfl, mX.rf S2.1, X2⟩
        · obtain ⟨g3, q1, q2, q3⟩ := x_emit X2 (by cases b <;> simp at * <;> omega) (o := 3) (w := 0) (v := (-1 : Int32) - wcI 3) rfl
          exact ⟨g3, fun q => by rw [if_neg (show ¬ wcI 3 = (-1 : Int32) by decide +kernel), q1, p_cl], q2, q3⟩
        · obtain ⟨g3, q1, q2, q3⟩ := x_emit X2 (by cases b <;> simp at * <;> omega) (o := 4) (w := 0) (v := (-1 : Int32) - wcI 4) rfl
          exact ⟨g3, fun q => by rw [if_neg (show ¬ wcI 4 = (-1 : Int32) by decide +kernel), q1, p_cl], q2, q3⟩
      obtain ⟨g3, j3, x3, X3⟩ := later
      have S3 := X3.1.1
      have x13 := (r2.tr x2).tr x3
      -- kinds behind it
      have tyA : ∀ seg τ, tyL seg = some (rpF false (vlS b w) τ) → vlS b w + τ.length ≤ c → tyL (new1 ++ seg) = some (false :: rpF false (vlS b w) τ) := fun seg τ h1 h2 => r5.1 seg _ h1 (by rw [rpF_len]; exact h2)
      have cc1 := r5.2.2
      obtain ⟨E, hE⟩ : ∃ E : List (Nat × Nat), E = (if b = true then (5, 0) :: new1 else new1) := ⟨_, rfl⟩
      have hE2 : (if b = true then (5, 0) :: (new1 ++ cs) else new1 ++ cs) = E ++ cs := by rw [hE]; cases b <;> rfl
      rw [hE2] at X2
      rw [emS_app hw] at X3
      have okE := emS_ok (b := b) (X := new1) hw r5.2.1
      have lE : (E ++ cs).length + (if w = 0 then 0 else 1) = vlS b w + (new1 ++ cs).length := by
        rw [hE]; unfold vlS
        cases b <;> simp <;> omega
      have lM : (emS b w new1 ++ cs).length = vlS b w + (new1 ++ cs).length := by
        rw [← emS_app hw]; exact pl3
      rw [jn_eq g2 j1, q_ck (sk5 S2), sr5_2 S2, p_rf, q_ck (sk7 S2), X2.2.1.1, sn7 S2, hq, nI_clamp (by omega), htok, p_lt]
      have stepH : ∀ f r', rH t n i1 c1 (pnS b w ++ s) (new1 ++ cs) = r' → rRun t n (f + (k1 + 1)) (1, i, c, pnS b w ++ s, cs, 0) = rRun t n f r' := fun f r' hr => by
        rw [show f + (k1 + 1) = (f + 1) + k1 by omega, r8, rRun_s _ (by show (2 : Nat) ≠ 4; omega) rfl, ← hr]; rfl
      obtain ⟨sf1, sf2⟩ := sumS_f (cs := new1 ++ cs) (b := b) hs hw
      -- the loop goes on with other flags
      have go : ∀ (b' : Bool) (w' : Nat) (E' : List (Nat × Nat)) (g4 : mm_H), (w' = 0 ∨ w' = 3 ∨ w' = 4) → xS B g4 t n m i1 c1 (E' ++ cs) → mX B (wPx B) h g4 → i1 < m → rH t n i1 c1 (pnS b w ++ s) (new1 ++ cs) = (1, i1 + 1, c1, pnS b' w' ++ s, E' ++ cs, 0) → vlS b' w' + s.length + (E' ++ cs).length ≤ i1 + 1 → vlS b' w' ≤ vlS b w + 1 → (∀ x, x ∈ E' → okC x) → (∀ seg τ, tyL seg = some (rpF false (vlS b w) τ) → vlS b w + τ.length ≤ c → tyL (E' ++ seg) = some (rpF false (vlS b' w') τ)) → ∀ res, res = (mm_ck (mm_kd g4 (B + 5) = 6) <| mm_cl (fX5_goOn (B + 5) g4) fun _ g20 => mm_lt (nI u + (1 : Int32)) fun v22 => fX5_readSum_L7 (fgG1 N).1 rc1 (B + 5) (nI (dc s)) K g (wcI w') (if b' = true then 1 else 0) v22 g20) → (∃ h' i' c' new k, res = some (1, h') ∧ mX B (wPx B) h h' ∧ xS B h' t n m i' c' (new ++ cs) ∧ i < i' ∧ c' ≤ 80 ∧ tyV false (vlS b w) new c c' ∧ s.length + (new ++ cs).length ≤ i' ∧ k ≤ 3 * (i' - i) ∧ ∃ s1 cs1, (∀ f, rRun t n (f + k) (1, i, c, pnS b w ++ s, cs, 0) = rRun t n f (2, i', c', s1, cs1, 0)) ∧ sumS false s1 cs1 = (s, new ++ cs) ∧ (tkF t n (plF t n i') ≠ 27 ∧ tkF t n (plF t n i') ≠ 28 ∧ tkF t n (plF t n i') ≠ 29)) ∨ flR B t n m res h i c (pnS b w ++ s) cs 1 := by
        intro b' w' E' g4 hw' X4 x4 hlt hH hl1 hl2 hok hty res hres
        obtain ⟨g5, q1, q2, X5⟩ := x_goOn X4 hlt
        obtain ⟨ql, -⟩ := pnS_len (s := s) (cs := cs) (b := b') hw'
        have rr := ih g5 (i1 + 1) c1 (E' ++ cs) b' w' (u + 1) g (by omega) (by omega) X5 r4' hw' (by omega) (by rw [ql]; omega)
        have eres : res = fX5_readSum_L7 (fgG1 N).1 rc1 (B + 5) (nI (dc s)) K g (wcI w') (if b' = true then 1 else 0) (nI (u + 1)) g5 := by
          rw [hres, q_ck (sk5 X4.1.1), q1, p_cl, nI_1, p_lt]
        rw [eres]
        rcases rr with ⟨g6, i2, c2, new2, k2, p1, p2, p3, p4, p5, p6, p7, p8, s1, cs1, p9, p10, p11⟩ | ⟨g6, k2, r, p1, p2, p3, p4, p5, p6⟩
        · have ea : new2 ++ (E' ++ cs) = (new2 ++ E') ++ cs := (List.append_assoc _ _ _).symm
          rw [ea] at p3 p7 p10
          refine Or.inl ⟨g6, i2, c2, new2 ++ E', k2 + (k1 + 1), p1, (x4.tr q2).tr p2, p3, by omega, p5, ⟨fun seg τ h1 h2 => ?_, fun x hx => ?_, by have := p6.2.2; omega⟩, p7, by omega, s1, cs1, fun f => ?_, p10, p11⟩
          · rw [List.append_assoc]
            exact p6.1 _ τ (hty seg τ h1 h2) (by omega)
          · rcases List.mem_append.mp hx with z | z
            · exact p6.2.1 x z
            · exact hok x z
          · rw [show f + (k2 + (k1 + 1)) = (f + k2) + (k1 + 1) by omega, stepH _ _ hH]; exact p9 f
        · refine Or.inr ⟨g6, k2 + (k1 + 1), r, p1, (x4.tr q2).tr p2, p3, p4, by omega, fun f => ?_⟩
          rw [show f + (k2 + (k1 + 1)) + 1 = (f + k2 + 1) + (k1 + 1) by omega, stepH _ _ hH]; exact p6 f
      by_cases c29 : tkF t n (plF t n i1) = 29
      · have hlt := X2.lt (by omega)
        rw [p_jn, if_neg (not_not_intro (show nI (tkF t n (plF t n i1)) = (29 : Int32) by rw [c29]; rfl))]
        dsimp only
        rw [p_jn, if_pos (show ¬ (1 : Int32) = 0 by decide)]
        dsimp only
        refine go true w E g2 hw X2 (r2.tr x2) hlt ?_ ?_ ?_ ?_ ?_ _ rfl
        · unfold rH
          rw [if_pos c29, sf2]
          show (1, i1 + 1, c1, 5 :: (pnS false w ++ s), (if b = true then (5, 0) :: (new1 ++ cs) else new1 ++ cs), 0) = _
          rw [hE2]
          rcases hw with rfl | rfl | rfl <;> rfl
        · have : vlS true w = (if w = 0 then 0 else 1) + 1 := rfl
          omega
        · unfold vlS; cases b <;> simp
        · intro x hx; rw [hE] at hx; exact okE.2 x hx
        · intro seg τ h1 h2
          have h3 := (emS_ty (b := b) (w := w) hw (tyA seg τ h1 h2)).2
          have h4 : E ++ seg = (if b = true then (5, 0) :: (new1 ++ seg) else new1 ++ seg) := by rw [hE]; cases b <;> rfl
          rw [h4, h3]
          show some (false :: rpF false (if w = 0 then 0 else 1) τ) = some (rpF false ((if w = 0 then 0 else 1) + 1) τ)
          rfl
      · have n29 : ¬ nI (tkF t n (plF t n i1)) = (29 : Int32) := fun z => c29 ((nI_eq (b := 29) (by omega) (by omega)).mp z)
        rw [p_jn, if_pos n29]
        dsimp only
        rw [p_jn, if_neg (not_not_intro rfl), jn_eq g3 j3]
        have tyM : ∀ seg τ, tyL seg = some (rpF false (vlS b w) τ) → vlS b w + τ.length ≤ c → tyL (emS b w new1 ++ seg) = some (false :: τ) := fun seg τ h1 h2 => by
          rw [← emS_app hw]
          exact (emS_ty (b := b) (w := w) hw (tyA seg τ h1 h2)).1
        by_cases c27 : tkF t n (plF t n i1) = 27
        · have hlt := X2.lt (by omega)
          rw [if_pos (show nI (tkF t n (plF t n i1)) = (27 : Int32) by rw [c27]; rfl)]
          dsimp only
          rw [c27]
          refine go false 3 (emS b w new1) g3 (Or.inr (Or.inl rfl)) X3 x13 hlt ?_ (by show 1 + s.length + _ ≤ _; omega) (by show 1 ≤ _; omega) okE.1 (fun seg τ h1 h2 => tyM seg τ h1 h2) _ rfl
          unfold rH
          rw [if_neg c29, if_pos c27, sf1]
          show (1, i1 + 1, c1, 3 :: s, emS b w (new1 ++ cs), 0) = _
          rw [emS_app hw]; rfl
        · rw [if_neg (show ¬ nI (tkF t n (plF t n i1)) = (27 : Int32) from fun z => c27 ((nI_eq (b := 27) (by omega) (by omega)).mp z))]
          by_cases c28 : tkF t n (plF t n i1) = 28
          · have hlt := X2.lt (by omega)
            rw [if_pos (show nI (tkF t n (plF t n i1)) = (28 : Int32) by rw [c28]; rfl)]
            dsimp only
            rw [c28]
            refine go false 4 (emS b w new1) g3 (Or.inr (Or.inr rfl)) X3 x13 hlt ?_ (by show 1 + s.length + _ ≤ _; omega) (by show 1 ≤ _; omega) okE.1 (fun seg τ h1 h2 => tyM seg τ h1 h2) _ rfl
            unfold rH
            rw [if_neg c29, if_neg c27, if_pos c28, sf1]
            show (1, i1 + 1, c1, 4 :: s, emS b w (new1 ++ cs), 0) = _
            rw [emS_app hw]; rfl
          · rw [if_neg (show ¬ nI (tkF t n (plF t n i1)) = (28 : Int32) from fun z => c28 ((nI_eq (b := 28) (by omega) (by omega)).mp z))]
            refine Or.inl ⟨g3, i1, c1, emS b w new1, k1, rfl, x13, X3, r4, r4', ⟨tyM, okE.1, cc1⟩, by omega, r7, pnS b w ++ s, new1 ++ cs, r8, ?_, c27, c28, c29⟩
            rw [sf1, emS_app hw]
    · rw [r1, p_cl, if_neg (not_not_intro rfl)]
      exact Or.inr ⟨g1, k1, r, rfl, r2, r3, r4, r5, r6⟩
theorem J_sum (hV : PV B t n m N) : PS B t n m (N + 1) := by
  intro h i c s cs X hc hd hN hb hs
  have hm9 := X.1.2.2.2.1
  have rr := J_sum_L (rc1 := (fgG1 N).2) hV (fun g => some ((0 : Int32), g)) hs hd (by omega) (m - i + 1) h i c cs false 0 0 mm_F (by omega) (by unfold mm_F; omega) X hc (Or.inl rfl) (Nat.zero_le _) hb
  have eS : (fgG1 (N + 1)).2 (B + 5) (nI (dc s)) h = fX5_readSum_L7 (fgG1 N).1 (fgG1 N).2 (B + 5) (nI (dc s)) (fun g => some ((0 : Int32), g)) mm_F (wcI 0) (if false = true then 1 else 0) (nI 0) h := by
    show fX5_readSum_g (fgG1 N).1 (fgG1 N).2 (B + 5) (nI (dc s)) h = _
    unfold fX5_readSum_g
    rw [nI_0]; rfl
  rw [eS]
  rcases rr with ⟨h', i', c', new, k, p1, p2, p3, p4, p5, p6, p7, p8, p9⟩ | p
  · exact Or.inl ⟨h', i', c', new, k, p1, p2, p3, p4, p5, ⟨fun seg τ e1 e2 => p6.1 seg τ e1 (by show 0 + τ.length ≤ c; omega), p6.2⟩, p7, p8, p9⟩
  · exact Or.inr p
theorem J_PS : ∀ N, PV B t n m N ∧ PS B t n m N := by
  intro N
  induction N with
  | zero => exact ⟨fun h i c s cs X hc hd hN => by omega, fun h i c s cs X hc hd hN => by omega⟩
  | succ N ih => exact ⟨J_value ih.2, J_sum ih.1⟩
end KM
