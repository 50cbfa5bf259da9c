/-! a man dies: his bargains are paid -/
section GB
variable {B : Nat} {h hx hy hx' hy' : mm_H} {ow ow' : Nat → Nat × Nat} {n nm : Nat} {am : Nat → Nat} {P C : Nat → Nat} {A U : Nat → Nat → Nat} {T : Nat → Int32} {x : Nat} {D : Nat → Int32}
theorem x_give0 (S : mS B hx) (L : mL B ow hx (B + 1) 0 8 nm am) (hn : nm ≤ 40) (R : RCx B hx hy nm am P C x) {c t : Int32} (hc : c = -1 ∨ ∃ k, k < nm ∧ c = nI k) (ht : 0 ≤ t ∧ t ≤ 8) : fX11_give B c t (nI 0) hx = some ((), hx) := by
  unfold fX11_give
  rcases hc with rfl | ⟨k, hk, rfl⟩
  · obtain ⟨t', ht1, rfl⟩ := nI_of (Int32.not_lt.mpr ht.1)
    have ht2 : t' ≤ 8 := (nI_leI (b := 8) ht1 (by omega)).mp ht.2
    have hx1 := fun (β : Type) (z : Option β) => q_ckx (show t' < 10 by omega) (by decide) z
    have c1 := (R.2.2.1 t' (by omega)).1
    rw [if_neg (by decide), q_ck (sk0 S), sr0_3 S, p_rf, q_ck (sk4 S), sn4 S, hx1, hx1, nI_clamp (show t' < 2 ^ 31 by omega), c1, nI_add, p_lt, setI_same (by rw [c1, Nat.add_zero])]
  · have hg := x_get (sk1 S) L hk
    have kd8 := (L.2.2.2 k hk).2
    have c1 := (R.2.1 k hk).1
    have hp := purse_le R hn hk
    have e1 : (2000000000 : Int32) - nI (P k) = nI (2000000000 - P k) := by
      rw [show (2000000000 : Int32) = nI 2000000000 by decide +kernel, nI_sub (by omega)]
    have e2 : ¬ nI (2000000000 - P k) < nI 0 := nI_nlt (by omega) (by omega)
    have e4 : mm_j hx B 12 = 0 := R.1
    have e5 : (0 : Int64) + Int32.toInt64 (nI 0) = 0 := by decide +kernel
    have hr : fX7_receive (am k) (nI 0) hx = some (nI 0, hx) := by
      unfold fX7_receive
      rw [q_ck kd8, c1, e1, if_neg e2, p_lt, nI_add, p_lt, setI_same (by rw [c1, Nat.add_zero]), nI_sub (Nat.le_refl _)]
    rw [if_pos (nI_neg1 (show k < 2 ^ 31 by omega)), q_ck (sk0 S), sr0_0 S, p_rf, q_ck (sk1 S), hg, p_cl, p_rf, q_ck kd8, hr, p_cl, q_ck (sk0 S), e4, e5, p_lt, setJ_same e4]
theorem x_pays0 (S : mS B hx) (M : RMn B ow hx hy nm am) (R : RBg B ow hx hy nm n A U T) (Q : RCx B hx hy nm am P C x) {k : Nat} (hk : k < n) (h0 : U 2 k = 0) : fX11_payOwed B (A 0 k) (nI 0) hx = some (nI 0, hx) := by
  obtain ⟨⟨a1, a2, a3⟩, ⟨b1, b2, b3⟩, ⟨c1, c2⟩, ⟨d1, d2, d3⟩, ⟨g1, g2, g3, g4, g5, g6⟩, i1, ⟨j1, j2⟩, k1, l1, m1⟩ := (R.2.2.2.1 k hk).1
  obtain ⟨M1, M2, M3, M4⟩ := id M
  have kdA := (R.2.1.2.2.2 k hk).2
  have kdb := (M2.2.2.2 _ b3).2
  have kds := (M2.2.2.2 _ a3).2
  have hgb := x_get (sk1 S) M2 b3
  have hgs := x_get (sk1 S) M2 a3
  have hp := purse_le Q M1 b3
  have pb := (Q.2.1 _ b3).1
  have hsp : fX7_spend (am (U 1 k)) (nI 0) hx = some (nI 0, hx) := by
    rw [x_spend kdb pb (by omega) (by omega), Nat.zero_min, setI_same (by rw [pb, Nat.sub_zero])]
  have c1' : mm_i hx (A 0 k) 6 = nI 0 := by rw [c1, h0]
  have htw : mm_i hx (am (U 0 k)) 0 = T (U 0 k) := by rw [← (M4 _ a3).1.1]; exact (R.2.2.2.2 _ a3).1
  have hT := (R.2.2.2.2 _ a3).2
  have hgive : fX11_give B (mm_i hx (A 0 k) 8) (T (U 0 k)) (nI 0) hx = some ((), hx) := x_give0 S M2 M1 Q (by
    rcases j1 with j1 | ⟨v, v1, v2, v3⟩
    · exact Or.inl j1
    · exact Or.inr ⟨v, v1, v2⟩) hT
  unfold fX11_payOwed
  rw [q_ck (sk0 S), q_ck kdA, sr0_0 S, p_rf, q_ck (sk1 S), b1, hgb, p_cl, p_rf, q_ck kdb, q_ck kdA, c1', ite_self, p_lt, hsp, p_cl, q_ck kdA, c1', nI_sub (Nat.le_refl _), Nat.sub_self, setI_same c1', p_lt, q_ck (sk0 S), sr0_0 S, p_rf, q_ck (sk1 S), a1, hgs, p_cl, p_rf, q_ck kds, q_ck (sk0 S), htw, hgive, p_cl]
theorem xP_false {m : Nat} {b2 b3 : Int32} {k : Nat} (h1 : U 1 k = m) (h2 : ¬ D k = -1) (h3 : xP U D m b2 b3 k = false) : ¬ b3 < D k ∧ (D k = b3 → nI k ≤ b2) := by
  unfold xP at h3
  simp only [h1, h2, decide_true, Bool.true_and, not_false_iff, Bool.or_eq_false_iff, decide_eq_false_iff_not, Bool.and_eq_false_iff, Decidable.not_not] at h3
  refine ⟨h3.1, fun z => ?_⟩
  rcases h3.2 with w | w
  · exact absurd z w
  · exact w
theorem xP_true {m : Nat} {b2 b3 : Int32} {k : Nat} : xP U D m b2 b3 k = true ↔ U 1 k = m ∧ ¬ D k = -1 ∧ (b3 < D k ∨ (D k = b3 ∧ ¬ nI k ≤ b2)) := by
  unfold xP
  simp only [Bool.and_eq_true, Bool.or_eq_true, decide_eq_true_eq]
theorem xP_mono {m j k : Nat} {b2 b3 : Int32} (hj31 : j < 2 ^ 31) (hk31 : k < 2 ^ 31) (hj : xP U D m b2 b3 j = true) (hk : xP U D m (nI j) (D j) k = true) : xP U D m b2 b3 k = true ∧ k ≠ j := by
  obtain ⟨h1, h2, h3⟩ := xP_true.mp hj
  obtain ⟨k1, k2, k3⟩ := xP_true.mp hk
  have tj := nI_toInt hj31
  have tk := nI_toInt hk31
  have hne : k ≠ j := by
    rintro rfl
    rcases k3 with z | ⟨-, z⟩
    · exact absurd z Int32.lt_irrefl
    · exact z (Int32.le_refl _)
  refine ⟨xP_true.mpr ⟨k1, k2, ?_⟩, hne⟩
  rw [Int32.lt_iff_toInt_lt, Int32.le_iff_toInt_le, ← Int32.toInt_inj] at h3 k3 ⊢
  rw [tj] at h3 k3
  rw [tk] at k3 ⊢
  omega
theorem J_debts_none (S : mS B hx) (S' : mS B hy) (R : RBg B ow hx hy nm n A U T) (hD : ∀ k, k < n → mm_i hx (A 0 k) 4 = D k) (hm9 : nm ≤ 40) {m : Nat} (hm : m < nm) {b2 b3 : Int32} (I1 : ∀ k, k < n → U 1 k = m → ¬ D k = -1 → xP U D m b2 b3 k = false → U 2 k = 0 ∨ ¬ mm_i hy (B + 133) k = 0) (h0 : ∀ k, k < n → xP U D m b2 b3 k = false) (t fuel fuel' : Nat) (hf : 0 < fuel) (hf' : 2 < fuel') : (∀ K, fX11_payBargainsOf_L9 B (nI m) K fuel (eO none) (nI t) hx = K hx) ∧ ∀ K, fX12_die_L46 (B + 66) (nI m) K fuel' 1 hy = K hy := by
  have n9 := R.1
  obtain ⟨g, rfl⟩ : ∃ g, fuel = g + 1 := ⟨fuel - 1, by omega⟩
  obtain ⟨g', rfl⟩ : ∃ g, fuel' = g + 1 + 1 := ⟨fuel' - 2, by omega⟩
  refine ⟨fun K => ?_, fun K => ?_⟩
  · show fX11_payBargainsOf_L9_b _ _ _ _ _ _ _ = _
    unfold fX11_payBargainsOf_L9_b
    rw [if_pos (show eO none = (-1 : Int32) from rfl), ite_self]
  · have hy0 : nxt (yP U (fun k => mm_i hy (B + 133) k) m) D n 0 none = none := nxt_none fun k hk => by
      cases e : yP U (fun k => mm_i hy (B + 133) k) m k with
      | false => rfl
      | true =>
        unfold yP at e
        simp only [Bool.and_eq_true, decide_eq_true_eq] at e
        obtain ⟨e1, e2, e3⟩ := e
        have hd : ¬ D k = -1 := by
          rcases (R.2.2.2.1 k hk).1.2.2.2.2.2.1 with z | z
          · omega
          · rw [hD k hk] at z
            intro z2; rw [z2] at z; exact absurd z (by decide)
        rcases I1 k hk e1 hd (h0 k hk) with z | z
        · omega
        · exact absurd e3 z
    have hL := fun K => y_L55 S' R hD hm9 hm K n 0 mm_F none (by omega) (by unfold mm_F; omega) (fun j hj => by cases hj)
    simp only [nI_0, hy0] at hL
    show fX12_die_L46_b _ _ _ _ _ _ = _
    unfold fX12_die_L46_b
    rw [if_neg (by decide)]
    refine (hL _).trans ?_
    refine (jn_eq (0 : Int32) (fun q => if_pos rfl)).trans ?_
    refine (jn_eq hy (fun q => if_pos rfl)).trans ?_
    show fX12_die_L46_b _ _ _ _ _ _ = _
    unfold fX12_die_L46_b
    rw [if_pos rfl]
theorem J_debts (hm9 : nm ≤ 40) {m : Nat} (hm : m < nm) : ∀ (r : Nat) (hx hy : mm_H) (P C : Nat → Nat) (U : Nat → Nat → Nat) (f : Option Nat) (t fuel fuel' : Nat), mS B hx → mS B hy → RMn B ow hx hy nm am → RBg B ow hx hy nm n A U T → RCx B hx hy nm am P C x → (∀ k, k < n → mm_i hx (A 0 k) 4 = D k) → (∀ j, f = some j → j < n) → (∀ k, k < n → U 1 k = m → ¬ D k = -1 → xP U D m (eO f) (eD D f) k = false → U 2 k = 0 ∨ ¬ mm_i hy (B + 133) k = 0) → (∀ k, k < n → xP U D m (eO f) (eD D f) k = true → mm_i hy (B + 133) k = 0) → cntF (xP U D m (eO f) (eD D f)) n ≤ r → t + r ≤ 300 → r < fuel → r + 2 < fuel' → ∃ hx' hy' P' C' U', (∀ K, fX11_payBargainsOf_L9 B (nI m) K fuel (eO (nxt (xP U D m (eO f) (eD D f)) D n 0 none)) (nI t) hx = K hx') ∧ (∀ K, fX12_die_L46 (B + 66) (nI m) K fuel' 1 hy = K hy') ∧ mY B ow [2, 27] hx hx' ∧ (∀ o : Nat → Nat × Nat, mY B o [100, 102, 127] hy hy') ∧ RCx B hx' hy' nm am P' C' x ∧ RBg B ow hx' hy' nm n A U' T := by
  intro r
  induction r with
  | zero =>
    intro hx hy P C U f t fuel fuel' S S' M R Q hD hf I1 I2 hc ht hfu hfu'
    have h0 : ∀ k, k < n → xP U D m (eO f) (eD D f) k = false := fun k hk => by
      cases e : xP U D m (eO f) (eD D f) k with
      | false => rfl
      | true =>
        have := cnt_lt (p := xP U D m (eO f) (eD D f)) (q := fun _ => false) (n := n) (j := k) (fun _ _ z => by cases z) hk e (by decide)
        omega
    obtain ⟨q1, q2⟩ := J_debts_none S S' R hD hm9 hm I1 h0 t fuel fuel' (by omega) (by omega)
    rw [nxt_none h0]
    exact ⟨hx, hy, P, C, U, q1, q2, mX.rf S.1, fun _ => mX.rf S'.1, Q, R⟩
  | succ r ih =>
    intro hx hy P C U f t fuel fuel' S S' M R Q hD hf I1 I2 hc ht hfu hfu'
    have n9 := R.1
    have sp := nxt_spec (p := xP U D m (eO f) (eD D f)) (D := D) (d := n) (i := 0) (f := none) (fun k hk => absurd hk (by omega))
    rw [Nat.zero_add] at sp
    cases e : nxt (xP U D m (eO f) (eD D f)) D n 0 none with
    | none =>
      rw [e] at sp
      obtain ⟨q1, q2⟩ := J_debts_none S S' R hD hm9 hm I1 sp t fuel fuel' (by omega) (by omega)
      exact ⟨hx, hy, P, C, U, q1, q2, mX.rf S.1, fun _ => mX.rf S'.1, Q, R⟩
    | some j =>
      rw [e] at sp
      obtain ⟨hj, pj, mj⟩ := sp
      obtain ⟨g, rfl⟩ : ∃ g, fuel = g + 1 := ⟨fuel - 1, by omega⟩
      have hgj := x_bar S R hj
      have kdj := (R.2.1.2.2.2 j hj).2
      have Mj := (R.2.2.2.1 j hj).1
      have c6 := Mj.2.2.1
      have hO := Mj.2.2.2.2.2.2.2.2.2
      have hne : ¬ eO (some j) = -1 := nI_neg1 (by omega)
      have h300 : ¬ (300 : Int32) ≤ nI t := nI_ge (b := 300) (by omega) (by omega)
      have mono : ∀ k, k < n → xP U D m (eO (some j)) (eD D (some j)) k = true → xP U D m (eO f) (eD D f) k = true ∧ k ≠ j := fun k hk z => xP_mono (by omega) (by omega) pj z
      have cnt : cntF (xP U D m (eO (some j)) (eD D (some j))) n ≤ r := by
        have := cnt_lt (p := xP U D m (eO f) (eD D f)) (q := xP U D m (eO (some j)) (eD D (some j))) (n := n) (j := j) (fun k hk z => (mono k hk z).1) hj pj (fun z => (mono j hj z).2 rfl)
        omega
      have old : ∀ k, k < n → U 1 k = m → ¬ D k = -1 → xP U D m (eO (some j)) (eD D (some j)) k = false → k = j ∨ xP U D m (eO f) (eD D f) k = false := fun k hk w1 w2 w3 => by
        cases w4 : xP U D m (eO f) (eD D f) k with
        | false => exact Or.inr rfl
        | true =>
          left
          obtain ⟨v1, v2⟩ := xP_false w1 w2 w3
          have v3 := mj k hk w4
          have v1' : ¬ D j < D k := v1
          rw [Int32.lt_iff_toInt_lt] at v1'
          unfold kle at v3
          have v4 : (D j).toInt = (D k).toInt ∧ j ≤ k := by omega
          have v5 : nI k ≤ nI j := v2 (Int32.toInt_inj.mp v4.1).symm
          have v6 := (nI_leI (by omega) (by omega)).mp v5
          omega
      by_cases c0 : U 2 j = 0
      · have hpay := x_pays0 S M R Q hj c0
        have hnext := x_nextDebt S R hD hm9 hm (some j) (fun j' hj' => by obtain rfl := Option.some.inj hj'; exact hj)
        obtain ⟨hx', hy', P', C', U', q1, q2, q3, q4, q5, q6⟩ := ih hx hy P C U (some j) (t + 1) g fuel' S S' M R Q hD (fun j' hj' => by obtain rfl := Option.some.inj hj'; exact hj) (fun k hk w1 w2 w3 => by
          rcases old k hk w1 w2 w3 with rfl | z
          · exact Or.inl c0
          · exact I1 k hk w1 w2 z) (fun k hk z => I2 k hk (mono k hk z).1) cnt (by omega) (by omega) (by omega)
        refine ⟨hx', hy', P', C', U', fun K => ?_, q2, q3, q4, q5, q6⟩
        rw [← q1 K]
        show fX11_payBargainsOf_L9_b _ _ _ _ _ _ _ = _
        unfold fX11_payBargainsOf_L9_b
        rw [if_neg h300, if_neg hne, q_ck (sk0 S), sr0_2 S, p_rf, q_ck (sk3 S), show eO (some j) = nI j from rfl, hgj, p_cl, p_rf, q_ck kdj, q_ck (sk0 S), c6.1, c0, hpay, p_cl, q_ck (sk0 S), show nI j = eO (some j) from rfl, hnext, p_cl, p_lt, nI_1]
      · obtain ⟨g', rfl⟩ : ∃ g, fuel' = g + 1 := ⟨fuel' - 1, by omega⟩
        obtain ⟨h1, y1, P1, C1, p1, p2, p3, p4, p5, p6⟩ := J_pays S S' M R Q hj (c := U 2 j) (by omega)
        have S1 := p3.S S
        have Sy1 := (p4 ow).S S'
        obtain ⟨y2, ey2⟩ : ∃ y2, y2 = mm_setI y1 (B + 133) j 1 := ⟨_, rfl⟩
        have y12 : ∀ o : Nat → Nat × Nat, mY B o [100] y1 y2 := fun o => by rw [ey2]; exact (mX.rf Sy1.1).IF (m := 100) (by omega) rfl (by decide)
        have yy : ∀ o : Nat → Nat × Nat, mY B o [100, 102, 127] hy y2 := fun o => (wM_le (p4 o) (by simp)).tr (wM_le (y12 o) (by simp))
        have Sy2 := (y12 ow).S Sy1
        have id1 : mY B ow [] h1 h1 := mX.rf S1.1
        have M1 : RMn B ow h1 y2 nm am := M.up p3 mO.rf (yy ow) (by decide) (by decide) (le_11 p3 (by decide))
        have R1 := p6.up id1 mO.rf (y12 ow) (by decide) (by decide) (by decide)
        have Q1 := p5.up M1.2.1 id1 (y12 ow) (by decide) (by decide)
        obtain ⟨U1, hU1⟩ : ∃ U1, U1 = upU U 2 j (U 2 j - min (min (U 2 j) (U 2 j)) (P (U 1 j))) := ⟨_, rfl⟩
        rw [← hU1] at R1
        have u1 : ∀ k, U1 1 k = U 1 k := fun k => by rw [hU1]; exact upU_ne (by omega)
        have u2 : ∀ k, k ≠ j → U1 2 k = U 2 k := fun k hk => by rw [hU1]; exact upU_nk hk
        have xe : ∀ b2 b3, xP U1 D m b2 b3 = xP U D m b2 b3 := fun b2 b3 => by funext k; unfold xP; rw [u1]
        have D1 : ∀ k, k < n → mm_i h1 (A 0 k) 4 = D k := fun k hk => by rw [p3.iL (m := 7) (R.lv hk).1 rfl (by decide)]; exact hD k hk
        have w0 : ∀ k, k ≠ j → mm_i y2 (B + 133) k = mm_i hy (B + 133) k := fun k hk => by rw [ey2, i_I, if_neg (fun z => hk z.2)]; exact (p4 ow).iF (m := 100) (by omega) rfl (by decide)
        have wj : mm_i y2 (B + 133) j = 1 := by rw [ey2, i_I_eq]
        have hnext := x_nextDebt S1 R1 D1 hm9 hm (some j) (fun j' hj' => by obtain rfl := Option.some.inj hj'; exact hj)
        obtain ⟨hx', hy', P', C', U', q1, q2, q3, q4, q5, q6⟩ := ih h1 y2 P1 C1 U1 (some j) (t + 1) g g' S1 Sy2 M1 R1 Q1 D1 (fun j' hj' => by obtain rfl := Option.some.inj hj'; exact hj) (fun k hk w1 w2 w3 => by
          by_cases hkj : k = j
          · subst hkj; right; rw [wj]; decide
          · rw [u2 k hkj, w0 k hkj]
            rw [u1] at w1
            rw [xe] at w3
            rcases old k hk w1 w2 w3 with z | z
            · exact absurd z hkj
            · exact I1 k hk w1 w2 z) (fun k hk z => by
          rw [xe] at z
          obtain ⟨z1, z2⟩ := mono k hk z
          rw [w0 k z2]; exact I2 k hk z1) (by rw [xe]; exact cnt) (by omega) (by omega) (by omega)
        refine ⟨hx', hy', P', C', U', fun K => ?_, fun K => ?_, p3.tr q3, fun o => (yy o).tr (q4 o), q5, q6⟩
        · rw [← q1 K]
          show fX11_payBargainsOf_L9_b _ _ _ _ _ _ _ = _
          unfold fX11_payBargainsOf_L9_b
          rw [if_neg h300, if_neg hne, q_ck (sk0 S), sr0_2 S, p_rf, q_ck (sk3 S), show eO (some j) = nI j from rfl, hgj, p_cl, p_rf, q_ck kdj, q_ck (sk0 S), c6.1, p1, p_cl, q_ck (sk0 S1), show nI j = eO (some j) from rfl, hnext, p_cl, p_lt, nI_1]
        · rw [← q2 K]
          have hyj : nxt (yP U (fun k => mm_i hy (B + 133) k) m) D n 0 none = some j := by
            obtain ⟨x1, x2, x3⟩ := xP_true.mp pj
            refine nxt_some hj ?_ (fun k hk z => ?_)
            · unfold yP
              simp only [Bool.and_eq_true, decide_eq_true_eq]
              exact ⟨x1, by omega, I2 j hj pj⟩
            · unfold yP at z
              simp only [Bool.and_eq_true, decide_eq_true_eq] at z
              obtain ⟨z1, z2, z3⟩ := z
              have hd : ¬ D k = -1 := by
                rcases (R.2.2.2.1 k hk).1.2.2.2.2.2.1 with w | w
                · omega
                · rw [hD k hk] at w
                  intro w2; rw [w2] at w; exact absurd w (by decide)
              refine mj k hk ?_
              cases w : xP U D m (eO f) (eD D f) k with
              | true => rfl
              | false =>
                rcases I1 k hk z1 hd w with w | w
                · omega
                · exact absurd z3 w
          have hL := fun K => y_L55 S' R hD hm9 hm K n 0 mm_F none (by omega) (by unfold mm_F; omega) (fun j hj => by cases hj)
          simp only [nI_0, hyj] at hL
          have hq := fun (β : Type) (z : Option β) => q_ckx (show j < 300 by omega) (by decide) z
          have hcl := nI_clamp (n := j) (by omega)
          show fX12_die_L46_b _ _ _ _ _ _ = _
          unfold fX12_die_L46_b
          rw [if_neg (by decide)]
          refine (hL _).trans ?_
          refine (jn_eq (1 : Int32) (fun q => if_neg hne)).trans ?_
          refine (jn_eq y2 (fun q => ?_)).trans rfl
          have v100 : mm_i hy (B + 100) (nI j).toNatClampNeg = nI (U 2 j) := by rw [hcl]; exact c6.2
          have v133 : mm_setI y1 (B + 133) (nI j).toNatClampNeg ((1 : Int32) &&& 1) = y2 := by rw [hcl, ey2]; rfl
          rw [if_neg (by decide), q_ck (sk66 S'), sr66_48 S', p_rf, q_ck (sk100 S'), sn100 S', show eO (some j) = nI j from rfl, hq, v100, p2, p_cl, q_ck (sk66 Sy1), sr66_98 Sy1, p_rf, q_ck (sk133 Sy1), sn133 Sy1, hq, v133, p_lt]
end GB
