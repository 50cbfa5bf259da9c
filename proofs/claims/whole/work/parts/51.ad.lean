/-! a list grows -/
/-- an owner more -/
def oN (ow : Nat → Nat × Nat) (a t k : Nat) : Nat → Nat × Nat := fun b => if b = a then (t, k) else ow b
section AD
variable {B : Nat} {W : Nat → Nat → Prop} {h : mm_H} {ow : Nat → Nat × Nat} {l q kd n : Nat} {ad : Nat → Nat}
theorem oN.mO {a t k : Nat} (ha : mm_sz h ≤ a) : mO ow (oN ow a t k) h := fun b hb => if_neg fun z => by omega
theorem oN.at {a t k : Nat} : oN ow a t k a = (t, k) := if_pos rfl
theorem rm_lt {c : Nat} (hc : rm c) : c < 2 ^ 31 := by rcases hc with rfl | rfl | rfl | rfl | rfl | rfl | rfl | rfl | rfl | rfl | rfl <;> decide
theorem x_grow0 (hl : l < mm_sz h) (hk0 : mm_kd h l = 0) (a1 : mm_i h l 2 = nI 0) {e : Nat} (b1 : mm_r h l 1 = some e) (b2 : mm_kd h e = 18) (b3 : mm_n h e = 0) (he : e = mm_c h 0) : fJx4a65c_grow_d5877 l h = some (some (mm_sz h), mm_setR (mm_new h 18 10) l 1 (some (mm_sz h))) := by
  have k1 : ¬ (0 : Int32) < nI 0 := by decide +kernel
  have k2 : nI 0 + 1 = (1 : Int32) := by decide +kernel
  have k3 : ¬ (10 : Int32) < 1 := by decide
  have k4 : ¬ (10 : Int32) < 0 ∧ Int32.toNatClampNeg 10 ≤ 16 := by decide +kernel
  have k5 : Int32.toNatClampNeg 10 = 10 := by decide +kernel
  have k6 : mm_kd (mm_new h 18 10) l = 0 := by
    rw [kd_N, if_neg (by omega)]; exact hk0
  have k7 : mm_r h l 1 = some (mm_c h 0) := by rw [b1, he]
  subst he
  unfold fJx4a65c_grow_d5877 fJx4a65c_grow_92f84
  simp only [q_rf, q_lt, q_cl, q_jn, q_b, q_b1, q_ck, kd_I, kd_J, kd_R, n_I, n_J, n_R, r_I, r_J, c_I, c_J, c_R, i_J, i_R, j_I, j_R, y_in, y_isDay, x_within, x_isDay, x_isTown, hk0, a1, b1, b2, b3, k1, k2, k3, k4.1, k5, k6, not_false_iff, true_and, show (10 : Nat) ≤ 16 by omega, if_false, if_true]
theorem x_el {e c : Nat} (b7 : ∀ k, k < c → mm_r h e k = some (ad k)) (b8 : ∀ k, k < c → mm_kd h (ad k) < 14) : mm_el h e 0 c := by
  unfold mm_el mm_elb
  rw [List.all_eq_true]
  intro i hi
  have hi2 := List.mem_range.mp hi
  rw [Nat.zero_add, b7 i hi2]
  have := b8 i hi2
  simp [Nat.blt]
  omega
theorem x_grow1 (hl : l < mm_sz h) (hk0 : mm_kd h l = 0) {c : Nat} (a1 : mm_i h l 2 = nI c) {e : Nat} (b1 : mm_r h l 1 = some e) (b2 : mm_kd h e = 18) (b3 : mm_n h e = c) (b5 : rm c) (he : e < mm_sz h) (h0 : 0 < c) (h3 : c < 300) (b7 : ∀ k, k < c → mm_r h e k = some (ad k)) (b8 : ∀ k, k < c → mm_kd h (ad k) < 14 ∧ ad k < mm_sz h) : ∃ c', c < c' ∧ rm c' ∧ fJx4a65c_grow_d5877 l h = some (some (mm_sz h), mm_setR (mm_cpR (mm_new h 18 c') e 0 (mm_sz h) 0 c) l 1 (some (mm_sz h))) := by
  obtain ⟨c', e1, e2, e3, e4⟩ := x_nl b5 h0 h3 h
  refine ⟨c', e1, e3, ?_⟩
  have k1 : (0 : Int32) < nI c := by have := nI_lt h0 (rm_lt b5); rwa [nI_0] at this
  have k2 : ¬ nI c' < 0 ∧ (nI c').toNatClampNeg ≤ 400 := ⟨nI_pos (rm_lt e3), by rw [nI_clamp (rm_lt e3)]; exact e2⟩
  have k3 : (nI c').toNatClampNeg = c' := nI_clamp (rm_lt e3)
  have k4 : mm_kd (mm_new h 18 c') l = 0 := by rw [kd_N, if_neg (by omega)]; exact hk0
  have k5 : mm_kd (mm_new h 18 c') e = 18 := by rw [kd_N, if_neg (by omega)]; exact b2
  have k6 : mm_n (mm_new h 18 c') e = c := by rw [n_N, if_neg (by omega)]; exact b3
  have k7 : mm_kd (mm_new h 18 c') (mm_sz h) = 18 := by rw [kd_N, if_pos rfl]
  have k8 : mm_n (mm_new h 18 c') (mm_sz h) = c' := by rw [n_N, if_pos rfl]
  have k9 : ¬ nI c' < nI c := nI_nlt (by omega) (rm_lt e3)
  have m1 : 0 < c' := by omega
  have m2 : Int32.toNatClampNeg (0 : Int32) = 0 := by decide
  have m3 : (nI c).toNatClampNeg = c := nI_clamp (rm_lt b5)
  have m4 : ¬ (0 : Int32) < 0 ∧ ¬ (0 : Int32) < 0 ∧ ¬ nI c < 0 ∧ 0 + c ≤ c ∧ 0 + c ≤ c' := ⟨by decide, by decide, nI_pos (rm_lt b5), by omega, by omega⟩
  have m5 : mm_el (mm_new h 18 c') e 0 c := by
    refine x_el (ad := ad) (fun k hk => ?_) (fun k hk => ?_)
    · rw [r_N, if_neg (by omega)]; exact b7 k hk
    · have := (b8 k hk).2
      rw [kd_N, if_neg (by omega)]; exact (b8 k hk).1
  have m7 := fun (β : Type) (z : Option β) => q_ck (k := z) m5
  have m8 := fun (β : Type) (z : Option β) => q_ck (k := z) (show ¬ nI c' < 0 ∧ c' ≤ 400 from ⟨k2.1, e2⟩)
  have m9 := fun (β : Type) (z : Option β) => q_ck (k := z) m4
  have m6 : mm_kd (mm_cpR (mm_new h 18 c') e 0 (mm_sz h) 0 c) l = 0 := k4
  unfold fJx4a65c_grow_d5877 fJx4a65c_grow_92f84
  simp only [q_rf, q_lt, q_cl, q_jn, q_b, q_b1, q_ck, kd_I, kd_J, kd_R, n_I, n_J, n_R, r_I, r_J, c_I, c_J, c_R, i_J, i_R, j_I, j_R, y_in, y_isDay, x_within, x_isDay, x_isTown, hk0, a1, b1, b2, b3, k1, e4, if_true]
  unfold fJ7_copyOf_1904c fJ7_copyOf_6403c
  simp only [q_rf, q_lt, q_cl, q_jn, kd_R, n_R, b2, b3, k3, k5, k6, k7, k8, k9, m2, m3, m6, m7, m8, m9, not_true, if_false]
  simp only [q_rf, q_lt, q_cl, q_jn, q_b, q_b1, q_ck, kd_I, kd_J, kd_R, n_I, n_J, n_R, r_I, r_J, c_I, c_J, c_R, i_J, i_R, j_I, j_R, y_in, y_isDay, x_within, x_isDay, x_isTown, b2, b3, h0, k5, k6, k7, k8, m1, m6]
theorem r_cp {b j a0 a m : Nat} : mm_r (mm_cpR h a0 0 a 0 m) b j = if b = a ∧ j < m then mm_r h a0 j else mm_r h b j := by
  show (if b = a then va_cpy (mm_r h a0) (mm_r h a) 0 0 m j else mm_r h b j) = _
  by_cases e1 : b = a
  · subst e1
    by_cases e2 : j < m
    · rw [if_pos rfl, if_pos ⟨rfl, e2⟩]; unfold va_cpy; rw [if_pos (by omega)]; congr 1; omega
    · rw [if_pos rfl, if_neg (fun z => e2 z.2)]; unfold va_cpy; rw [if_neg (by omega)]
  · rw [if_neg e1, if_neg (fun z => e1 z.1)]
theorem x_put {g : mm_H} {e' u : Nat} (g1 : mm_kd g e' = 18) (g2 : mm_kd g u < 14) (g3 : n < mm_n g e') (g5 : rm (mm_n g e')) (g4 : mm_kd g l = 0) : mm_ck (mm_kd g e' = 18) (mm_ck (mm_kd g u < 14) (mm_ck (0 < mm_n g e') (mm_ck (mm_ix (nI n) (mm_n g e')) (mm_lt (mm_setR g e' (nI n).toNatClampNeg (some u)) fun g10 => mm_ck (mm_kd g10 l = 0) (mm_lt (mm_setI g10 l 2 (nI n + 1)) fun g12 => some ((), g12)))))) = some ((), mm_setI (mm_setR g e' n (some u)) l 2 (nI n + 1)) := by
  have hx := fun (β : Type) (z : Option β) => q_ckx g3 (rm_lt g5) z
  have h0 : 0 < mm_n g e' := by omega
  have h9 := rm_lt g5
  simp only [q_rf, q_lt, q_cl, q_jn, q_b, q_b1, q_ck, kd_I, kd_J, kd_R, n_I, n_J, n_R, r_I, r_J, c_I, c_J, c_R, i_J, i_R, j_I, j_R, y_in, y_isDay, x_within, x_isDay, x_isTown, g1, g2, hx, h0, g4, nI_clamp (show n < 2 ^ 31 by omega)]
theorem x_add (hB : B + 147 ≤ mm_sz h) (hl : l < B + 147) (hlr : rV B l 1) (hk0 : mm_kd h l = 0) (hkd : kd < 14) (L : mL B ow h l q kd n ad) (hn : n < 300) {u : Nat} (U : Lv B ow h (q + 1) n u) (uk : mm_kd h u = kd) : ∃ h' ow', fJx4a65c_add_9ea2d l u h = some (1, h') ∧ mX B (wL B ow l q) h h' ∧ mO ow ow' h ∧ mL B ow' h' l q kd (n + 1) (fun k => if k = n then u else ad k) := by
  obtain ⟨g, hg⟩ : ∃ g, g = mm_setI h l 0 (mm_i h l 0 + 1) := ⟨_, rfl⟩
  have x1 : mX B (wL B ow l q) h g := by rw [hg]; exact (mX.rf hB).I (Or.inl (Or.inl ⟨rfl, by omega⟩))
  have x0 : mX B (fun a k => a = l ∧ k = 0) h g := by rw [hg]; exact (mX.rf hB).I (Or.inl ⟨rfl, rfl⟩)
  have hz : mm_sz g = mm_sz h := by rw [hg]; rfl
  have Lg : mL B ow g l q kd n ad := L.up hl x0 mO.rf (by simp) (fun a k v z => by have := v.1; omega)
  have Ug : Lv B ow g (q + 1) n u := U.up x0 mO.rf
  have kg : mm_kd g = mm_kd h := by rw [hg]; rfl
  obtain ⟨a0, a1, ⟨e, c, b1, b2, b3, b4, b5, b6, b7⟩, a2⟩ := Lg
  have hlg : l < mm_sz g := by omega
  have he : e < mm_sz g := by
    rcases b6 with b6 | b6
    · omega
    · exact b6.2.2.1
  have hk0g : mm_kd g l = 0 := by rw [kg]; exact hk0
  have ukg : mm_kd g u = kd := by rw [kg]; exact uk
  have fin : ∀ (g' : mm_H) (ow' : Nat → Nat × Nat) (e' : Nat), mX B (wL B ow l q) h g' → mO ow ow' h → mm_r g' l 1 = some e' → mm_kd g' e' = 18 → rm (mm_n g' e') → n < mm_n g' e' → mm_kd g' l = 0 → Lv B ow' g' 12 q e' → (wL B ow l q e' n ∨ mm_sz h ≤ e') → (∀ k, k < n → mm_r g' e' k = some (ad k)) → (∀ k, k < n → Lv B ow' g' (q + 1) k (ad k) ∧ mm_kd g' (ad k) = kd) → Lv B ow' g' (q + 1) n u → mm_kd g' u = kd → mX B (wL B ow l q) h (mm_setI (mm_setR g' e' n (some u)) l 2 (nI n + 1)) ∧ mO ow ow' h ∧ mL B ow' (mm_setI (mm_setR g' e' n (some u)) l 2 (nI n + 1)) l q kd (n + 1) (fun k => if k = n then u else ad k) := by
    intro g' ow' e' f1 f2 f3 f4 f5 f6 f7 f8 f9 f10 f11 f12 f13
    have hne : l ≠ e' := fun z => by have := f8.1; omega
    refine ⟨(f1.R (f9.imp (fun z => ⟨z, Or.inr (Or.inr (Or.inr f8.1))⟩) id)).I (Or.inl (Or.inl ⟨rfl, by omega⟩)), f2, by omega, ?_, ⟨e', mm_n g' e', ?_, f4, rfl, by omega, f5, Or.inr ⟨by omega, f8⟩, fun k hk => ?_⟩, fun k hk => ?_⟩
    · rw [i_I, if_pos ⟨rfl, rfl⟩, nI_1]
    · rw [r_I, r_R, if_neg (fun z => hne z.1)]; exact f3
    · rw [r_I, r_R]
      by_cases z : k = n
      · rw [if_pos ⟨rfl, z⟩]; show some u = some (if k = n then u else ad k); rw [if_pos z]
      · rw [if_neg (fun y => z y.2)]; show _ = some (if k = n then u else ad k); rw [if_neg z]; exact f10 k (by omega)
    · by_cases z : k = n
      · subst z
        show Lv B ow' g' (q + 1) k (if k = k then u else ad k) ∧ mm_kd g' (if k = k then u else ad k) = kd
        rw [if_pos rfl]
        exact ⟨f12, f13⟩
      · show Lv B ow' g' (q + 1) k (if k = n then u else ad k) ∧ mm_kd g' (if k = n then u else ad k) = kd
        rw [if_neg z]
        exact f11 k (by omega)
  unfold fJx4a65c_add_9ea2d fJx4a65c_add_72be8
  have a1' : mm_i (mm_setI h l 0 (mm_i h l 0 + 1)) l 2 = nI n := by rw [← hg]; exact a1
  simp only [q_rf, q_lt, q_cl, q_jn, q_b, q_b1, q_ck, kd_I, kd_J, kd_R, n_I, n_J, n_R, r_I, r_J, c_I, c_J, c_R, i_J, i_R, j_I, j_R, y_in, y_isDay, x_within, x_isDay, x_isTown, hk0, ← hg, b1, b2, b3, a1, hk0g]
  by_cases hc : n = c
  case neg =>
    have k1 : ¬ nI n = nI c := fun z => hc ((nI_eq (by omega) (rm_lt b5)).mp z)
    have hLv : Lv B ow g 12 q e := by
      rcases b6 with b6 | b6
      · omega
      · exact b6.2
    obtain ⟨p1, p2, p3⟩ := fin g ow e x1 mO.rf b1 b2 (by rw [b3]; exact b5) (by omega) hk0g hLv (Or.inl (Or.inr ⟨hLv.1, hLv.2.2⟩)) b7 a2 Ug ukg
    refine ⟨_, ow, ?_, p1, p2, p3⟩
    have := x_put (l := l) (n := n) b2 (show mm_kd g u < 14 by omega) (show n < mm_n g e by omega) (by rw [b3]; exact b5) hk0g
    simp only [q_rf, q_lt, q_cl, q_jn, q_b, q_b1, q_ck, kd_I, kd_J, kd_R, n_I, n_J, n_R, r_I, r_J, c_I, c_J, c_R, i_J, i_R, j_I, j_R, y_in, y_isDay, x_within, x_isDay, x_isTown, b2, b3, hk0g] at this
    simp only [k1, q_rf, q_lt, q_cl, q_jn, q_b, q_b1, q_ck, kd_I, kd_J, kd_R, n_I, n_J, n_R, r_I, r_J, c_I, c_J, c_R, i_J, i_R, j_I, j_R, y_in, y_isDay, x_within, x_isDay, x_isTown, b2, b3, not_false_iff, if_true]
    exact congrArg (fun o => mm_cl o fun (_ : Unit) g4 => some ((1 : Int32), g4)) this
  case pos =>
    subst hc
    have hh : ∀ j, j < n → mm_kd g (ad j) < 14 ∧ ad j < mm_sz g := fun j hj => ⟨by have := (a2 j hj).2; omega, (a2 j hj).1.2.1⟩
    have nz : ∀ a, a < mm_sz g → a ≠ mm_sz g := fun a ha => by omega
    rcases Nat.eq_zero_or_pos n with h0 | h0
    · subst h0
      have heq : e = mm_c g 0 := by
        rcases b6 with b6 | b6
        · exact b6.2.1
        · omega
      have kgr := x_grow0 hlg hk0g a1 b1 b2 b3 heq
      obtain ⟨g', hg'⟩ : ∃ g', g' = mm_setR (mm_new g 18 10) l 1 (some (mm_sz g)) := ⟨_, rfl⟩
      have n10 : mm_n g' (mm_sz g) = 10 := by rw [hg', n_R, n_N, if_pos rfl]
      have o1 : mO ow (oN ow (mm_sz g) 12 q) h := oN.mO (by omega)
      have y : mX B (wL B ow l q) g g' := by rw [hg']; exact ((mX.rf (by omega)).N).R (Or.inl ⟨Or.inl ⟨rfl, by omega⟩, hlr⟩)
      have fx : mX B (wL B ow l q) h g' := x1.tr y
      have o2 : mO ow (oN ow (mm_sz g) 12 q) g := oN.mO (Nat.le_refl _)
      have k18 : mm_kd g' (mm_sz g) = 18 := by rw [hg', kd_R, kd_N, if_pos rfl]
      have kl : mm_kd g' l = 0 := (y.kd hlg).trans hk0g
      have ku : mm_kd g' u = kd := (y.kd Ug.2.1).trans ukg
      obtain ⟨p1, p2, p3⟩ := fin g' (oN ow (mm_sz g) 12 q) (mm_sz g) fx o1 (by rw [hg', r_R, if_pos ⟨rfl, rfl⟩]) k18 (by rw [n10]; simp [rm]) (by omega) kl ⟨by omega, by rw [hg']; exact Nat.lt_succ_self _, oN.at⟩ (Or.inr (by omega)) (fun j hj => by omega) (fun j hj => by omega) (Ug.up y o2) ku
      refine ⟨_, _, ?_, p1, p2, p3⟩
      have := x_put (l := l) (n := 0) k18 (show mm_kd g' u < 14 by omega) (show 0 < mm_n g' (mm_sz g) by omega) (by rw [n10]; simp [rm]) kl
      simp only [q_rf, q_lt, q_cl, q_jn, q_b, q_b1, q_ck, kd_I, kd_J, kd_R, n_I, n_J, n_R, r_I, r_J, c_I, c_J, c_R, i_J, i_R, j_I, j_R, y_in, y_isDay, x_within, x_isDay, x_isTown, k18, n10] at this
      rw [← hg'] at kgr
      simp only [kgr, q_rf, q_lt, q_cl, q_jn, q_b, q_b1, q_ck, kd_I, kd_J, kd_R, n_I, n_J, n_R, r_I, r_J, c_I, c_J, c_R, i_J, i_R, j_I, j_R, y_in, y_isDay, x_within, x_isDay, x_isTown, k18, n10, not_true, if_false]
      exact congrArg (fun o => mm_cl o fun (_ : Unit) g4 => some ((1 : Int32), g4)) this
    · obtain ⟨c', e1, e3, kgr⟩ := x_grow1 (ad := ad) hlg hk0g a1 b1 b2 b3 b5 he h0 (by omega) b7 hh
      obtain ⟨g', hg'⟩ : ∃ g', g' = mm_setR (mm_cpR (mm_new g 18 c') e 0 (mm_sz g) 0 n) l 1 (some (mm_sz g)) := ⟨_, rfl⟩
      have nc : mm_n g' (mm_sz g) = c' := by rw [hg', n_R]; show mm_n (mm_new g 18 c') (mm_sz g) = c'; rw [n_N, if_pos rfl]
      have o1 : mO ow (oN ow (mm_sz g) 12 q) h := oN.mO (by omega)
      have ycp : mX B (wL B ow l q) g (mm_cpR (mm_new g 18 c') e 0 (mm_sz g) 0 n) := by
        have y0 : mX B (wL B ow l q) g (mm_new g 18 c') := (mX.rf (by omega)).N
        refine ⟨y0.1, y0.2.1, fun a k ha => ⟨fun w => ⟨(y0.i ha w), (y0.j ha w), ?_⟩, fun w => ?_⟩⟩
        · rw [r_cp, if_neg (fun z => nz a ha z.1)]; exact y0.r ha w
        · rw [r_cp, if_neg (fun z => nz a ha z.1)]; exact (y0.2.2 a k ha).2 w
      have y : mX B (wL B ow l q) g g' := by rw [hg']; exact ycp.R (Or.inl ⟨Or.inl ⟨rfl, by omega⟩, hlr⟩)
      have fx : mX B (wL B ow l q) h g' := x1.tr y
      have o2 : mO ow (oN ow (mm_sz g) 12 q) g := oN.mO (Nat.le_refl _)
      have k18 : mm_kd g' (mm_sz g) = 18 := by rw [hg', kd_R]; show mm_kd (mm_new g 18 c') (mm_sz g) = 18; rw [kd_N, if_pos rfl]
      have kl : mm_kd g' l = 0 := (y.kd hlg).trans hk0g
      have ku : mm_kd g' u = kd := (y.kd Ug.2.1).trans ukg
      have hel : ∀ j, j < n → mm_r g' (mm_sz g) j = some (ad j) := fun j hj => by
        rw [hg', r_R, if_neg (fun z => nz l hlg z.1.symm), r_cp, if_pos ⟨rfl, hj⟩, r_N, if_neg (nz e he)]
        exact b7 j hj
      obtain ⟨p1, p2, p3⟩ := fin g' (oN ow (mm_sz g) 12 q) (mm_sz g) fx o1 (by rw [hg', r_R, if_pos ⟨rfl, rfl⟩]) k18 (by rw [nc]; exact e3) (by omega) kl ⟨by omega, by rw [hg']; exact Nat.lt_succ_self _, oN.at⟩ (Or.inr (by omega)) hel (fun j hj => ⟨(a2 j hj).1.up y o2, (y.kd (hh j hj).2).trans (a2 j hj).2⟩) (Ug.up y o2) ku
      refine ⟨_, _, ?_, p1, p2, p3⟩
      have := x_put (l := l) (n := n) k18 (show mm_kd g' u < 14 by omega) (show n < mm_n g' (mm_sz g) by omega) (by rw [nc]; exact e3) kl
      simp only [q_rf, q_lt, q_cl, q_jn, q_b, q_b1, q_ck, kd_I, kd_J, kd_R, n_I, n_J, n_R, r_I, r_J, c_I, c_J, c_R, i_J, i_R, j_I, j_R, y_in, y_isDay, x_within, x_isDay, x_isTown, k18, nc] at this
      rw [← hg'] at kgr
      simp only [kgr, q_rf, q_lt, q_cl, q_jn, q_b, q_b1, q_ck, kd_I, kd_J, kd_R, n_I, n_J, n_R, r_I, r_J, c_I, c_J, c_R, i_J, i_R, j_I, j_R, y_in, y_isDay, x_within, x_isDay, x_isTown, k18, nc, not_true, if_false]
      exact congrArg (fun o => mm_cl o fun (_ : Unit) g4 => some ((1 : Int32), g4)) this
end AD
