/-! a deal: the class's walk behind the verdict -/
section DB
variable {B : Nat} {h h1 hx hy hx' hy' : mm_H} {ow ow' : Nat → Nat × Nat} {n nm nl nb : Nat} {am al : Nat → Nat} {A U : Nat → Nat → Nat} {T : Nat → Int32} {P C : Nat → Nat}
theorem x_split (S : mS B h) (L : RLt B ow h hy nm nl al) {l : Nat} (hl : l < nl) {a4 m : Int32} {g g1 g2 : mm_H} (eg : g = mm_setI h (al l) 3 (mm_i h (al l) 3 - a4)) (e1 : fX6_init (mm_sz g) (mm_i h (al l) 0) a4 m (nI l) (mm_new g 7 0) = some ((), g1)) (k1 : mm_kd g1 (B + 2) = 0) (e2 : fJx4a65c_add_9ea2d (B + 2) (mm_sz g) g1 = some (1, g2)) : fX11_splitLot B (nI l) a4 m h = some ((), g2) := by
  have hg := x_get (sk2 S) L.2.1 hl
  obtain ⟨Ll, kl⟩ := L.2.1.2.2.2 l hl
  have Sg : mS B g := by rw [eg]; exact S
  have kl2 : mm_kd g (al l) = 7 := by rw [eg]; exact kl
  have szg : mm_sz g = mm_sz h := by rw [eg]; rfl
  have l1 := Ll.1
  have l2 := Ll.2.1
  have n0 : ¬ al l = mm_sz g := by omega
  have kl3 : mm_kd (mm_new g 7 0) (al l) = 7 := by rw [kd_N, if_neg n0]; exact kl2
  have i0 : mm_i (mm_new g 7 0) (al l) 0 = mm_i h (al l) 0 := by rw [i_N, if_neg n0, eg, i_I, if_neg (fun z => absurd z.2 (by decide))]
  unfold fX11_splitLot
  rw [q_ck (sk0 S), sr0_1 S, p_rf, q_ck (sk2 S), hg, p_cl, p_rf, q_ck kl, ← eg, p_lt, q_ck (sk0 Sg), p_lt, p_lt, q_ck kl3, i0, e1, p_cl, sr0_1 Sg, p_rf, q_ck k1, e2, p_cl]
/-- what a deal is, when it is made: due, what is paid at once, the fine -/
def okN (v : Int32) (f p pc : Nat) : Prop := (v < 10 ∧ p = 0) ∨ (¬ v < 10 ∧ v - 10 = nI f ∧ f < 2 ^ 31 ∧ p = min f pc)
theorem x_dealX (S : mS B h) (S1 : mS B h1) (M1 : mL B ow h1 (B + 1) 0 8 nm am) (hnm : nm ≤ 40) (L : mL B ow h (B + 2) 1 7 nl al) (R : mL B ow h (B + 3) 2 1 nb (A 0)) {s b l o c t f p : Nat} {a4 a6 a7 v due : Int32} (r1 : fX11_refusal B (nI s) (nI b) (nI l) a4 (nI o) a6 a7 h = some (0, h)) (hnl : nl < 200) (hnb : nb < 300) (u1 : fX11_judge B (nI s) (nI b) (nI l) a4 (nI o) a6 a7 h = some (v, h1)) (hv : ¬ v = 1) (hs : s < nm) (hb : b < nm) (hsb : s ≠ b) (hco : (a6 = 0 ∧ c = o ∧ due = -1) ∨ (¬ a6 = 0 ∧ c = 0 ∧ due = mm_i h1 B 11 + a6)) (ho : o ≤ 1000000)
    {h2 g1 h3 : mm_H} {ow2 ow3 : Nat → Nat × Nat} {al' : Nat → Nat} {A' : Nat → Nat → Nat} (esp : fX11_splitLot B (nI l) a4 (nI b) h1 = some ((), h2)) (S2 : mS B h2) (L2 : mL B ow2 h2 (B + 2) 1 7 (nl + 1) al') (j11 : mm_i h2 B 11 = mm_i h1 B 11) (ei : fX0_init (mm_sz h2) (nI s) (nI b) (nI nl) (nI o) due (mm_i h1 B 11) (mm_new h2 1 0) = some ((), g1)) (Sg : mS B g1) (ea : fJx4a65c_add_9ea2d (B + 3) (mm_sz h2) g1 = some (1, h3)) (S3 : mS B h3) (M3 : mL B ow3 h3 (B + 1) 0 8 nm am) (R3 : mL B ow3 h3 (B + 3) 2 1 (nb + 1) (A' 0)) (an : A' 0 nb = mm_sz h2) (c0 : mm_i h3 (mm_sz h2) 0 = nI s) (c1 : mm_i h3 (mm_sz h2) 1 = nI b) (c6 : mm_i h3 (mm_sz h2) 6 = nI o) (c7 : mm_i h3 (mm_sz h2) 7 = 0) (c8 : mm_i h3 (mm_sz h2) 8 = nI s) (hcb : c ≤ P b) (hP1 : mm_i h1 (am b) 3 = nI (P b)) (hP : ∀ j, j < nm → mm_i h3 (am j) 3 = nI (P j) ∧ P j ≤ 40000000) (h12 : mm_j h3 B 12 = 0) (hC : ∀ i, i < 10 → mm_i h3 (B + 4) i = nI (C i)) (ht : mm_i h3 (am s) 0 = nI t) (ht8 : t ≤ 8) (hf : okN v f p (P s + c)) : ∃ h6, fX11_deal B (nI s) (nI b) (nI l) a4 (nI o) a6 a7 h = some (100 + nI nb, h6) ∧ fD B h3 am nm (mm_sz h2) s b t P C o c p h6 := by
  have hszl := x_size (sk2 S) L
  have hszb := x_size (sk3 S) R
  have hgb := x_get (sk1 S1) M1 hb
  obtain ⟨Lb, kdb⟩ := M1.2.2.2 b hb
  obtain ⟨Ls3, kds3⟩ := M3.2.2.2 s hs
  obtain ⟨La, ka⟩ := R3.2.2.2 nb (by omega)
  rw [an] at La ka
  have pb9 := (hP b hb).2
  have ps9 := (hP s hs).2
  -- the heap with the new object
  have X30 : mX B (fun _ _ => False) h2 (mm_new h2 1 0) := (mX.rf S2.1).N
  have S30 := X30.S S2
  have L30 : mL B ow2 (mm_new h2 1 0) (B + 2) 1 7 (nl + 1) al' := L2.up (by omega) X30 mO.rf ⟨id, id⟩ (fun _ _ _ => id)
  have hsz30 := x_size (sk2 S30) L30
  have j30 : mm_i (mm_new h2 1 0) B 11 = mm_i h1 B 11 := by rw [X30.i (by have := S2.1; omega) id]; exact j11
  -- the first payment
  have hpay := x_payNew S3 M3 hnm La ka c0 c1 c6 c8 hs hb hsb (show c ≤ o by omega) hcb ho (fun j hj => ⟨(hP j hj).1, by have := (hP j hj).2; omega⟩) h12
  obtain ⟨h4, e4⟩ : ∃ h4, h4 = mm_setJ (mm_setI (mm_setI (mm_setI h3 (am b) 3 (nI (P b - c))) (mm_sz h2) 6 (nI (o - c))) (am s) 3 (nI (P s + c))) B 12 0 := ⟨_, rfl⟩
  have F4 : fD B h3 am nm (mm_sz h2) s b t P C o c 0 h4 := by rw [e4]; exact fD_0 M3 hs hb La S3.1 (fun j hj => (hP j hj).1) hC c7 hsb
  rw [← e4] at hpay
  have S4 := F4.1.S S3
  have Y4 := F4.mY M3 hs hb La
  have M4 : mL B ow3 h4 (B + 1) 0 8 nm am := M3.up2 rfl (by omega) Y4 mO.rf (m := 4) rfl rfl (fun _ => rfl) (by decide)
  have hgs4 := x_get (sk1 S4) M4 hs
  have kds4 := (M4.2.2.2 s hs).2
  have R4 : ∀ h6, fD B h3 am nm (mm_sz h2) s b t P C o c p h6 → fJx4a65c_size_8abf5 (B + 3) h6 = some (nI (nb + 1), h6) := fun h6 F6 => x_size (sk3 (F6.1.S S3)) (R3.up2 rfl (by omega) (F6.mY M3 hs hb La) mO.rf (m := 7) rfl rfl (fun _ => rfl) (by decide))
  have hq : ∀ (K : mm_H → Option (Int32 × mm_H)) (Q : Int32 → mm_H → Prop), (∀ h6, fD B h3 am nm (mm_sz h2) s b t P C o c p h6 → wpo (K h6) Q) → wpo (if v < (10 : Int32) then (K h4) else (mm_ck (mm_kd h4 B = 12) <| mm_rf (mm_r h4 B 0) fun u66 => mm_ck (mm_kd h4 u66 = 0) <| mm_cl (fJx4a65c_get_915e3 u66 (nI s) h4) fun v68 g69 => mm_rf v68 fun u71 => mm_ck (mm_kd g69 u71 = 8) <| mm_ck (mm_kd g69 B = 12) <| mm_cl (fX11_payFine B u71 ((v - (10 : Int32))) g69) fun v74 g75 => mm_ck (mm_kd g75 (mm_sz h2) = 1) <| mm_lt (mm_setI g75 (mm_sz h2) 7 v74) fun g78 => K g78)) Q := by
    intro K Q hK
    rcases hf with ⟨v1, rfl⟩ | ⟨v1, v2, v3, v4⟩
    · exact w_if v1 (hK _ F4)
    · have ps4 : mm_i h4 (am s) 3 = nI (P s + c) := by
        have := F4.2.2.2.2.1 s hs
        rw [this]; unfold dP; rw [upN_eq, Nat.sub_zero]
      have ht4 : mm_i h4 (am s) 0 = nI t := (Y4.iL (m := 4) Ls3 rfl (by decide)).trans ht
      have cc : ∀ i, i < 10 → mm_i h4 (B + 4) i = nI (C i) := fun i hi => by
        rw [F4.2.2.2.2.2 i hi]
        unfold dC
        congr 1
        by_cases e : i = t
        · subst e; rw [upN_eq]; omega
        · rw [upN_ne e]
          by_cases e2 : i = 9
          · subst e2; rw [upN_eq]; omega
          · rw [upN_ne e2]
      have hfine := x_payFine (P := fun _ => P s + c) (C := C) S4 M4 hs v3 ps4 (show P s + c ≤ 100000000 by omega) ht4 ht8 (cc 9 (by omega)) (cc t (by omega))
      simp only [← v4] at hfine
      obtain ⟨h5, e5⟩ : ∃ h5, h5 = mm_setI (mm_setI (mm_setI h4 (am s) 3 (nI (P s + c - p))) (B + 4) 9 (nI (C 9 + (p + 1) / 2))) (B + 4) t (nI (C t + p / 2)) := ⟨_, rfl⟩
      have F5 := F4.fine (p := p) M3 hs La ht8
      rw [← e5] at hfine F5
      have k5 : mm_kd h5 (mm_sz h2) = 1 := by rw [e5]; exact (Y4.kd La.2.1).trans ka
      rw [v2]
      exact w_ifn v1 (w_ck (sk0 S4) (w_rf (sr0_0 S4) (w_ck (sk1 S4) (w_cl hgs4 (w_rf rfl (w_ck kds4 (w_ck (sk0 S4) (w_cl hfine (w_ck k5 (w_lts (hK _ F5)))))))))))
  have hW : wpo (fX11_deal B (nI s) (nI b) (nI l) a4 (nI o) a6 a7 h) (fun r h6 => r = 100 + nI nb ∧ fD B h3 am nm (mm_sz h2) s b t P C o c p h6) := by
    unfold fX11_deal
    refine w_ck (sk0 S) (w_cl r1 (w_if rfl (w_ck (sk0 S) (w_rf (sr0_1 S) (w_ck (sk2 S) (w_cl hszl (w_ifn (nI_ge (b := 200) hnl (by omega)) ?_)))))))
    refine w_ck (sk0 S) (w_rf (sr0_2 S) (w_ck (sk3 S) (w_cl hszb (w_if (nI_lt (b := 300) hnb (by omega)) ?_))))
    refine w_ck (sk0 S) (w_cl u1 (w_if hv ?_))
    refine w_jn (fun g => g = h1) (fun q hq => ?_) (fun g hg => ?_)
    · rcases hco with ⟨c9, rfl, -⟩ | ⟨c9, -, -⟩
      · refine w_ifn (not_not_intro c9) (w_ck (sk0 S1) (w_rf (sr0_0 S1) (w_ck (sk1 S1) (w_cl hgb (w_rf rfl (w_ck kdb (w_if ?_ (hq _ rfl))))))))
        rw [hP1]; exact nI_le hcb (by omega)
      · exact w_if c9 (hq _ rfl)
    rw [hg]
    refine w_ck (sk0 S1) (w_cl esp (w_lts (w_lts ?_)))
    refine w_ck (sk0 S30) (w_rf (sr0_1 S30) (w_ck (sk2 S30) (w_cl hsz30 ?_)))
    refine w_jn (fun z => z = due) (fun q hq => ?_) (fun z hz => ?_)
    · rcases hco with ⟨c9, -, d⟩ | ⟨c9, -, d⟩
      · exact w_ifn (not_not_intro c9) (hq _ d.symm)
      · exact w_if c9 (w_ck (sk0 S30) (hq _ (by rw [j30]; exact d.symm)))
    rw [hz, nI_pred, j30]
    refine w_ck (sk0 S30) (w_cl ei (w_ck (sk0 Sg) (w_rf (sr0_2 Sg) (w_ck (sk3 Sg) (w_cl ea ?_)))))
    refine w_jn (fun z => z = nI c) (fun q hq => ?_) (fun z hz => ?_)
    · rcases hco with ⟨c9, d, -⟩ | ⟨c9, d, -⟩
      · exact w_ifn (not_not_intro c9) (hq _ (by rw [d]))
      · exact w_if c9 (hq _ (by rw [d]; exact nI_0.symm))
    rw [hz]
    refine w_ck (sk0 S3) (w_cl hpay ?_)
    refine w_jn (fD B h3 am nm (mm_sz h2) s b t P C o c p) (fun q hqq => hq q _ hqq) (fun h6 F6 => ?_)
    have S6 := F6.1.S S3
    refine w_ck (sk0 S6) (w_rf (sr0_2 S6) (w_ck (sk3 S6) (w_cl (R4 h6 F6) (w_ret ⟨?_, F6⟩))))
    rw [show (100 : Int32) = nI 100 by decide +kernel, nI_add, nI_add, show 100 + (nb + 1) = (100 + nb) + 1 by omega, nI_pred]
  obtain ⟨r, h6, w1, w2, w3⟩ := hW
  rw [w2] at w1
  exact ⟨h6, w1, w3⟩
end DB
