set_option maxRecDepth 100000 in
set_option maxHeartbeats 4000000 in
theorem cX0_init_ok (l : Launch) {a0 : Nat} {a1 : Int32} {a2 : Int32} {a3 : Int32} {a4 : Int32} {a5 : Int32} {a6 : Int32} {h : mm_H} {r : Unit} {h1 : mm_H} (hf : fX0_init a0 a1 a2 a3 a4 a5 a6 h = some (r, h1)) : mm_M l yX0_init cX0_init 7 none 2 3 9 [vR (some a0), vI a1, vI a2, vI a3, vI a4, vI a5, vI a6] h none h1 := by
  refine mm_enter (lv := [some (vR (some a0)), some (vI a1), some (vI a2), some (vI a3), some (vI a4), some (vI a5), some (vI a6)]) (by decide) rfl (Nat.le_of_ble_eq_true rfl) ?_
  intro X hl C hE
  subst hl
  unfold fX0_init at hf
  refine me_aload_n (q := 1) C dX0_init_0 rfl rfl rfl ?_
  refine me_objInit (q := 4) C dX0_init_1 mo_X0_3 rfl rfl (Nat.le_of_ble_eq_true rfl) rfl ?_
  refine me_aload_n (q := 5) C dX0_init_4 rfl rfl rfl ?_
  refine me_iload_n (q := 6) C dX0_init_5 rfl rfl rfl ?_
  obtain ⟨k1, hf⟩ := mm_ck_some hf
  obtain ⟨g2, eg2, hf⟩ := mm_lt_some hf
  refine me_putI (q := 9) C eg2 dX0_init_6 mf_X0_9 mp_X0_1_0 rfl (by decide) rfl k1 rfl ?_
  refine me_aload_n (q := 10) C dX0_init_9 rfl rfl rfl ?_
  refine me_iload_n (q := 11) C dX0_init_10 rfl rfl rfl ?_
  obtain ⟨g3, eg3, hf⟩ := mm_lt_some hf
  refine me_putI (q := 14) C eg3 dX0_init_11 mf_X0_15 mp_X0_1_1 rfl (by decide) rfl (mm_kI eg2 k1) rfl ?_
  refine me_aload_n (q := 15) C dX0_init_14 rfl rfl rfl ?_
  refine me_iload_n (q := 16) C dX0_init_15 rfl rfl rfl ?_
  obtain ⟨g4, eg4, hf⟩ := mm_lt_some hf
  refine me_putI (q := 19) C eg4 dX0_init_16 mf_X0_18 mp_X0_1_2 rfl (by decide) rfl (mm_kI eg3 (mm_kI eg2 k1)) rfl ?_
  refine me_aload_n (q := 20) C dX0_init_19 rfl rfl rfl ?_
  refine me_iload (q := 22) C dX0_init_20 rfl rfl ?_
  obtain ⟨g5, eg5, hf⟩ := mm_lt_some hf
  refine me_putI (q := 25) C eg5 dX0_init_22 mf_X0_21 mp_X0_1_3 rfl (by decide) rfl (mm_kI eg4 (mm_kI eg3 (mm_kI eg2 k1))) rfl ?_
  refine me_aload_n (q := 26) C dX0_init_25 rfl rfl rfl ?_
  refine me_iload (q := 28) C dX0_init_26 rfl rfl ?_
  obtain ⟨g6, eg6, hf⟩ := mm_lt_some hf
  refine me_putI (q := 31) C eg6 dX0_init_28 mf_X0_24 mp_X0_1_4 rfl (by decide) rfl (mm_kI eg5 (mm_kI eg4 (mm_kI eg3 (mm_kI eg2 k1)))) rfl ?_
  refine me_aload_n (q := 32) C dX0_init_31 rfl rfl rfl ?_
  refine me_iload (q := 34) C dX0_init_32 rfl rfl ?_
  obtain ⟨g7, eg7, hf⟩ := mm_lt_some hf
  refine me_putI (q := 37) C eg7 dX0_init_34 mf_X0_27 mp_X0_1_5 rfl (by decide) rfl (mm_kI eg6 (mm_kI eg5 (mm_kI eg4 (mm_kI eg3 (mm_kI eg2 k1))))) rfl ?_
  refine me_aload_n (q := 38) C dX0_init_37 rfl rfl rfl ?_
  refine me_iload (q := 40) C dX0_init_38 rfl rfl ?_
  obtain ⟨g8, eg8, hf⟩ := mm_lt_some hf
  refine me_putI (q := 43) C eg8 dX0_init_40 mf_X0_30 mp_X0_1_6 rfl (by decide) rfl (mm_kI eg7 (mm_kI eg6 (mm_kI eg5 (mm_kI eg4 (mm_kI eg3 (mm_kI eg2 k1)))))) rfl ?_
  refine me_aload_n (q := 44) C dX0_init_43 rfl rfl rfl ?_
  refine me_iload_n (q := 45) C dX0_init_44 rfl rfl rfl ?_
  obtain ⟨g9, eg9, hf⟩ := mm_lt_some hf
  refine me_putI (q := 48) C eg9 dX0_init_45 mf_X0_33 mp_X0_1_8 rfl (by decide) rfl (mm_kI eg8 (mm_kI eg7 (mm_kI eg6 (mm_kI eg5 (mm_kI eg4 (mm_kI eg3 (mm_kI eg2 k1))))))) rfl ?_
  refine me_aload_n (q := 49) C dX0_init_48 rfl rfl rfl ?_
  refine me_iconst (v := (3 : Int32)) (q := 50) C dX0_init_49 (by decide) rfl ?_
  obtain ⟨g10, eg10, hf⟩ := mm_lt_some hf
  obtain ⟨u11, eu11, hf⟩ := mm_lt_some hf
  refine me_newaI (q := 52) (B := 3) (c2 := 1) (s2 := 3) C eg10 dX0_init_50 ma_int ⟨by decide, Nat.le_of_ble_eq_true rfl⟩ (Nat.le_of_ble_eq_true rfl) rfl (Nat.le_of_ble_eq_true rfl) rfl (Nat.le_of_ble_eq_true rfl) rfl ?_
  refine me_topR (congrArg some eu11) ?_
  have k12 : mm_kd g10 u11 = 14 := by rw [eu11]; exact mm_kN eg10
  obtain ⟨k13, hf⟩ := mm_ck_some hf
  obtain ⟨g14, eg14, hf⟩ := mm_lt_some hf
  refine me_putR (q := 55) C eg14 dX0_init_52 mf_X0_36 mp_X0_1_10 (Or.inr ⟨_, rfl⟩) rfl (by decide) rfl k13 rfl ?_
  refine me_aload_n (q := 56) C dX0_init_55 rfl rfl rfl ?_
  refine me_iconst (v := (3 : Int32)) (q := 57) C dX0_init_56 (by decide) rfl ?_
  obtain ⟨g15, eg15, hf⟩ := mm_lt_some hf
  obtain ⟨u16, eu16, hf⟩ := mm_lt_some hf
  refine me_newaI (q := 59) (B := 3) (c2 := 2) (s2 := 6) C eg15 dX0_init_57 ma_int ⟨by decide, Nat.le_of_ble_eq_true rfl⟩ (Nat.le_of_ble_eq_true rfl) rfl (Nat.le_of_ble_eq_true rfl) rfl (Nat.le_of_ble_eq_true rfl) rfl ?_
  refine me_topR (congrArg some eu16) ?_
  have k17 : mm_kd g15 u16 = 14 := by rw [eu16]; exact mm_kN eg15
  obtain ⟨k18, hf⟩ := mm_ck_some hf
  obtain ⟨g19, eg19, hf⟩ := mm_lt_some hf
  refine me_putR (q := 62) C eg19 dX0_init_59 mf_X0_40 mp_X0_1_11 (Or.inr ⟨_, rfl⟩) rfl (by decide) rfl k18 rfl ?_
  refine me_aload_n (q := 63) C dX0_init_62 rfl rfl rfl ?_
  refine me_iconst (v := (3 : Int32)) (q := 64) C dX0_init_63 (by decide) rfl ?_
  obtain ⟨g20, eg20, hf⟩ := mm_lt_some hf
  obtain ⟨u21, eu21, hf⟩ := mm_lt_some hf
  refine me_newaI (q := 66) (B := 3) (c2 := 3) (s2 := 9) C eg20 dX0_init_64 ma_int ⟨by decide, Nat.le_of_ble_eq_true rfl⟩ (Nat.le_of_ble_eq_true rfl) rfl (Nat.le_of_ble_eq_true rfl) rfl (Nat.le_of_ble_eq_true rfl) rfl ?_
  refine me_topR (congrArg some eu21) ?_
  have k22 : mm_kd g20 u21 = 14 := by rw [eu21]; exact mm_kN eg20
  obtain ⟨k23, hf⟩ := mm_ck_some hf
  obtain ⟨g24, eg24, hf⟩ := mm_lt_some hf
  refine me_putR (q := 69) C eg24 dX0_init_66 mf_X0_43 mp_X0_1_12 (Or.inr ⟨_, rfl⟩) rfl (by decide) rfl k23 rfl ?_
  exact me_vret C hE (Nat.le_of_ble_eq_true rfl) (Nat.le_of_ble_eq_true rfl) rfl dX0_init_69 (mm_ru hf)
set_option maxRecDepth 100000 in
set_option maxHeartbeats 4000000 in
theorem cX0_hasSurety_L2 {X : mm_X} (C : mm_C X cX0_hasSurety yX0_hasSurety 2 0 0) {r : Int32} {h1 : mm_H} (hE : mm_End X 0 0 (some .boolean) (some (vI r)) h1) {b0 : Nat} {b1 : Int32} (K28 : mm_H → Option (Int32 × mm_H)) : ∀ (n : Nat) (x2 : Int32) (h : mm_H), fX0_hasSurety_L2 b0 b1 K28 n x2 h = some (r, h1) → (∀ (h : mm_H), K28 h = some (r, h1) → mm_E X h 0 0 28 [none, none, none] []) → mm_E X h 0 0 2 [some (vR (some b0)), some (vI b1), some (vI x2)] [] := by
  intro n
  induction n with
  | zero =>
    intro x2 h hf
    exact absurd (show (none : Option (Int32 × mm_H)) = some (r, h1) from hf) (by simp)
  | succ n ih =>
    intro x2 h hf hk28
    have hf : fX0_hasSurety_L2_b b0 b1 K28 (fX0_hasSurety_L2 b0 b1 K28 n) x2 h = some (r, h1) := hf
    unfold fX0_hasSurety_L2_b at hf
    refine me_iload_n (q := 3) C dX0_hasSurety_2 rfl rfl rfl ?_
    refine me_aload_n (q := 4) C dX0_hasSurety_3 rfl rfl rfl ?_
    obtain ⟨k1, hf⟩ := mm_ck_some hf
    refine me_getI (q := 7) C dX0_hasSurety_4 mf_X0_46 rfl rfl k1 rfl ?_
    refine me_icmp_ge (q2 := 28) (q := 10) C dX0_hasSurety_7 (by decide) rfl (fun c2 => ?_) (fun c2 => ?_)
    · have hf := mm_if_t c2 hf
      refine me_mask [false, false, false] (lv2 := [none, none, none]) rfl ?_
      exact hk28 _ hf
    · have hf := mm_if_f c2 hf
      refine me_aload_n (q := 11) C dX0_hasSurety_10 rfl rfl rfl ?_
      refine me_getR (q := 14) C dX0_hasSurety_11 mf_X0_36 rfl rfl k1 rfl ?_
      refine me_iload_n (q := 15) C dX0_hasSurety_14 rfl rfl rfl ?_
      obtain ⟨u3, eu3, hf⟩ := mm_rf_some hf
      obtain ⟨k4, hf⟩ := mm_ck_some hf
      obtain ⟨k5, hf⟩ := mm_ck_some hf
      refine me_iald (q := 16) C dX0_hasSurety_15 eu3 k4 k5 rfl ?_
      refine me_iload_n (q := 17) C dX0_hasSurety_16 rfl rfl rfl ?_
      refine me_icmp_ne (q2 := 22) (q := 20) C dX0_hasSurety_17 (by decide) rfl (fun c6 => ?_) (fun c6 => ?_)
      · have hf := mm_if_t c6 hf
        obtain ⟨v7, ev7, hf⟩ := mm_lt_some hf
        refine me_iinc (q := 25) (v := v7) (lv2 := [some (vR (some b0)), some (vI b1), some (vI v7)]) C dX0_hasSurety_22 rfl (by rw [ev7]; rfl) (Nat.le_of_ble_eq_true rfl) rfl rfl rfl ?_
        refine me_goto (q := 2) C dX0_hasSurety_25 (by decide) ?_
        exact ih _ _ hf hk28
      · have hf := mm_if_f c6 hf
        refine me_iconst (v := (1 : Int32)) (q := 21) C dX0_hasSurety_20 (by decide) rfl ?_
        exact me_zret C hE (Nat.le_of_ble_eq_true rfl) (Nat.le_of_ble_eq_true rfl) rfl (Or.inr rfl) dX0_hasSurety_21 (mm_ri hf)
set_option maxRecDepth 100000 in
set_option maxHeartbeats 4000000 in
theorem cX0_hasSurety_ok (l : Launch) {a0 : Nat} {a1 : Int32} {h : mm_H} {r : Int32} {h1 : mm_H} (hf : fX0_hasSurety a0 a1 h = some (r, h1)) : mm_M l yX0_hasSurety cX0_hasSurety 3 (some .boolean) 2 0 0 [vR (some a0), vI a1] h (some (vI r)) h1 := by
  refine mm_enter (lv := [some (vR (some a0)), some (vI a1), none]) (by decide) rfl (Nat.le_of_ble_eq_true rfl) ?_
  intro X hl C hE
  subst hl
  unfold fX0_hasSurety at hf
  refine me_iconst (v := (0 : Int32)) (q := 1) C dX0_hasSurety_0 (by decide) rfl ?_
  refine me_istore_n (q := 2) (lv2 := [some (vR (some a0)), some (vI a1), some (vI (0 : Int32))]) C dX0_hasSurety_1 rfl (Nat.le_of_ble_eq_true rfl) rfl rfl rfl ?_
  refine cX0_hasSurety_L2 C hE _ _ _ _ hf ?_
  · intro g8 hf
    refine me_iconst (v := (0 : Int32)) (q := 29) C dX0_hasSurety_28 (by decide) rfl ?_
    exact me_zret C hE (Nat.le_of_ble_eq_true rfl) (Nat.le_of_ble_eq_true rfl) rfl (Or.inl rfl) dX0_hasSurety_29 (mm_ri hf)
set_option maxRecDepth 100000 in
set_option maxHeartbeats 4000000 in
theorem cX0_addSurety_ok (l : Launch) {a0 : Nat} {a1 : Int32} {h : mm_H} {r : Unit} {h1 : mm_H} (hf : fX0_addSurety a0 a1 h = some (r, h1)) : mm_M l yX0_addSurety cX0_addSurety 2 none 2 0 0 [vR (some a0), vI a1] h none h1 := by
  refine mm_enter (lv := [some (vR (some a0)), some (vI a1)]) (by decide) rfl (Nat.le_of_ble_eq_true rfl) ?_
  intro X hl C hE
  subst hl
  unfold fX0_addSurety at hf
  refine me_aload_n (q := 1) C dX0_addSurety_0 rfl rfl rfl ?_
  obtain ⟨k1, hf⟩ := mm_ck_some hf
  refine me_getI (q := 4) C dX0_addSurety_1 mf_X0_46 rfl rfl k1 rfl ?_
  refine me_iconst (v := (3 : Int32)) (q := 5) C dX0_addSurety_4 (by decide) rfl ?_
  refine me_icmp_ge (q2 := 38) (q := 8) C dX0_addSurety_5 (by decide) rfl (fun c2 => ?_) (fun c2 => ?_)
  · have hf := mm_if_t c2 hf
    exact me_vret C hE (Nat.le_of_ble_eq_true rfl) (Nat.le_of_ble_eq_true rfl) rfl dX0_addSurety_38 (mm_ru hf)
  · have hf := mm_if_f c2 hf
    refine me_aload_n (q := 9) C dX0_addSurety_8 rfl rfl rfl ?_
    refine me_getR (q := 12) C dX0_addSurety_9 mf_X0_36 rfl rfl k1 rfl ?_
    refine me_aload_n (q := 13) C dX0_addSurety_12 rfl rfl rfl ?_
    refine me_getI (q := 16) C dX0_addSurety_13 mf_X0_46 rfl rfl k1 rfl ?_
    refine me_iload_n (q := 17) C dX0_addSurety_16 rfl rfl rfl ?_
    obtain ⟨u3, eu3, hf⟩ := mm_rf_some hf
    obtain ⟨k4, hf⟩ := mm_ck_some hf
    obtain ⟨k5, hf⟩ := mm_ck_some hf
    obtain ⟨g6, eg6, hf⟩ := mm_lt_some hf
    refine me_iastH (q := 18) C eg6 dX0_addSurety_17 eu3 k4 k5 rfl ?_
    refine me_aload_n (q := 19) C dX0_addSurety_18 rfl rfl rfl ?_
    refine me_getR (q := 22) C dX0_addSurety_19 mf_X0_43 rfl rfl (mm_kI eg6 k1) rfl ?_
    refine me_aload_n (q := 23) C dX0_addSurety_22 rfl rfl rfl ?_
    refine me_getI (q := 26) C dX0_addSurety_23 mf_X0_46 rfl rfl (mm_kI eg6 k1) rfl ?_
    refine me_iload_n (q := 27) C dX0_addSurety_26 rfl rfl rfl ?_
    obtain ⟨u7, eu7, hf⟩ := mm_rf_some hf
    obtain ⟨k8, hf⟩ := mm_ck_some hf
    obtain ⟨k9, hf⟩ := mm_ck_some hf
    obtain ⟨g10, eg10, hf⟩ := mm_lt_some hf
    refine me_iastH (q := 28) C eg10 dX0_addSurety_27 eu7 k8 k9 rfl ?_
    refine me_aload_n (q := 29) C dX0_addSurety_28 rfl rfl rfl ?_
    refine me_dup (q := 30) C dX0_addSurety_29 rfl rfl ?_
    refine me_getI (q := 33) C dX0_addSurety_30 mf_X0_46 rfl rfl (mm_kI eg10 (mm_kI eg6 k1)) rfl ?_
    refine me_iconst (v := (1 : Int32)) (q := 34) C dX0_addSurety_33 (by decide) rfl ?_
    refine me_iadd (q := 35) C dX0_addSurety_34 rfl ?_
    obtain ⟨g11, eg11, hf⟩ := mm_lt_some hf
    refine me_putI (q := 38) C eg11 dX0_addSurety_35 mf_X0_46 mp_X0_1_9 rfl (by decide) rfl (mm_kI eg10 (mm_kI eg6 k1)) rfl ?_
    exact me_vret C hE (Nat.le_of_ble_eq_true rfl) (Nat.le_of_ble_eq_true rfl) rfl dX0_addSurety_38 (mm_ru hf)
set_option maxRecDepth 100000 in
set_option maxHeartbeats 4000000 in
theorem cX0_allClaims_L4 {X : mm_X} (C : mm_C X cX0_allClaims yX0_allClaims 2 0 0) {r : Int32} {h1 : mm_H} (hE : mm_End X 0 0 (some .int) (some (vI r)) h1) {b0 : Nat} (K27 : Int32 → mm_H → Option (Int32 × mm_H)) : ∀ (n : Nat) (x1 : Int32) (x2 : Int32) (h : mm_H), fX0_allClaims_L4 b0 K27 n x1 x2 h = some (r, h1) → (∀ (y1 : Int32) (h : mm_H), K27 y1 h = some (r, h1) → mm_E X h 0 0 27 [none, some (vI y1), none] []) → mm_E X h 0 0 4 [some (vR (some b0)), some (vI x1), some (vI x2)] [] := by
  intro n
  induction n with
  | zero =>
    intro x1 x2 h hf
    exact absurd (show (none : Option (Int32 × mm_H)) = some (r, h1) from hf) (by simp)
  | succ n ih =>
    intro x1 x2 h hf hk27
    have hf : fX0_allClaims_L4_b b0 K27 (fX0_allClaims_L4 b0 K27 n) x1 x2 h = some (r, h1) := hf
    unfold fX0_allClaims_L4_b at hf
    refine me_iload_n (q := 5) C dX0_allClaims_4 rfl rfl rfl ?_
    refine me_aload_n (q := 6) C dX0_allClaims_5 rfl rfl rfl ?_
    obtain ⟨k1, hf⟩ := mm_ck_some hf
    refine me_getI (q := 9) C dX0_allClaims_6 mf_X0_46 rfl rfl k1 rfl ?_
    refine me_icmp_ge (q2 := 27) (q := 12) C dX0_allClaims_9 (by decide) rfl (fun c2 => ?_) (fun c2 => ?_)
    · have hf := mm_if_t c2 hf
      refine me_mask [false, true, false] (lv2 := [none, some (vI x1), none]) rfl ?_
      exact hk27 _ _ hf
    · have hf := mm_if_f c2 hf
      refine me_iload_n (q := 13) C dX0_allClaims_12 rfl rfl rfl ?_
      refine me_aload_n (q := 14) C dX0_allClaims_13 rfl rfl rfl ?_
      refine me_getR (q := 17) C dX0_allClaims_14 mf_X0_40 rfl rfl k1 rfl ?_
      refine me_iload_n (q := 18) C dX0_allClaims_17 rfl rfl rfl ?_
      obtain ⟨u3, eu3, hf⟩ := mm_rf_some hf
      obtain ⟨k4, hf⟩ := mm_ck_some hf
      obtain ⟨k5, hf⟩ := mm_ck_some hf
      refine me_iald (q := 19) C dX0_allClaims_18 eu3 k4 k5 rfl ?_
      refine me_iadd (q := 20) C dX0_allClaims_19 rfl ?_
      obtain ⟨v6, ev6, hf⟩ := mm_lt_some hf
      refine me_topI ev6 ?_
      refine me_istore_n (q := 21) (lv2 := [some (vR (some b0)), some (vI v6), some (vI x2)]) C dX0_allClaims_20 rfl (Nat.le_of_ble_eq_true rfl) rfl rfl rfl ?_
      obtain ⟨v7, ev7, hf⟩ := mm_lt_some hf
      refine me_iinc (q := 24) (v := v7) (lv2 := [some (vR (some b0)), some (vI v6), some (vI v7)]) C dX0_allClaims_21 rfl (by rw [ev7]; rfl) (Nat.le_of_ble_eq_true rfl) rfl rfl rfl ?_
      refine me_goto (q := 4) C dX0_allClaims_24 (by decide) ?_
      exact ih _ _ _ hf hk27
set_option maxRecDepth 100000 in
set_option maxHeartbeats 4000000 in
theorem cX0_allClaims_ok (l : Launch) {a0 : Nat} {h : mm_H} {r : Int32} {h1 : mm_H} (hf : fX0_allClaims a0 h = some (r, h1)) : mm_M l yX0_allClaims cX0_allClaims 3 (some .int) 2 0 0 [vR (some a0)] h (some (vI r)) h1 := by
  refine mm_enter (lv := [some (vR (some a0)), none, none]) (by decide) rfl (Nat.le_of_ble_eq_true rfl) ?_
  intro X hl C hE
  subst hl
  unfold fX0_allClaims at hf
  refine me_iconst (v := (0 : Int32)) (q := 1) C dX0_allClaims_0 (by decide) rfl ?_
  refine me_istore_n (q := 2) (lv2 := [some (vR (some a0)), some (vI (0 : Int32)), none]) C dX0_allClaims_1 rfl (Nat.le_of_ble_eq_true rfl) rfl rfl rfl ?_
  refine me_iconst (v := (0 : Int32)) (q := 3) C dX0_allClaims_2 (by decide) rfl ?_
  refine me_istore_n (q := 4) (lv2 := [some (vR (some a0)), some (vI (0 : Int32)), some (vI (0 : Int32))]) C dX0_allClaims_3 rfl (Nat.le_of_ble_eq_true rfl) rfl rfl rfl ?_
  refine cX0_allClaims_L4 C hE _ _ _ _ _ hf ?_
  · intro z8 g9 hf
    refine me_iload_n (q := 28) C dX0_allClaims_27 rfl rfl rfl ?_
    exact me_iret C hE (Nat.le_of_ble_eq_true rfl) (Nat.le_of_ble_eq_true rfl) rfl dX0_allClaims_28 (mm_ri hf)
set_option maxRecDepth 100000 in
set_option maxHeartbeats 4000000 in
theorem cX0_passTo_L15 {X : mm_X} (C : mm_C X cX0_passTo yX0_passTo 2 0 0) {r : Unit} {h1 : mm_H} (hE : mm_End X 0 0 none none h1) {b0 : Nat} {b1 : Int32} {b2 : Int32} (K46 : mm_H → Option (Unit × mm_H)) : ∀ (n : Nat) (x3 : Int32) (h : mm_H), fX0_passTo_L15 b0 b1 b2 K46 n x3 h = some (r, h1) → (∀ (h : mm_H), K46 h = some (r, h1) → mm_E X h 0 0 46 [none, none, none, none] []) → mm_E X h 0 0 15 [some (vR (some b0)), some (vI b1), some (vI b2), some (vI x3)] [] := by
  intro n
  induction n with
  | zero =>
    intro x3 h hf
    exact absurd (show (none : Option (Unit × mm_H)) = some (r, h1) from hf) (by simp)
  | succ n ih =>
    intro x3 h hf hk46
    have hf : fX0_passTo_L15_b b0 b1 b2 K46 (fX0_passTo_L15 b0 b1 b2 K46 n) x3 h = some (r, h1) := hf
    unfold fX0_passTo_L15_b at hf
    refine me_iload_n (q := 16) C dX0_passTo_15 rfl rfl rfl ?_
    refine me_aload_n (q := 17) C dX0_passTo_16 rfl rfl rfl ?_
    obtain ⟨k4, hf⟩ := mm_ck_some hf
    refine me_getI (q := 20) C dX0_passTo_17 mf_X0_46 rfl rfl k4 rfl ?_
    refine me_icmp_ge (q2 := 46) (q := 23) C dX0_passTo_20 (by decide) rfl (fun c5 => ?_) (fun c5 => ?_)
    · have hf := mm_if_t c5 hf
      refine me_mask [false, false, false, false] (lv2 := [none, none, none, none]) rfl ?_
      exact hk46 _ hf
    · have hf := mm_if_f c5 hf
      refine me_aload_n (q := 24) C dX0_passTo_23 rfl rfl rfl ?_
      refine me_getR (q := 27) C dX0_passTo_24 mf_X0_43 rfl rfl k4 rfl ?_
      refine me_iload_n (q := 28) C dX0_passTo_27 rfl rfl rfl ?_
      obtain ⟨u6, eu6, hf⟩ := mm_rf_some hf
      obtain ⟨k7, hf⟩ := mm_ck_some hf
      obtain ⟨k8, hf⟩ := mm_ck_some hf
      refine me_iald (q := 29) C dX0_passTo_28 eu6 k7 k8 rfl ?_
      refine me_iload_n (q := 30) C dX0_passTo_29 rfl rfl rfl ?_
      obtain ⟨q10, eq10, hf⟩ := mm_jn_some hf
      have Hq10 : ∀ (g9 : mm_H), q10 g9 = some (r, h1) → mm_E X g9 0 0 40 [some (vR (some b0)), some (vI b1), some (vI b2), some (vI x3)] [] := by
        intro g9 hf
        subst eq10
        obtain ⟨v11, ev11, hf⟩ := mm_lt_some hf
        refine me_iinc (q := 43) (v := v11) (lv2 := [some (vR (some b0)), some (vI b1), some (vI b2), some (vI v11)]) C dX0_passTo_40 rfl (by rw [ev11]; rfl) (Nat.le_of_ble_eq_true rfl) rfl rfl rfl ?_
        refine me_goto (q := 15) C dX0_passTo_43 (by decide) ?_
        exact ih _ _ hf hk46
      refine me_icmp_ne (q2 := 40) (q := 33) C dX0_passTo_30 (by decide) rfl (fun c12 => ?_) (fun c12 => ?_)
      · have hf := mm_if_t c12 hf
        exact Hq10 _ hf
      · have hf := mm_if_f c12 hf
        refine me_aload_n (q := 34) C dX0_passTo_33 rfl rfl rfl ?_
        refine me_getR (q := 37) C dX0_passTo_34 mf_X0_43 rfl rfl k4 rfl ?_
        refine me_iload_n (q := 38) C dX0_passTo_37 rfl rfl rfl ?_
        refine me_iload_n (q := 39) C dX0_passTo_38 rfl rfl rfl ?_
        obtain ⟨k13, hf⟩ := mm_ck_some hf
        obtain ⟨g14, eg14, hf⟩ := mm_lt_some hf
        refine me_iastH (q := 40) C eg14 dX0_passTo_39 eu6 k7 k13 rfl ?_
        exact Hq10 _ hf
set_option maxRecDepth 100000 in
set_option maxHeartbeats 4000000 in
theorem cX0_passTo_ok (l : Launch) {a0 : Nat} {a1 : Int32} {a2 : Int32} {h : mm_H} {r : Unit} {h1 : mm_H} (hf : fX0_passTo a0 a1 a2 h = some (r, h1)) : mm_M l yX0_passTo cX0_passTo 4 none 2 0 0 [vR (some a0), vI a1, vI a2] h none h1 := by
  refine mm_enter (lv := [some (vR (some a0)), some (vI a1), some (vI a2), none]) (by decide) rfl (Nat.le_of_ble_eq_true rfl) ?_
  intro X hl C hE
  subst hl
  unfold fX0_passTo at hf
  refine me_aload_n (q := 1) C dX0_passTo_0 rfl rfl rfl ?_
  obtain ⟨k1, hf⟩ := mm_ck_some hf
  refine me_getI (q := 4) C dX0_passTo_1 mf_X0_33 rfl rfl k1 rfl ?_
  refine me_iload_n (q := 5) C dX0_passTo_4 rfl rfl rfl ?_
  obtain ⟨q3, eq3, hf⟩ := mm_jn_some hf
  have Hq3 : ∀ (g2 : mm_H), q3 g2 = some (r, h1) → mm_E X g2 0 0 13 [some (vR (some a0)), some (vI a1), some (vI a2), none] [] := by
    intro g2 hf
    subst eq3
    refine me_iconst (v := (0 : Int32)) (q := 14) C dX0_passTo_13 (by decide) rfl ?_
    refine me_istore_n (q := 15) (lv2 := [some (vR (some a0)), some (vI a1), some (vI a2), some (vI (0 : Int32))]) C dX0_passTo_14 rfl (Nat.le_of_ble_eq_true rfl) rfl rfl rfl ?_
    refine cX0_passTo_L15 C hE _ _ _ _ hf ?_
    · intro g15 hf
      exact me_vret C hE (Nat.le_of_ble_eq_true rfl) (Nat.le_of_ble_eq_true rfl) rfl dX0_passTo_46 (mm_ru hf)
  refine me_icmp_ne (q2 := 13) (q := 8) C dX0_passTo_5 (by decide) rfl (fun c16 => ?_) (fun c16 => ?_)
  · have hf := mm_if_t c16 hf
    exact Hq3 _ hf
  · have hf := mm_if_f c16 hf
    refine me_aload_n (q := 9) C dX0_passTo_8 rfl rfl rfl ?_
    refine me_iload_n (q := 10) C dX0_passTo_9 rfl rfl rfl ?_
    obtain ⟨g17, eg17, hf⟩ := mm_lt_some hf
    refine me_putI (q := 13) C eg17 dX0_passTo_10 mf_X0_33 mp_X0_1_8 rfl (by decide) rfl k1 rfl ?_
    exact Hq3 _ hf
set_option maxRecDepth 100000 in
set_option maxHeartbeats 4000000 in
theorem cX1_init_ok (l : Launch) {a0 : Nat} {h : mm_H} {r : Unit} {h1 : mm_H} (hf : fX1_init a0 h = some (r, h1)) : mm_M l yX1_init cX1_init 1 none 2 12 178 [vR (some a0)] h none h1 := by
  refine mm_enter (lv := [some (vR (some a0))]) (by decide) rfl (Nat.le_of_ble_eq_true rfl) ?_
  intro X hl C hE
  subst hl
  unfold fX1_init at hf
  refine me_aload_n (q := 1) C dX1_init_0 rfl rfl rfl ?_
  refine me_objInit (q := 4) C dX1_init_1 mo_X1_5 rfl rfl (Nat.le_of_ble_eq_true rfl) rfl ?_
  refine me_aload_n (q := 5) C dX1_init_4 rfl rfl rfl ?_
  refine me_iconst (v := (2 : Int32)) (q := 6) C dX1_init_5 (by decide) rfl ?_
  obtain ⟨g1, eg1, hf⟩ := mm_lt_some hf
  obtain ⟨u2, eu2, hf⟩ := mm_lt_some hf
  refine me_newaI (q := 8) (B := 2) (c2 := 1) (s2 := 2) C eg1 dX1_init_6 ma_int ⟨by decide, Nat.le_of_ble_eq_true rfl⟩ (Nat.le_of_ble_eq_true rfl) rfl (Nat.le_of_ble_eq_true rfl) rfl (Nat.le_of_ble_eq_true rfl) rfl ?_
  refine me_topR (congrArg some eu2) ?_
  have k3 : mm_kd g1 u2 = 14 := by rw [eu2]; exact mm_kN eg1
  obtain ⟨k4, hf⟩ := mm_ck_some hf
  obtain ⟨g5, eg5, hf⟩ := mm_lt_some hf
  refine me_putR (q := 11) C eg5 dX1_init_8 mf_X1_11 mp_X1_2_0 (Or.inr ⟨_, rfl⟩) rfl (by decide) rfl k4 rfl ?_
  refine me_aload_n (q := 12) C dX1_init_11 rfl rfl rfl ?_
  refine me_iconst (v := (2 : Int32)) (q := 13) C dX1_init_12 (by decide) rfl ?_
  refine me_bipush (v := (10 : Int32)) (q := 15) C dX1_init_13 (by decide) rfl ?_
  obtain ⟨g6, eg6, hf⟩ := mm_lt_some hf
  obtain ⟨u7, eu7, hf⟩ := mm_lt_some hf
  refine me_mul (q := 19) (c2 := 4) (s2 := 24) C eg6 dX1_init_15 mx_cla_RX1_15 ma_int rfl (Nat.le_of_ble_eq_true rfl) rfl (Nat.le_of_ble_eq_true rfl) rfl ?_
  refine me_topR (congrArg some eu7) ?_
  obtain ⟨k8, hf⟩ := mm_ck_some hf
  obtain ⟨g9, eg9, hf⟩ := mm_lt_some hf
  refine me_putR (q := 22) C eg9 dX1_init_19 mf_X1_17 mp_X1_2_1 (Or.inr ⟨_, rfl⟩) rfl (by decide) rfl k8 rfl ?_
  refine me_aload_n (q := 23) C dX1_init_22 rfl rfl rfl ?_
  refine me_iconst (v := (2 : Int32)) (q := 24) C dX1_init_23 (by decide) rfl ?_
  refine me_bipush (v := (10 : Int32)) (q := 26) C dX1_init_24 (by decide) rfl ?_
  obtain ⟨g10, eg10, hf⟩ := mm_lt_some hf
  obtain ⟨u11, eu11, hf⟩ := mm_lt_some hf
  refine me_mul (q := 30) (c2 := 7) (s2 := 46) C eg10 dX1_init_26 mx_cla_RX1_15 ma_int rfl (Nat.le_of_ble_eq_true rfl) rfl (Nat.le_of_ble_eq_true rfl) rfl ?_
  refine me_topR (congrArg some eu11) ?_
  obtain ⟨k12, hf⟩ := mm_ck_some hf
  obtain ⟨g13, eg13, hf⟩ := mm_lt_some hf
  refine me_putR (q := 33) C eg13 dX1_init_30 mf_X1_20 mp_X1_2_2 (Or.inr ⟨_, rfl⟩) rfl (by decide) rfl k12 rfl ?_
  refine me_aload_n (q := 34) C dX1_init_33 rfl rfl rfl ?_
  refine me_iconst (v := (2 : Int32)) (q := 35) C dX1_init_34 (by decide) rfl ?_
  refine me_bipush (v := (10 : Int32)) (q := 37) C dX1_init_35 (by decide) rfl ?_
  obtain ⟨g14, eg14, hf⟩ := mm_lt_some hf
  obtain ⟨u15, eu15, hf⟩ := mm_lt_some hf
  refine me_mul (q := 41) (c2 := 10) (s2 := 68) C eg14 dX1_init_37 mx_cla_RX1_15 ma_int rfl (Nat.le_of_ble_eq_true rfl) rfl (Nat.le_of_ble_eq_true rfl) rfl ?_
  refine me_topR (congrArg some eu15) ?_
  obtain ⟨k16, hf⟩ := mm_ck_some hf
  obtain ⟨g17, eg17, hf⟩ := mm_lt_some hf
  refine me_putR (q := 44) C eg17 dX1_init_41 mf_X1_23 mp_X1_2_3 (Or.inr ⟨_, rfl⟩) rfl (by decide) rfl k16 rfl ?_
  refine me_aload_n (q := 45) C dX1_init_44 rfl rfl rfl ?_
  refine me_bipush (v := (10 : Int32)) (q := 47) C dX1_init_45 (by decide) rfl ?_
  obtain ⟨g18, eg18, hf⟩ := mm_lt_some hf
  obtain ⟨u19, eu19, hf⟩ := mm_lt_some hf
  refine me_newaI (q := 49) (B := 10) (c2 := 11) (s2 := 78) C eg18 dX1_init_47 ma_int ⟨by decide, Nat.le_of_ble_eq_true rfl⟩ (Nat.le_of_ble_eq_true rfl) rfl (Nat.le_of_ble_eq_true rfl) rfl (Nat.le_of_ble_eq_true rfl) rfl ?_
  refine me_topR (congrArg some eu19) ?_
  have k20 : mm_kd g18 u19 = 14 := by rw [eu19]; exact mm_kN eg18
  obtain ⟨k21, hf⟩ := mm_ck_some hf
  obtain ⟨g22, eg22, hf⟩ := mm_lt_some hf
  refine me_putR (q := 52) C eg22 dX1_init_49 mf_X1_26 mp_X1_2_4 (Or.inr ⟨_, rfl⟩) rfl (by decide) rfl k21 rfl ?_
  refine me_aload_n (q := 53) C dX1_init_52 rfl rfl rfl ?_
  refine me_bipush (v := (100 : Int32)) (q := 55) C dX1_init_53 (by decide) rfl ?_
  obtain ⟨g23, eg23, hf⟩ := mm_lt_some hf
  obtain ⟨u24, eu24, hf⟩ := mm_lt_some hf
  refine me_newaI (q := 57) (B := 100) (c2 := 12) (s2 := 178) C eg23 dX1_init_55 ma_int ⟨by decide, Nat.le_of_ble_eq_true rfl⟩ (Nat.le_of_ble_eq_true rfl) rfl (Nat.le_of_ble_eq_true rfl) rfl (Nat.le_of_ble_eq_true rfl) rfl ?_
  refine me_topR (congrArg some eu24) ?_
  have k25 : mm_kd g23 u24 = 14 := by rw [eu24]; exact mm_kN eg23
  obtain ⟨k26, hf⟩ := mm_ck_some hf
  obtain ⟨g27, eg27, hf⟩ := mm_lt_some hf
  refine me_putR (q := 60) C eg27 dX1_init_57 mf_X1_29 mp_X1_2_8 (Or.inr ⟨_, rfl⟩) rfl (by decide) rfl k26 rfl ?_
  exact me_vret C hE (Nat.le_of_ble_eq_true rfl) (Nat.le_of_ble_eq_true rfl) rfl dX1_init_60 (mm_ru hf)
set_option maxRecDepth 100000 in
set_option maxHeartbeats 4000000 in
theorem cX1_add_ok (l : Launch) {a0 : Nat} {a1 : Int32} {a2 : Int32} {a3 : Int32} {a4 : Int32} {h : mm_H} {r : Int32} {h1 : mm_H} (hf : fX1_add a0 a1 a2 a3 a4 h = some (r, h1)) : mm_M l yX1_add cX1_add 6 (some .int) 2 0 0 [vR (some a0), vI a1, vI a2, vI a3, vI a4] h (some (vI r)) h1 := by
  refine mm_enter (lv := [some (vR (some a0)), some (vI a1), some (vI a2), some (vI a3), some (vI a4), none]) (by decide) rfl (Nat.le_of_ble_eq_true rfl) ?_
  intro X hl C hE
  subst hl
  unfold fX1_add at hf
  refine me_iload_n (q := 1) C dX1_add_0 rfl rfl rfl ?_
  refine me_if_lt (q2 := 20) (q := 4) C dX1_add_1 (by decide) rfl (fun c1 => ?_) (fun c1 => ?_)
  · have hf := mm_if_t c1 hf
    refine me_iconst (v := (-1 : Int32)) (q := 21) C dX1_add_20 (by decide) rfl ?_
    exact me_iret C hE (Nat.le_of_ble_eq_true rfl) (Nat.le_of_ble_eq_true rfl) rfl dX1_add_21 (mm_ri hf)
  · have hf := mm_if_f c1 hf
    refine me_iload_n (q := 5) C dX1_add_4 rfl rfl rfl ?_
    refine me_iconst (v := (1 : Int32)) (q := 6) C dX1_add_5 (by decide) rfl ?_
    refine me_icmp_gt (q2 := 20) (q := 9) C dX1_add_6 (by decide) rfl (fun c2 => ?_) (fun c2 => ?_)
    · have hf := mm_if_t c2 hf
      refine me_iconst (v := (-1 : Int32)) (q := 21) C dX1_add_20 (by decide) rfl ?_
      exact me_iret C hE (Nat.le_of_ble_eq_true rfl) (Nat.le_of_ble_eq_true rfl) rfl dX1_add_21 (mm_ri hf)
    · have hf := mm_if_f c2 hf
      refine me_aload_n (q := 10) C dX1_add_9 rfl rfl rfl ?_
      obtain ⟨k3, hf⟩ := mm_ck_some hf
      refine me_getR (q := 13) C dX1_add_10 mf_X1_11 rfl rfl k3 rfl ?_
      refine me_iload_n (q := 14) C dX1_add_13 rfl rfl rfl ?_
      obtain ⟨u4, eu4, hf⟩ := mm_rf_some hf
      obtain ⟨k5, hf⟩ := mm_ck_some hf
      obtain ⟨k6, hf⟩ := mm_ck_some hf
      refine me_iald (q := 15) C dX1_add_14 eu4 k5 k6 rfl ?_
      refine me_bipush (v := (10 : Int32)) (q := 17) C dX1_add_15 (by decide) rfl ?_
      refine me_icmp_lt (q2 := 22) (q := 20) C dX1_add_17 (by decide) rfl (fun c7 => ?_) (fun c7 => ?_)
      · have hf := mm_if_t c7 hf
        refine me_aload_n (q := 23) C dX1_add_22 rfl rfl rfl ?_
        refine me_getR (q := 26) C dX1_add_23 mf_X1_11 rfl rfl k3 rfl ?_
        refine me_iload_n (q := 27) C dX1_add_26 rfl rfl rfl ?_
        obtain ⟨k8, hf⟩ := mm_ck_some hf
        refine me_iald (q := 28) C dX1_add_27 eu4 k5 k8 rfl ?_
        obtain ⟨v9, ev9, hf⟩ := mm_lt_some hf
        refine me_topI ev9 ?_
        refine me_istore (q := 30) (lv2 := [some (vR (some a0)), some (vI a1), some (vI a2), some (vI a3), some (vI a4), some (vI v9)]) C dX1_add_28 (Nat.le_of_ble_eq_true rfl) rfl rfl rfl ?_
        refine me_aload_n (q := 31) C dX1_add_30 rfl rfl rfl ?_
        refine me_getR (q := 34) C dX1_add_31 mf_X1_17 rfl rfl k3 rfl ?_
        refine me_iload_n (q := 35) C dX1_add_34 rfl rfl rfl ?_
        obtain ⟨u10, eu10, hf⟩ := mm_rf_some hf
        obtain ⟨k11, hf⟩ := mm_ck_some hf
        obtain ⟨k12, hf⟩ := mm_ck_some hf
        refine me_aaldI (q := 36) C dX1_add_35 eu10 k11 k12 rfl ?_
        refine me_iload (q := 38) C dX1_add_36 rfl rfl ?_
        refine me_iload_n (q := 39) C dX1_add_38 rfl rfl rfl ?_
        obtain ⟨u13, eu13, hf⟩ := mm_rf_some hf
        obtain ⟨k14, hf⟩ := mm_ck_some hf
        obtain ⟨k15, hf⟩ := mm_ck_some hf
        obtain ⟨g16, eg16, hf⟩ := mm_lt_some hf
        refine me_iastH (q := 40) C eg16 dX1_add_39 eu13 k14 k15 rfl ?_
        refine me_aload_n (q := 41) C dX1_add_40 rfl rfl rfl ?_
        refine me_getR (q := 44) C dX1_add_41 mf_X1_20 rfl rfl (mm_kI eg16 k3) rfl ?_
        refine me_iload_n (q := 45) C dX1_add_44 rfl rfl rfl ?_
        obtain ⟨u17, eu17, hf⟩ := mm_rf_some hf
        obtain ⟨k18, hf⟩ := mm_ck_some hf
        obtain ⟨k19, hf⟩ := mm_ck_some hf
        refine me_aaldI (q := 46) C dX1_add_45 eu17 k18 k19 rfl ?_
        refine me_iload (q := 48) C dX1_add_46 rfl rfl ?_
        refine me_iload_n (q := 49) C dX1_add_48 rfl rfl rfl ?_
        obtain ⟨u20, eu20, hf⟩ := mm_rf_some hf
        obtain ⟨k21, hf⟩ := mm_ck_some hf
        obtain ⟨k22, hf⟩ := mm_ck_some hf
        obtain ⟨g23, eg23, hf⟩ := mm_lt_some hf
        refine me_iastH (q := 50) C eg23 dX1_add_49 eu20 k21 k22 rfl ?_
        refine me_aload_n (q := 51) C dX1_add_50 rfl rfl rfl ?_
        refine me_getR (q := 54) C dX1_add_51 mf_X1_23 rfl rfl (mm_kI eg23 (mm_kI eg16 k3)) rfl ?_
        refine me_iload_n (q := 55) C dX1_add_54 rfl rfl rfl ?_
        obtain ⟨u24, eu24, hf⟩ := mm_rf_some hf
        obtain ⟨k25, hf⟩ := mm_ck_some hf
        obtain ⟨k26, hf⟩ := mm_ck_some hf
        refine me_aaldI (q := 56) C dX1_add_55 eu24 k25 k26 rfl ?_
        refine me_iload (q := 58) C dX1_add_56 rfl rfl ?_
        refine me_iload (q := 60) C dX1_add_58 rfl rfl ?_
        obtain ⟨u27, eu27, hf⟩ := mm_rf_some hf
        obtain ⟨k28, hf⟩ := mm_ck_some hf
        obtain ⟨k29, hf⟩ := mm_ck_some hf
        obtain ⟨g30, eg30, hf⟩ := mm_lt_some hf
        refine me_iastH (q := 61) C eg30 dX1_add_60 eu27 k28 k29 rfl ?_
        refine me_aload_n (q := 62) C dX1_add_61 rfl rfl rfl ?_
        refine me_getR (q := 65) C dX1_add_62 mf_X1_11 rfl rfl (mm_kI eg30 (mm_kI eg23 (mm_kI eg16 k3))) rfl ?_
        refine me_iload_n (q := 66) C dX1_add_65 rfl rfl rfl ?_
        refine me_dup2_11 (q := 67) C dX1_add_66 rfl rfl rfl ?_
        obtain ⟨u31, eu31, hf⟩ := mm_rf_some hf
        obtain ⟨k32, hf⟩ := mm_ck_some hf
        obtain ⟨k33, hf⟩ := mm_ck_some hf
        refine me_iald (q := 68) C dX1_add_67 eu31 k32 k33 rfl ?_
        refine me_iconst (v := (1 : Int32)) (q := 69) C dX1_add_68 (by decide) rfl ?_
        refine me_iadd (q := 70) C dX1_add_69 rfl ?_
        obtain ⟨k34, hf⟩ := mm_ck_some hf
        obtain ⟨g35, eg35, hf⟩ := mm_lt_some hf
        refine me_iastH (q := 71) C eg35 dX1_add_70 eu31 k32 k34 rfl ?_
        refine me_aload_n (q := 72) C dX1_add_71 rfl rfl rfl ?_
        refine me_iconst (v := (0 : Int32)) (q := 73) C dX1_add_72 (by decide) rfl ?_
        obtain ⟨g36, eg36, hf⟩ := mm_lt_some hf
        refine me_putZ (q := 76) C (Or.inl rfl) eg36 dX1_add_73 mf_X1_32 mp_X1_2_7 rfl (by decide) rfl (mm_kI eg35 (mm_kI eg30 (mm_kI eg23 (mm_kI eg16 k3)))) rfl ?_
        refine me_iload (q := 78) C dX1_add_76 rfl rfl ?_
        exact me_iret C hE (Nat.le_of_ble_eq_true rfl) (Nat.le_of_ble_eq_true rfl) rfl dX1_add_78 (mm_ri hf)
      · have hf := mm_if_f c7 hf
        refine me_iconst (v := (-1 : Int32)) (q := 21) C dX1_add_20 (by decide) rfl ?_
        exact me_iret C hE (Nat.le_of_ble_eq_true rfl) (Nat.le_of_ble_eq_true rfl) rfl dX1_add_21 (mm_ri hf)
set_option maxRecDepth 100000 in
set_option maxHeartbeats 4000000 in
theorem cX1_empty_ok (l : Launch) {a0 : Nat} {h : mm_H} {r : Int32} {h1 : mm_H} (hf : fX1_empty a0 h = some (r, h1)) : mm_M l yX1_empty cX1_empty 2 (some .int) 2 0 0 [vR (some a0)] h (some (vI r)) h1 := by
  refine mm_enter (lv := [some (vR (some a0)), none]) (by decide) rfl (Nat.le_of_ble_eq_true rfl) ?_
  intro X hl C hE
  subst hl
  unfold fX1_empty at hf
  refine me_aload_n (q := 1) C dX1_empty_0 rfl rfl rfl ?_
  obtain ⟨k1, hf⟩ := mm_ck_some hf
  refine me_getR (q := 4) C dX1_empty_1 mf_X1_11 rfl rfl k1 rfl ?_
  refine me_iconst (v := (0 : Int32)) (q := 5) C dX1_empty_4 (by decide) rfl ?_
  obtain ⟨u2, eu2, hf⟩ := mm_rf_some hf
  obtain ⟨k3, hf⟩ := mm_ck_some hf
  obtain ⟨k4, hf⟩ := mm_ck_some hf
  refine me_iald (q := 6) C dX1_empty_5 eu2 k3 k4 rfl ?_
  refine me_aload_n (q := 7) C dX1_empty_6 rfl rfl rfl ?_
  refine me_getR (q := 10) C dX1_empty_7 mf_X1_11 rfl rfl k1 rfl ?_
  refine me_iconst (v := (1 : Int32)) (q := 11) C dX1_empty_10 (by decide) rfl ?_
  obtain ⟨k5, hf⟩ := mm_ck_some hf
  refine me_iald (q := 12) C dX1_empty_11 eu2 k3 k5 rfl ?_
  refine me_iadd (q := 13) C dX1_empty_12 rfl ?_
  obtain ⟨v6, ev6, hf⟩ := mm_lt_some hf
  refine me_topI ev6 ?_
  refine me_istore_n (q := 14) (lv2 := [some (vR (some a0)), some (vI v6)]) C dX1_empty_13 rfl (Nat.le_of_ble_eq_true rfl) rfl rfl rfl ?_
  refine me_iload_n (q := 15) C dX1_empty_14 rfl rfl rfl ?_
  obtain ⟨q8, eq8, hf⟩ := mm_jn_some hf
  have Hq8 : ∀ (g7 : mm_H), q8 g7 = some (r, h1) → mm_E X g7 0 0 23 [some (vR (some a0)), some (vI v6)] [] := by
    intro g7 hf
    subst eq8
    refine me_aload_n (q := 24) C dX1_empty_23 rfl rfl rfl ?_
    obtain ⟨k9, hf⟩ := mm_ck_some hf
    refine me_getR (q := 27) C dX1_empty_24 mf_X1_11 rfl rfl k9 rfl ?_
    refine me_iconst (v := (0 : Int32)) (q := 28) C dX1_empty_27 (by decide) rfl ?_
    refine me_iconst (v := (0 : Int32)) (q := 29) C dX1_empty_28 (by decide) rfl ?_
    obtain ⟨u10, eu10, hf⟩ := mm_rf_some hf
    obtain ⟨k11, hf⟩ := mm_ck_some hf
    obtain ⟨k12, hf⟩ := mm_ck_some hf
    obtain ⟨g13, eg13, hf⟩ := mm_lt_some hf
    refine me_iastH (q := 30) C eg13 dX1_empty_29 eu10 k11 k12 rfl ?_
    refine me_aload_n (q := 31) C dX1_empty_30 rfl rfl rfl ?_
    refine me_getR (q := 34) C dX1_empty_31 mf_X1_11 rfl rfl (mm_kI eg13 k9) rfl ?_
    refine me_iconst (v := (1 : Int32)) (q := 35) C dX1_empty_34 (by decide) rfl ?_
    refine me_iconst (v := (0 : Int32)) (q := 36) C dX1_empty_35 (by decide) rfl ?_
    obtain ⟨u14, eu14, hf⟩ := mm_rf_some hf
    obtain ⟨k15, hf⟩ := mm_ck_some hf
    obtain ⟨k16, hf⟩ := mm_ck_some hf
    obtain ⟨g17, eg17, hf⟩ := mm_lt_some hf
    refine me_iastH (q := 37) C eg17 dX1_empty_36 eu14 k15 k16 rfl ?_
    refine me_iload_n (q := 38) C dX1_empty_37 rfl rfl rfl ?_
    exact me_iret C hE (Nat.le_of_ble_eq_true rfl) (Nat.le_of_ble_eq_true rfl) rfl dX1_empty_38 (mm_ri hf)
  refine me_if_le (q2 := 23) (q := 18) C dX1_empty_15 (by decide) rfl (fun c18 => ?_) (fun c18 => ?_)
  · have hf := mm_if_t c18 hf
    exact Hq8 _ hf
  · have hf := mm_if_f c18 hf
    refine me_aload_n (q := 19) C dX1_empty_18 rfl rfl rfl ?_
    refine me_iconst (v := (0 : Int32)) (q := 20) C dX1_empty_19 (by decide) rfl ?_
    obtain ⟨g19, eg19, hf⟩ := mm_lt_some hf
    refine me_putZ (q := 23) C (Or.inl rfl) eg19 dX1_empty_20 mf_X1_32 mp_X1_2_7 rfl (by decide) rfl k1 rfl ?_
    exact Hq8 _ hf
set_option maxRecDepth 100000 in
set_option maxHeartbeats 4000000 in
theorem cX1_coinsBetween_ok (l : Launch) {a0 : Nat} {a1 : Int32} {a2 : Int32} {h : mm_H} {r : Int32} {h1 : mm_H} (hf : fX1_coinsBetween a0 a1 a2 h = some (r, h1)) : mm_M l yX1_coinsBetween cX1_coinsBetween 3 (some .int) 2 0 0 [vR (some a0), vI a1, vI a2] h (some (vI r)) h1 := by
  refine mm_enter (lv := [some (vR (some a0)), some (vI a1), some (vI a2)]) (by decide) rfl (Nat.le_of_ble_eq_true rfl) ?_
  intro X hl C hE
  subst hl
  unfold fX1_coinsBetween at hf
  refine me_aload_n (q := 1) C dX1_coinsBetween_0 rfl rfl rfl ?_
  obtain ⟨k1, hf⟩ := mm_ck_some hf
  refine me_getR (q := 4) C dX1_coinsBetween_1 mf_X1_23 rfl rfl k1 rfl ?_
  refine me_iconst (v := (0 : Int32)) (q := 5) C dX1_coinsBetween_4 (by decide) rfl ?_
  obtain ⟨u2, eu2, hf⟩ := mm_rf_some hf
  obtain ⟨k3, hf⟩ := mm_ck_some hf
  obtain ⟨k4, hf⟩ := mm_ck_some hf
  refine me_aaldI (q := 6) C dX1_coinsBetween_5 eu2 k3 k4 rfl ?_
  refine me_iload_n (q := 7) C dX1_coinsBetween_6 rfl rfl rfl ?_
  obtain ⟨u5, eu5, hf⟩ := mm_rf_some hf
  obtain ⟨k6, hf⟩ := mm_ck_some hf
  obtain ⟨k7, hf⟩ := mm_ck_some hf
  refine me_iald (q := 8) C dX1_coinsBetween_7 eu5 k6 k7 rfl ?_
  refine me_aload_n (q := 9) C dX1_coinsBetween_8 rfl rfl rfl ?_
  refine me_getR (q := 12) C dX1_coinsBetween_9 mf_X1_23 rfl rfl k1 rfl ?_
  refine me_iconst (v := (1 : Int32)) (q := 13) C dX1_coinsBetween_12 (by decide) rfl ?_
  obtain ⟨k8, hf⟩ := mm_ck_some hf
  refine me_aaldI (q := 14) C dX1_coinsBetween_13 eu2 k3 k8 rfl ?_
  refine me_iload_n (q := 15) C dX1_coinsBetween_14 rfl rfl rfl ?_
  obtain ⟨u9, eu9, hf⟩ := mm_rf_some hf
  obtain ⟨k10, hf⟩ := mm_ck_some hf
  obtain ⟨k11, hf⟩ := mm_ck_some hf
  refine me_iald (q := 16) C dX1_coinsBetween_15 eu9 k10 k11 rfl ?_
  refine me_isub (q := 17) C dX1_coinsBetween_16 rfl ?_
  refine me_mabs (q := 20) C dX1_coinsBetween_17 mm_X1_63 rfl (Nat.le_of_ble_eq_true rfl) rfl ?_
  obtain ⟨v12, ev12, hf⟩ := mm_lt_some hf
  refine me_topI ev12 ?_
  exact me_iret C hE (Nat.le_of_ble_eq_true rfl) (Nat.le_of_ble_eq_true rfl) rfl dX1_coinsBetween_20 (mm_ri hf)
set_option maxRecDepth 100000 in
set_option maxHeartbeats 4000000 in
theorem cX1_daysBetween_ok (l : Launch) {a0 : Nat} {a1 : Int32} {a2 : Int32} {h : mm_H} {r : Int32} {h1 : mm_H} (hf : fX1_daysBetween a0 a1 a2 h = some (r, h1)) : mm_M l yX1_daysBetween cX1_daysBetween 3 (some .int) 2 0 0 [vR (some a0), vI a1, vI a2] h (some (vI r)) h1 := by
  refine mm_enter (lv := [some (vR (some a0)), some (vI a1), some (vI a2)]) (by decide) rfl (Nat.le_of_ble_eq_true rfl) ?_
  intro X hl C hE
  subst hl
  unfold fX1_daysBetween at hf
  refine me_aload_n (q := 1) C dX1_daysBetween_0 rfl rfl rfl ?_
  obtain ⟨k1, hf⟩ := mm_ck_some hf
  refine me_getR (q := 4) C dX1_daysBetween_1 mf_X1_17 rfl rfl k1 rfl ?_
  refine me_iconst (v := (0 : Int32)) (q := 5) C dX1_daysBetween_4 (by decide) rfl ?_
  obtain ⟨u2, eu2, hf⟩ := mm_rf_some hf
  obtain ⟨k3, hf⟩ := mm_ck_some hf
  obtain ⟨k4, hf⟩ := mm_ck_some hf
  refine me_aaldI (q := 6) C dX1_daysBetween_5 eu2 k3 k4 rfl ?_
  refine me_iload_n (q := 7) C dX1_daysBetween_6 rfl rfl rfl ?_
  obtain ⟨u5, eu5, hf⟩ := mm_rf_some hf
  obtain ⟨k6, hf⟩ := mm_ck_some hf
  obtain ⟨k7, hf⟩ := mm_ck_some hf
  refine me_iald (q := 8) C dX1_daysBetween_7 eu5 k6 k7 rfl ?_
  refine me_aload_n (q := 9) C dX1_daysBetween_8 rfl rfl rfl ?_
  refine me_getR (q := 12) C dX1_daysBetween_9 mf_X1_17 rfl rfl k1 rfl ?_
  refine me_iconst (v := (1 : Int32)) (q := 13) C dX1_daysBetween_12 (by decide) rfl ?_
  obtain ⟨k8, hf⟩ := mm_ck_some hf
  refine me_aaldI (q := 14) C dX1_daysBetween_13 eu2 k3 k8 rfl ?_
  refine me_iload_n (q := 15) C dX1_daysBetween_14 rfl rfl rfl ?_
  obtain ⟨u9, eu9, hf⟩ := mm_rf_some hf
  obtain ⟨k10, hf⟩ := mm_ck_some hf
  obtain ⟨k11, hf⟩ := mm_ck_some hf
  refine me_iald (q := 16) C dX1_daysBetween_15 eu9 k10 k11 rfl ?_
  refine me_isub (q := 17) C dX1_daysBetween_16 rfl ?_
  refine me_mabs (q := 20) C dX1_daysBetween_17 mm_X1_63 rfl (Nat.le_of_ble_eq_true rfl) rfl ?_
  obtain ⟨v12, ev12, hf⟩ := mm_lt_some hf
  refine me_topI ev12 ?_
  exact me_iret C hE (Nat.le_of_ble_eq_true rfl) (Nat.le_of_ble_eq_true rfl) rfl dX1_daysBetween_20 (mm_ri hf)
set_option maxRecDepth 100000 in
set_option maxHeartbeats 4000000 in
theorem cX1_weighPairs_L15 {X : mm_X} (C : mm_C X cX1_weighPairs yX1_weighPairs 4 0 0) {r : Unit} {h1 : mm_H} (hE : mm_End X 0 0 none none h1) {b0 : Nat} {b1 : Int32} {b2 : Int32} {b3 : Int32} (K123 : mm_H → Option (Unit × mm_H)) : ∀ (n : Nat) (x4 : Int32) (h : mm_H), fX1_weighPairs_L15 b0 b1 b2 b3 K123 n x4 h = some (r, h1) → (∀ (h : mm_H), K123 h = some (r, h1) → mm_E X h 0 0 123 [some (vR (some b0)), some (vI b1), some (vI b2), some (vI b3), none, none, none, none] []) → mm_E X h 0 0 15 [some (vR (some b0)), some (vI b1), some (vI b2), some (vI b3), some (vI x4), none, none, none] [] := by
  intro n
  induction n with
  | zero =>
    intro x4 h hf
    exact absurd (show (none : Option (Unit × mm_H)) = some (r, h1) from hf) (by simp)
  | succ n ih =>
    intro x4 h hf hk123
    have hf : fX1_weighPairs_L15_b b0 b1 b2 b3 K123 (fX1_weighPairs_L15 b0 b1 b2 b3 K123 n) x4 h = some (r, h1) := hf
    unfold fX1_weighPairs_L15_b at hf
    refine me_iload (q := 17) C dX1_weighPairs_15 rfl rfl ?_
    refine me_aload_n (q := 18) C dX1_weighPairs_17 rfl rfl rfl ?_
    obtain ⟨k6, hf⟩ := mm_ck_some hf
    refine me_getR (q := 21) C dX1_weighPairs_18 mf_X1_11 rfl rfl k6 rfl ?_
    refine me_iconst (v := (1 : Int32)) (q := 22) C dX1_weighPairs_21 (by decide) rfl ?_
    obtain ⟨u7, eu7, hf⟩ := mm_rf_some hf
    obtain ⟨k8, hf⟩ := mm_ck_some hf
    obtain ⟨k9, hf⟩ := mm_ck_some hf
    refine me_iald (q := 23) C dX1_weighPairs_22 eu7 k8 k9 rfl ?_
    refine me_icmp_ge (q2 := 123) (q := 26) C dX1_weighPairs_23 (by decide) rfl (fun c10 => ?_) (fun c10 => ?_)
    · have hf := mm_if_t c10 hf
      refine me_mask [true, true, true, true, false, false, false, false] (lv2 := [some (vR (some b0)), some (vI b1), some (vI b2), some (vI b3), none, none, none, none]) rfl ?_
      exact hk123 _ hf
    · have hf := mm_if_f c10 hf
      refine me_aload_n (q := 27) C dX1_weighPairs_26 rfl rfl rfl ?_
      refine me_iload_n (q := 28) C dX1_weighPairs_27 rfl rfl rfl ?_
      refine me_iload (q := 30) C dX1_weighPairs_28 rfl rfl ?_
      obtain ⟨v11, g12, e13, hf⟩ := mm_cl_some hf
      refine me_callV (q := 33) (c2 := 0) (s2 := 0) (st := []) C (cX1_coinsBetween_ok _ e13) mt_X1_56 mv_X1_coinsBetween rfl (by decide) dX1_weighPairs_30 rfl k6 rfl rfl rfl (Nat.le_of_ble_eq_true rfl) rfl (Nat.le_of_ble_eq_true rfl) rfl (Nat.le_of_ble_eq_true rfl) rfl rfl ?_
      refine me_istore (q := 35) (lv2 := [some (vR (some b0)), some (vI b1), some (vI b2), some (vI b3), some (vI x4), some (vI v11), none, none]) C dX1_weighPairs_33 (Nat.le_of_ble_eq_true rfl) rfl rfl rfl ?_
      refine me_aload_n (q := 36) C dX1_weighPairs_35 rfl rfl rfl ?_
      refine me_iload_n (q := 37) C dX1_weighPairs_36 rfl rfl rfl ?_
      refine me_iload (q := 39) C dX1_weighPairs_37 rfl rfl ?_
      obtain ⟨k14, hf⟩ := mm_ck_some hf
      obtain ⟨v15, g16, e17, hf⟩ := mm_cl_some hf
      refine me_callV (q := 42) (c2 := 0) (s2 := 0) (st := []) C (cX1_daysBetween_ok _ e17) mt_X1_60 mv_X1_daysBetween rfl (by decide) dX1_weighPairs_39 rfl k14 rfl rfl rfl (Nat.le_of_ble_eq_true rfl) rfl (Nat.le_of_ble_eq_true rfl) rfl (Nat.le_of_ble_eq_true rfl) rfl rfl ?_
      refine me_istore (q := 44) (lv2 := [some (vR (some b0)), some (vI b1), some (vI b2), some (vI b3), some (vI x4), some (vI v11), some (vI v15), none]) C dX1_weighPairs_42 (Nat.le_of_ble_eq_true rfl) rfl rfl rfl ?_
      refine me_aload_n (q := 45) C dX1_weighPairs_44 rfl rfl rfl ?_
      obtain ⟨k18, hf⟩ := mm_ck_some hf
      refine me_getR (q := 48) C dX1_weighPairs_45 mf_X1_20 rfl rfl k18 rfl ?_
      refine me_iconst (v := (0 : Int32)) (q := 49) C dX1_weighPairs_48 (by decide) rfl ?_
      obtain ⟨u19, eu19, hf⟩ := mm_rf_some hf
      obtain ⟨k20, hf⟩ := mm_ck_some hf
      obtain ⟨k21, hf⟩ := mm_ck_some hf
      refine me_aaldI (q := 50) C dX1_weighPairs_49 eu19 k20 k21 rfl ?_
      refine me_iload_n (q := 51) C dX1_weighPairs_50 rfl rfl rfl ?_
      obtain ⟨u22, eu22, hf⟩ := mm_rf_some hf
      obtain ⟨k23, hf⟩ := mm_ck_some hf
      obtain ⟨k24, hf⟩ := mm_ck_some hf
      refine me_iald (q := 52) C dX1_weighPairs_51 eu22 k23 k24 rfl ?_
      refine me_aload_n (q := 53) C dX1_weighPairs_52 rfl rfl rfl ?_
      refine me_getR (q := 56) C dX1_weighPairs_53 mf_X1_20 rfl rfl k18 rfl ?_
      refine me_iconst (v := (1 : Int32)) (q := 57) C dX1_weighPairs_56 (by decide) rfl ?_
      obtain ⟨k25, hf⟩ := mm_ck_some hf
      refine me_aaldI (q := 58) C dX1_weighPairs_57 eu19 k20 k25 rfl ?_
      refine me_iload (q := 60) C dX1_weighPairs_58 rfl rfl ?_
      obtain ⟨u26, eu26, hf⟩ := mm_rf_some hf
      obtain ⟨k27, hf⟩ := mm_ck_some hf
      obtain ⟨k28, hf⟩ := mm_ck_some hf
      refine me_iald (q := 61) C dX1_weighPairs_60 eu26 k27 k28 rfl ?_
      obtain ⟨q30, eq30, hf⟩ := mm_jn_some hf
      have Hq30 : ∀ (v29 : Int32), q30 v29 = some (r, h1) → mm_E X g16 0 0 81 [some (vR (some b0)), some (vI b1), some (vI b2), some (vI b3), some (vI x4), some (vI v11), some (vI v15), none] [vI v29] := by
        intro v29 hf
        subst eq30
        refine me_istore (q := 83) (lv2 := [some (vR (some b0)), some (vI b1), some (vI b2), some (vI b3), some (vI x4), some (vI v11), some (vI v15), some (vI v29)]) C dX1_weighPairs_81 (Nat.le_of_ble_eq_true rfl) rfl rfl rfl ?_
        refine me_aload_n (q := 84) C dX1_weighPairs_83 rfl rfl rfl ?_
        refine me_getR (q := 87) C dX1_weighPairs_84 mf_X1_29 rfl rfl k18 rfl ?_
        refine me_iload_n (q := 88) C dX1_weighPairs_87 rfl rfl rfl ?_
        refine me_bipush (v := (10 : Int32)) (q := 90) C dX1_weighPairs_88 (by decide) rfl ?_
        refine me_imul (q := 91) C dX1_weighPairs_90 rfl ?_
        refine me_iload (q := 93) C dX1_weighPairs_91 rfl rfl ?_
        refine me_iadd (q := 94) C dX1_weighPairs_93 rfl ?_
        refine me_iload (q := 96) C dX1_weighPairs_94 rfl rfl ?_
        obtain ⟨q32, eq32, hf⟩ := mm_jn_some hf
        have Hq32 : ∀ (v31 : Int32), q32 v31 = some (r, h1) → mm_E X g16 0 0 116 [some (vR (some b0)), some (vI b1), some (vI b2), some (vI b3), some (vI x4), none, none, none] [vI v31, vI ((b3 * (10 : Int32)) + x4), vR (mm_r g16 b0 8)] := by
          intro v31 hf
          subst eq32
          obtain ⟨u33, eu33, hf⟩ := mm_rf_some hf
          obtain ⟨k34, hf⟩ := mm_ck_some hf
          obtain ⟨k35, hf⟩ := mm_ck_some hf
          obtain ⟨g36, eg36, hf⟩ := mm_lt_some hf
          refine me_iastH (q := 117) C eg36 dX1_weighPairs_116 eu33 k34 k35 rfl ?_
          obtain ⟨v37, ev37, hf⟩ := mm_lt_some hf
          refine me_iinc (q := 120) (v := v37) (lv2 := [some (vR (some b0)), some (vI b1), some (vI b2), some (vI b3), some (vI v37), none, none, none]) C dX1_weighPairs_117 rfl (by rw [ev37]; rfl) (Nat.le_of_ble_eq_true rfl) rfl rfl rfl ?_
          refine me_goto (q := 15) C dX1_weighPairs_120 (by decide) ?_
          exact ih _ _ hf hk123
        refine me_if_eq (q2 := 115) (q := 99) C dX1_weighPairs_96 (by decide) rfl (fun c38 => ?_) (fun c38 => ?_)
        · have hf := mm_if_t c38 hf
          refine me_iconst (v := (0 : Int32)) (q := 116) C dX1_weighPairs_115 (by decide) rfl ?_
          refine me_mask [true, true, true, true, true, false, false, false] (lv2 := [some (vR (some b0)), some (vI b1), some (vI b2), some (vI b3), some (vI x4), none, none, none]) rfl ?_
          exact Hq32 _ hf
        · have hf := mm_if_f c38 hf
          refine me_sipush (v := (10001 : Int32)) (q := 102) C dX1_weighPairs_99 (by decide) rfl ?_
          refine me_iload (q := 104) C dX1_weighPairs_102 rfl rfl ?_
          refine me_isub (q := 105) C dX1_weighPairs_104 rfl ?_
          refine me_sipush (v := (10001 : Int32)) (q := 108) C dX1_weighPairs_105 (by decide) rfl ?_
          refine me_imul (q := 109) C dX1_weighPairs_108 rfl ?_
          refine me_iload (q := 111) C dX1_weighPairs_109 rfl rfl ?_
          refine me_isub (q := 112) C dX1_weighPairs_111 rfl ?_
          refine me_goto (q := 116) C dX1_weighPairs_112 (by decide) ?_
          refine me_mask [true, true, true, true, true, false, false, false] (lv2 := [some (vR (some b0)), some (vI b1), some (vI b2), some (vI b3), some (vI x4), none, none, none]) rfl ?_
          exact Hq32 _ hf
      obtain ⟨q39, eq39, hf⟩ := mm_jn_some hf
      have Hq39 : ∀ (_u : Unit), q39 _u = some (r, h1) → mm_E X g16 0 0 80 [some (vR (some b0)), some (vI b1), some (vI b2), some (vI b3), some (vI x4), some (vI v11), some (vI v15), none] [] := by
        intro _u hf
        subst eq39
        refine me_iconst (v := (0 : Int32)) (q := 81) C dX1_weighPairs_80 (by decide) rfl ?_
        exact Hq30 _ hf
      refine me_icmp_ne (q2 := 80) (q := 64) C dX1_weighPairs_61 (by decide) rfl (fun c40 => ?_) (fun c40 => ?_)
      · have hf := mm_if_t c40 hf
        exact Hq39 () hf
      · have hf := mm_if_f c40 hf
        refine me_iload (q := 66) C dX1_weighPairs_64 rfl rfl ?_
        refine me_iload_n (q := 67) C dX1_weighPairs_66 rfl rfl rfl ?_
        refine me_icmp_gt (q2 := 80) (q := 70) C dX1_weighPairs_67 (by decide) rfl (fun c41 => ?_) (fun c41 => ?_)
        · have hf := mm_if_t c41 hf
          exact Hq39 () hf
        · have hf := mm_if_f c41 hf
          refine me_iload (q := 72) C dX1_weighPairs_70 rfl rfl ?_
          refine me_iload_n (q := 73) C dX1_weighPairs_72 rfl rfl rfl ?_
          refine me_icmp_gt (q2 := 80) (q := 76) C dX1_weighPairs_73 (by decide) rfl (fun c42 => ?_) (fun c42 => ?_)
          · have hf := mm_if_t c42 hf
            exact Hq39 () hf
          · have hf := mm_if_f c42 hf
            refine me_iconst (v := (1 : Int32)) (q := 77) C dX1_weighPairs_76 (by decide) rfl ?_
            refine me_goto (q := 81) C dX1_weighPairs_77 (by decide) ?_
            exact Hq30 _ hf
set_option maxRecDepth 100000 in
set_option maxHeartbeats 4000000 in
theorem cX1_weighPairs_L2 {X : mm_X} (C : mm_C X cX1_weighPairs yX1_weighPairs 4 0 0) {r : Unit} {h1 : mm_H} (hE : mm_End X 0 0 none none h1) {b0 : Nat} {b1 : Int32} {b2 : Int32} (K129 : mm_H → Option (Unit × mm_H)) : ∀ (n : Nat) (x3 : Int32) (h : mm_H), fX1_weighPairs_L2 b0 b1 b2 K129 n x3 h = some (r, h1) → (∀ (h : mm_H), K129 h = some (r, h1) → mm_E X h 0 0 129 [none, none, none, none, none, none, none, none] []) → mm_E X h 0 0 2 [some (vR (some b0)), some (vI b1), some (vI b2), some (vI x3), none, none, none, none] [] := by
  intro n
  induction n with
  | zero =>
    intro x3 h hf
    exact absurd (show (none : Option (Unit × mm_H)) = some (r, h1) from hf) (by simp)
  | succ n ih =>
    intro x3 h hf hk129
    have hf : fX1_weighPairs_L2_b b0 b1 b2 K129 (fX1_weighPairs_L2 b0 b1 b2 K129 n) x3 h = some (r, h1) := hf
    unfold fX1_weighPairs_L2_b at hf
    refine me_iload_n (q := 3) C dX1_weighPairs_2 rfl rfl rfl ?_
    refine me_aload_n (q := 4) C dX1_weighPairs_3 rfl rfl rfl ?_
    obtain ⟨k1, hf⟩ := mm_ck_some hf
    refine me_getR (q := 7) C dX1_weighPairs_4 mf_X1_11 rfl rfl k1 rfl ?_
    refine me_iconst (v := (0 : Int32)) (q := 8) C dX1_weighPairs_7 (by decide) rfl ?_
    obtain ⟨u2, eu2, hf⟩ := mm_rf_some hf
    obtain ⟨k3, hf⟩ := mm_ck_some hf
    obtain ⟨k4, hf⟩ := mm_ck_some hf
    refine me_iald (q := 9) C dX1_weighPairs_8 eu2 k3 k4 rfl ?_
    refine me_icmp_ge (q2 := 129) (q := 12) C dX1_weighPairs_9 (by decide) rfl (fun c5 => ?_) (fun c5 => ?_)
    · have hf := mm_if_t c5 hf
      refine me_mask [false, false, false, false, false, false, false, false] (lv2 := [none, none, none, none, none, none, none, none]) rfl ?_
      exact hk129 _ hf
    · have hf := mm_if_f c5 hf
      refine me_iconst (v := (0 : Int32)) (q := 13) C dX1_weighPairs_12 (by decide) rfl ?_
      refine me_istore (q := 15) (lv2 := [some (vR (some b0)), some (vI b1), some (vI b2), some (vI x3), some (vI (0 : Int32)), none, none, none]) C dX1_weighPairs_13 (Nat.le_of_ble_eq_true rfl) rfl rfl rfl ?_
      refine cX1_weighPairs_L15 C hE _ _ _ _ hf ?_
      · intro g43 hf
        obtain ⟨v44, ev44, hf⟩ := mm_lt_some hf
        refine me_iinc (q := 126) (v := v44) (lv2 := [some (vR (some b0)), some (vI b1), some (vI b2), some (vI v44), none, none, none, none]) C dX1_weighPairs_123 rfl (by rw [ev44]; rfl) (Nat.le_of_ble_eq_true rfl) rfl rfl rfl ?_
        refine me_goto (q := 2) C dX1_weighPairs_126 (by decide) ?_
        exact ih _ _ hf hk129
set_option maxRecDepth 100000 in
set_option maxHeartbeats 4000000 in
theorem cX1_weighPairs_ok (l : Launch) {a0 : Nat} {a1 : Int32} {a2 : Int32} {h : mm_H} {r : Unit} {h1 : mm_H} (hf : fX1_weighPairs a0 a1 a2 h = some (r, h1)) : mm_M l yX1_weighPairs cX1_weighPairs 8 none 4 0 0 [vR (some a0), vI a1, vI a2] h none h1 := by
  refine mm_enter (lv := [some (vR (some a0)), some (vI a1), some (vI a2), none, none, none, none, none]) (by decide) rfl (Nat.le_of_ble_eq_true rfl) ?_
  intro X hl C hE
  subst hl
  unfold fX1_weighPairs at hf
  refine me_iconst (v := (0 : Int32)) (q := 1) C dX1_weighPairs_0 (by decide) rfl ?_
  refine me_istore_n (q := 2) (lv2 := [some (vR (some a0)), some (vI a1), some (vI a2), some (vI (0 : Int32)), none, none, none, none]) C dX1_weighPairs_1 rfl (Nat.le_of_ble_eq_true rfl) rfl rfl rfl ?_
  refine cX1_weighPairs_L2 C hE _ _ _ _ hf ?_
  · intro g45 hf
    exact me_vret C hE (Nat.le_of_ble_eq_true rfl) (Nat.le_of_ble_eq_true rfl) rfl dX1_weighPairs_129 (mm_ru hf)
set_option maxRecDepth 100000 in
set_option maxHeartbeats 4000000 in
theorem cJ6_bitCount_0f7a4_ok (l : Launch) {a0 : Int32} {h : mm_H} {r : Int32} {h1 : mm_H} (hf : fJ6_bitCount_0f7a4 a0 h = some (r, h1)) : mm_M l yJ6_bitCount_0f7a4 cJ6_bitCount_0f7a4 1 (some .int) 2 0 0 [vI a0] h (some (vI r)) h1 := by
  refine mm_enter (lv := [some (vI a0)]) (by decide) rfl (Nat.le_of_ble_eq_true rfl) ?_
  intro X hl C hE
  subst hl
  unfold fJ6_bitCount_0f7a4 at hf
  refine me_iload_n (q := 1) C dJ6_bitCount_0f7a4_0 rfl rfl rfl ?_
  refine me_iload_n (q := 2) C dJ6_bitCount_0f7a4_1 rfl rfl rfl ?_
  refine me_iconst (v := (1 : Int32)) (q := 3) C dJ6_bitCount_0f7a4_2 (by decide) rfl ?_
  refine me_iushr (q := 4) C dJ6_bitCount_0f7a4_3 rfl ?_
  refine me_ldc_w (v := (1431655765 : Int32)) (q := 7) C dJ6_bitCount_0f7a4_4 mc_J6_265 rfl ?_
  refine me_iand (q := 8) C dJ6_bitCount_0f7a4_7 rfl ?_
  refine me_isub (q := 9) C dJ6_bitCount_0f7a4_8 rfl ?_
  obtain ⟨v1, ev1, hf⟩ := mm_lt_some hf
  refine me_topI ev1 ?_
  refine me_istore_n (q := 10) (lv2 := [some (vI v1)]) C dJ6_bitCount_0f7a4_9 rfl (Nat.le_of_ble_eq_true rfl) rfl rfl rfl ?_
  refine me_iload_n (q := 11) C dJ6_bitCount_0f7a4_10 rfl rfl rfl ?_
  refine me_ldc_w (v := (858993459 : Int32)) (q := 14) C dJ6_bitCount_0f7a4_11 mc_J6_266 rfl ?_
  refine me_iand (q := 15) C dJ6_bitCount_0f7a4_14 rfl ?_
  refine me_iload_n (q := 16) C dJ6_bitCount_0f7a4_15 rfl rfl rfl ?_
  refine me_iconst (v := (2 : Int32)) (q := 17) C dJ6_bitCount_0f7a4_16 (by decide) rfl ?_
  refine me_iushr (q := 18) C dJ6_bitCount_0f7a4_17 rfl ?_
  refine me_ldc_w (v := (858993459 : Int32)) (q := 21) C dJ6_bitCount_0f7a4_18 mc_J6_266 rfl ?_
  refine me_iand (q := 22) C dJ6_bitCount_0f7a4_21 rfl ?_
  refine me_iadd (q := 23) C dJ6_bitCount_0f7a4_22 rfl ?_
  obtain ⟨v2, ev2, hf⟩ := mm_lt_some hf
  refine me_topI ev2 ?_
  refine me_istore_n (q := 24) (lv2 := [some (vI v2)]) C dJ6_bitCount_0f7a4_23 rfl (Nat.le_of_ble_eq_true rfl) rfl rfl rfl ?_
  refine me_iload_n (q := 25) C dJ6_bitCount_0f7a4_24 rfl rfl rfl ?_
  refine me_iload_n (q := 26) C dJ6_bitCount_0f7a4_25 rfl rfl rfl ?_
  refine me_iconst (v := (4 : Int32)) (q := 27) C dJ6_bitCount_0f7a4_26 (by decide) rfl ?_
  refine me_iushr (q := 28) C dJ6_bitCount_0f7a4_27 rfl ?_
  refine me_iadd (q := 29) C dJ6_bitCount_0f7a4_28 rfl ?_
  refine me_ldc_w (v := (252645135 : Int32)) (q := 32) C dJ6_bitCount_0f7a4_29 mc_J6_267 rfl ?_
  refine me_iand (q := 33) C dJ6_bitCount_0f7a4_32 rfl ?_
  obtain ⟨v3, ev3, hf⟩ := mm_lt_some hf
  refine me_topI ev3 ?_
  refine me_istore_n (q := 34) (lv2 := [some (vI v3)]) C dJ6_bitCount_0f7a4_33 rfl (Nat.le_of_ble_eq_true rfl) rfl rfl rfl ?_
  refine me_iload_n (q := 35) C dJ6_bitCount_0f7a4_34 rfl rfl rfl ?_
  refine me_iload_n (q := 36) C dJ6_bitCount_0f7a4_35 rfl rfl rfl ?_
  refine me_bipush (v := (8 : Int32)) (q := 38) C dJ6_bitCount_0f7a4_36 (by decide) rfl ?_
  refine me_iushr (q := 39) C dJ6_bitCount_0f7a4_38 rfl ?_
  refine me_iadd (q := 40) C dJ6_bitCount_0f7a4_39 rfl ?_
  obtain ⟨v4, ev4, hf⟩ := mm_lt_some hf
  refine me_topI ev4 ?_
  refine me_istore_n (q := 41) (lv2 := [some (vI v4)]) C dJ6_bitCount_0f7a4_40 rfl (Nat.le_of_ble_eq_true rfl) rfl rfl rfl ?_
  refine me_iload_n (q := 42) C dJ6_bitCount_0f7a4_41 rfl rfl rfl ?_
  refine me_iload_n (q := 43) C dJ6_bitCount_0f7a4_42 rfl rfl rfl ?_
  refine me_bipush (v := (16 : Int32)) (q := 45) C dJ6_bitCount_0f7a4_43 (by decide) rfl ?_
  refine me_iushr (q := 46) C dJ6_bitCount_0f7a4_45 rfl ?_
  refine me_iadd (q := 47) C dJ6_bitCount_0f7a4_46 rfl ?_
  obtain ⟨v5, ev5, hf⟩ := mm_lt_some hf
  refine me_topI ev5 ?_
  refine me_istore_n (q := 48) (lv2 := [some (vI v5)]) C dJ6_bitCount_0f7a4_47 rfl (Nat.le_of_ble_eq_true rfl) rfl rfl rfl ?_
  refine me_iload_n (q := 49) C dJ6_bitCount_0f7a4_48 rfl rfl rfl ?_
  refine me_bipush (v := (63 : Int32)) (q := 51) C dJ6_bitCount_0f7a4_49 (by decide) rfl ?_
  refine me_iand (q := 52) C dJ6_bitCount_0f7a4_51 rfl ?_
  exact me_iret C hE (Nat.le_of_ble_eq_true rfl) (Nat.le_of_ble_eq_true rfl) rfl dJ6_bitCount_0f7a4_52 (mm_ri hf)
set_option maxRecDepth 100000 in
set_option maxHeartbeats 4000000 in
theorem cX1_bestWorth_L21 {X : mm_X} (C : mm_C X cX1_bestWorth yX1_bestWorth 2 0 0) {r : Int32} {h1 : mm_H} (hE : mm_End X 0 0 (some .int) (some (vI r)) h1) {b0 : Nat} {b1 : Int32} {b2 : Int32} {b4 : Int32} (K90 : Int32 → mm_H → Option (Int32 × mm_H)) : ∀ (n : Nat) (x5 : Int32) (x6 : Int32) (h : mm_H), fX1_bestWorth_L21 b0 b1 b2 b4 K90 n x5 x6 h = some (r, h1) → (∀ (y5 : Int32) (h : mm_H), K90 y5 h = some (r, h1) → mm_E X h 0 0 90 [none, none, none, none, none, some (vI y5), none, none] []) → mm_E X h 0 0 21 [some (vR (some b0)), some (vI b1), some (vI b2), none, some (vI b4), some (vI x5), some (vI x6), none] [] := by
  intro n
  induction n with
  | zero =>
    intro x5 x6 h hf
    exact absurd (show (none : Option (Int32 × mm_H)) = some (r, h1) from hf) (by simp)
  | succ n ih =>
    intro x5 x6 h hf hk90
    have hf : fX1_bestWorth_L21_b b0 b1 b2 b4 K90 (fX1_bestWorth_L21 b0 b1 b2 b4 K90 n) x5 x6 h = some (r, h1) := hf
    unfold fX1_bestWorth_L21_b at hf
    refine me_iload (q := 23) C dX1_bestWorth_21 rfl rfl ?_
    refine me_aload_n (q := 24) C dX1_bestWorth_23 rfl rfl rfl ?_
    obtain ⟨k7, hf⟩ := mm_ck_some hf
    refine me_getR (q := 27) C dX1_bestWorth_24 mf_X1_11 rfl rfl k7 rfl ?_
    refine me_iconst (v := (1 : Int32)) (q := 28) C dX1_bestWorth_27 (by decide) rfl ?_
    obtain ⟨u8, eu8, hf⟩ := mm_rf_some hf
    obtain ⟨k9, hf⟩ := mm_ck_some hf
    obtain ⟨k10, hf⟩ := mm_ck_some hf
    refine me_iald (q := 29) C dX1_bestWorth_28 eu8 k9 k10 rfl ?_
    refine me_icmp_ge (q2 := 90) (q := 32) C dX1_bestWorth_29 (by decide) rfl (fun c11 => ?_) (fun c11 => ?_)
    · have hf := mm_if_t c11 hf
      refine me_mask [false, false, false, false, false, true, false, false] (lv2 := [none, none, none, none, none, some (vI x5), none, none]) rfl ?_
      exact hk90 _ _ hf
    · have hf := mm_if_f c11 hf
      refine me_aload_n (q := 33) C dX1_bestWorth_32 rfl rfl rfl ?_
      refine me_getR (q := 36) C dX1_bestWorth_33 mf_X1_29 rfl rfl k7 rfl ?_
      refine me_iload_n (q := 37) C dX1_bestWorth_36 rfl rfl rfl ?_
      refine me_bipush (v := (10 : Int32)) (q := 39) C dX1_bestWorth_37 (by decide) rfl ?_
      refine me_imul (q := 40) C dX1_bestWorth_39 rfl ?_
      refine me_iload (q := 42) C dX1_bestWorth_40 rfl rfl ?_
      refine me_iadd (q := 43) C dX1_bestWorth_42 rfl ?_
      obtain ⟨u12, eu12, hf⟩ := mm_rf_some hf
      obtain ⟨k13, hf⟩ := mm_ck_some hf
      obtain ⟨k14, hf⟩ := mm_ck_some hf
      refine me_iald (q := 44) C dX1_bestWorth_43 eu12 k13 k14 rfl ?_
      obtain ⟨v15, ev15, hf⟩ := mm_lt_some hf
      refine me_topI ev15 ?_
      refine me_istore (q := 46) (lv2 := [some (vR (some b0)), some (vI b1), some (vI b2), none, some (vI b4), some (vI x5), some (vI x6), some (vI v15)]) C dX1_bestWorth_44 (Nat.le_of_ble_eq_true rfl) rfl rfl rfl ?_
      refine me_iload (q := 48) C dX1_bestWorth_46 rfl rfl ?_
      obtain ⟨q18, eq18, hf⟩ := mm_jn_some hf
      have Hq18 : ∀ (v16 : Int32) (g17 : mm_H), q18 v16 g17 = some (r, h1) → mm_E X g17 0 0 84 [some (vR (some b0)), some (vI b1), some (vI b2), none, some (vI b4), some (vI v16), some (vI x6), none] [] := by
        intro v16 g17 hf
        subst eq18
        obtain ⟨v19, ev19, hf⟩ := mm_lt_some hf
        refine me_iinc (q := 87) (v := v19) (lv2 := [some (vR (some b0)), some (vI b1), some (vI b2), none, some (vI b4), some (vI v16), some (vI v19), none]) C dX1_bestWorth_84 rfl (by rw [ev19]; rfl) (Nat.le_of_ble_eq_true rfl) rfl rfl rfl ?_
        refine me_goto (q := 21) C dX1_bestWorth_87 (by decide) ?_
        exact ih _ _ _ hf hk90
      refine me_if_le (q2 := 84) (q := 51) C dX1_bestWorth_48 (by decide) rfl (fun c20 => ?_) (fun c20 => ?_)
      · have hf := mm_if_t c20 hf
        refine me_mask [true, true, true, false, true, true, true, false] (lv2 := [some (vR (some b0)), some (vI b1), some (vI b2), none, some (vI b4), some (vI x5), some (vI x6), none]) rfl ?_
        exact Hq18 _ _ hf
      · have hf := mm_if_f c20 hf
        refine me_iload_n (q := 52) C dX1_bestWorth_51 rfl rfl rfl ?_
        refine me_iload (q := 54) C dX1_bestWorth_52 rfl rfl ?_
        refine me_ishr (q := 55) C dX1_bestWorth_54 rfl ?_
        refine me_iconst (v := (1 : Int32)) (q := 56) C dX1_bestWorth_55 (by decide) rfl ?_
        refine me_iand (q := 57) C dX1_bestWorth_56 rfl ?_
        refine me_if_ne (q2 := 84) (q := 60) C dX1_bestWorth_57 (by decide) rfl (fun c21 => ?_) (fun c21 => ?_)
        · have hf := mm_if_t c21 hf
          refine me_mask [true, true, true, false, true, true, true, false] (lv2 := [some (vR (some b0)), some (vI b1), some (vI b2), none, some (vI b4), some (vI x5), some (vI x6), none]) rfl ?_
          exact Hq18 _ _ hf
        · have hf := mm_if_f c21 hf
          refine me_iload (q := 62) C dX1_bestWorth_60 rfl rfl ?_
          refine me_iload (q := 64) C dX1_bestWorth_62 rfl rfl ?_
          refine me_aload_n (q := 65) C dX1_bestWorth_64 rfl rfl rfl ?_
          refine me_getR (q := 68) C dX1_bestWorth_65 mf_X1_36 rfl rfl k7 rfl ?_
          refine me_iload (q := 70) C dX1_bestWorth_68 rfl rfl ?_
          refine me_iload_n (q := 71) C dX1_bestWorth_70 rfl rfl rfl ?_
          refine me_iconst (v := (1 : Int32)) (q := 72) C dX1_bestWorth_71 (by decide) rfl ?_
          refine me_iload (q := 74) C dX1_bestWorth_72 rfl rfl ?_
          refine me_ishl (q := 75) C dX1_bestWorth_74 rfl ?_
          refine me_ior (q := 76) C dX1_bestWorth_75 rfl ?_
          refine me_iadd (q := 77) C dX1_bestWorth_76 rfl ?_
          obtain ⟨u22, eu22, hf⟩ := mm_rf_some hf
          obtain ⟨k23, hf⟩ := mm_ck_some hf
          obtain ⟨k24, hf⟩ := mm_ck_some hf
          refine me_iald (q := 78) C dX1_bestWorth_77 eu22 k23 k24 rfl ?_
          refine me_iadd (q := 79) C dX1_bestWorth_78 rfl ?_
          refine me_mmax (q := 82) C dX1_bestWorth_79 mm_X1_68 rfl (Nat.le_of_ble_eq_true rfl) rfl ?_
          obtain ⟨v25, ev25, hf⟩ := mm_lt_some hf
          refine me_topI ev25 ?_
          refine me_istore (q := 84) (lv2 := [some (vR (some b0)), some (vI b1), some (vI b2), none, some (vI b4), some (vI v25), some (vI x6), some (vI v15)]) C dX1_bestWorth_82 (Nat.le_of_ble_eq_true rfl) rfl rfl rfl ?_
          refine me_mask [true, true, true, false, true, true, true, false] (lv2 := [some (vR (some b0)), some (vI b1), some (vI b2), none, some (vI b4), some (vI v25), some (vI x6), none]) rfl ?_
          exact Hq18 _ _ hf
set_option maxRecDepth 100000 in
set_option maxHeartbeats 4000000 in
theorem cX1_bestWorth_ok (l : Launch) {a0 : Nat} {a1 : Int32} {a2 : Int32} {a3 : Int32} {h : mm_H} {r : Int32} {h1 : mm_H} (hf : fX1_bestWorth a0 a1 a2 a3 h = some (r, h1)) : mm_M l yX1_bestWorth cX1_bestWorth 8 (some .int) 2 0 0 [vR (some a0), vI a1, vI a2, vI a3] h (some (vI r)) h1 := by
  refine mm_enter (lv := [some (vR (some a0)), some (vI a1), some (vI a2), some (vI a3), none, none, none, none]) (by decide) rfl (Nat.le_of_ble_eq_true rfl) ?_
  intro X hl C hE
  subst hl
  unfold fX1_bestWorth at hf
  refine me_iload_n (q := 1) C dX1_bestWorth_0 rfl rfl rfl ?_
  refine me_iconst (v := (1 : Int32)) (q := 2) C dX1_bestWorth_1 (by decide) rfl ?_
  refine me_iadd (q := 3) C dX1_bestWorth_2 rfl ?_
  refine me_iload_n (q := 4) C dX1_bestWorth_3 rfl rfl rfl ?_
  refine me_imul (q := 5) C dX1_bestWorth_4 rfl ?_
  obtain ⟨v1, ev1, hf⟩ := mm_lt_some hf
  refine me_topI ev1 ?_
  refine me_istore (q := 7) (lv2 := [some (vR (some a0)), some (vI a1), some (vI a2), some (vI a3), some (vI v1), none, none, none]) C dX1_bestWorth_5 (Nat.le_of_ble_eq_true rfl) rfl rfl rfl ?_
  refine me_aload_n (q := 8) C dX1_bestWorth_7 rfl rfl rfl ?_
  obtain ⟨k2, hf⟩ := mm_ck_some hf
  refine me_getR (q := 11) C dX1_bestWorth_8 mf_X1_36 rfl rfl k2 rfl ?_
  refine me_iload (q := 13) C dX1_bestWorth_11 rfl rfl ?_
  refine me_iload_n (q := 14) C dX1_bestWorth_13 rfl rfl rfl ?_
  refine me_iadd (q := 15) C dX1_bestWorth_14 rfl ?_
  obtain ⟨u3, eu3, hf⟩ := mm_rf_some hf
  obtain ⟨k4, hf⟩ := mm_ck_some hf
  obtain ⟨k5, hf⟩ := mm_ck_some hf
  refine me_iald (q := 16) C dX1_bestWorth_15 eu3 k4 k5 rfl ?_
  obtain ⟨v6, ev6, hf⟩ := mm_lt_some hf
  refine me_topI ev6 ?_
  refine me_istore (q := 18) (lv2 := [some (vR (some a0)), some (vI a1), some (vI a2), some (vI a3), some (vI v1), some (vI v6), none, none]) C dX1_bestWorth_16 (Nat.le_of_ble_eq_true rfl) rfl rfl rfl ?_
  refine me_iconst (v := (0 : Int32)) (q := 19) C dX1_bestWorth_18 (by decide) rfl ?_
  refine me_istore (q := 21) (lv2 := [some (vR (some a0)), some (vI a1), some (vI a2), some (vI a3), some (vI v1), some (vI v6), some (vI (0 : Int32)), none]) C dX1_bestWorth_19 (Nat.le_of_ble_eq_true rfl) rfl rfl rfl ?_
  refine me_mask [true, true, true, false, true, true, true, false] (lv2 := [some (vR (some a0)), some (vI a1), some (vI a2), none, some (vI v1), some (vI v6), some (vI (0 : Int32)), none]) rfl ?_
  refine cX1_bestWorth_L21 C hE _ _ _ _ _ hf ?_
  · intro z26 g27 hf
    refine me_iload (q := 92) C dX1_bestWorth_90 rfl rfl ?_
    exact me_iret C hE (Nat.le_of_ble_eq_true rfl) (Nat.le_of_ble_eq_true rfl) rfl dX1_bestWorth_92 (mm_ri hf)
set_option maxRecDepth 100000 in
set_option maxHeartbeats 4000000 in
theorem cX1_firstPartner_L22 {X : mm_X} (C : mm_C X cX1_firstPartner yX1_firstPartner 2 0 0) {r : Int32} {h1 : mm_H} (hE : mm_End X 0 0 (some .int) (some (vI r)) h1) {b0 : Nat} {b1 : Int32} {b2 : Int32} {b4 : Int32} {b5 : Int32} (K92 : mm_H → Option (Int32 × mm_H)) : ∀ (n : Nat) (x6 : Int32) (h : mm_H), fX1_firstPartner_L22 b0 b1 b2 b4 b5 K92 n x6 h = some (r, h1) → (∀ (h : mm_H), K92 h = some (r, h1) → mm_E X h 0 0 92 [none, none, none, none, none, none, none, none] []) → mm_E X h 0 0 22 [some (vR (some b0)), some (vI b1), some (vI b2), none, some (vI b4), some (vI b5), some (vI x6), none] [] := by
  intro n
  induction n with
  | zero =>
    intro x6 h hf
    exact absurd (show (none : Option (Int32 × mm_H)) = some (r, h1) from hf) (by simp)
  | succ n ih =>
    intro x6 h hf hk92
    have hf : fX1_firstPartner_L22_b b0 b1 b2 b4 b5 K92 (fX1_firstPartner_L22 b0 b1 b2 b4 b5 K92 n) x6 h = some (r, h1) := hf
    unfold fX1_firstPartner_L22_b at hf
    refine me_iload (q := 24) C dX1_firstPartner_22 rfl rfl ?_
    refine me_aload_n (q := 25) C dX1_firstPartner_24 rfl rfl rfl ?_
    obtain ⟨k7, hf⟩ := mm_ck_some hf
    refine me_getR (q := 28) C dX1_firstPartner_25 mf_X1_11 rfl rfl k7 rfl ?_
    refine me_iconst (v := (1 : Int32)) (q := 29) C dX1_firstPartner_28 (by decide) rfl ?_
    obtain ⟨u8, eu8, hf⟩ := mm_rf_some hf
    obtain ⟨k9, hf⟩ := mm_ck_some hf
    obtain ⟨k10, hf⟩ := mm_ck_some hf
    refine me_iald (q := 30) C dX1_firstPartner_29 eu8 k9 k10 rfl ?_
    refine me_icmp_ge (q2 := 92) (q := 33) C dX1_firstPartner_30 (by decide) rfl (fun c11 => ?_) (fun c11 => ?_)
    · have hf := mm_if_t c11 hf
      refine me_mask [false, false, false, false, false, false, false, false] (lv2 := [none, none, none, none, none, none, none, none]) rfl ?_
      exact hk92 _ hf
    · have hf := mm_if_f c11 hf
      refine me_aload_n (q := 34) C dX1_firstPartner_33 rfl rfl rfl ?_
      refine me_getR (q := 37) C dX1_firstPartner_34 mf_X1_29 rfl rfl k7 rfl ?_
      refine me_iload_n (q := 38) C dX1_firstPartner_37 rfl rfl rfl ?_
      refine me_bipush (v := (10 : Int32)) (q := 40) C dX1_firstPartner_38 (by decide) rfl ?_
      refine me_imul (q := 41) C dX1_firstPartner_40 rfl ?_
      refine me_iload (q := 43) C dX1_firstPartner_41 rfl rfl ?_
      refine me_iadd (q := 44) C dX1_firstPartner_43 rfl ?_
      obtain ⟨u12, eu12, hf⟩ := mm_rf_some hf
      obtain ⟨k13, hf⟩ := mm_ck_some hf
      obtain ⟨k14, hf⟩ := mm_ck_some hf
      refine me_iald (q := 45) C dX1_firstPartner_44 eu12 k13 k14 rfl ?_
      obtain ⟨v15, ev15, hf⟩ := mm_lt_some hf
      refine me_topI ev15 ?_
      refine me_istore (q := 47) (lv2 := [some (vR (some b0)), some (vI b1), some (vI b2), none, some (vI b4), some (vI b5), some (vI x6), some (vI v15)]) C dX1_firstPartner_45 (Nat.le_of_ble_eq_true rfl) rfl rfl rfl ?_
      refine me_iload (q := 49) C dX1_firstPartner_47 rfl rfl ?_
      obtain ⟨q16, eq16, hf⟩ := mm_jn_some hf
      have Hq16 : ∀ (_u : Unit), q16 _u = some (r, h1) → mm_E X h 0 0 86 [some (vR (some b0)), some (vI b1), some (vI b2), none, some (vI b4), some (vI b5), some (vI x6), none] [] := by
        intro _u hf
        subst eq16
        obtain ⟨v17, ev17, hf⟩ := mm_lt_some hf
        refine me_iinc (q := 89) (v := v17) (lv2 := [some (vR (some b0)), some (vI b1), some (vI b2), none, some (vI b4), some (vI b5), some (vI v17), none]) C dX1_firstPartner_86 rfl (by rw [ev17]; rfl) (Nat.le_of_ble_eq_true rfl) rfl rfl rfl ?_
        refine me_goto (q := 22) C dX1_firstPartner_89 (by decide) ?_
        exact ih _ _ hf hk92
      refine me_if_le (q2 := 86) (q := 52) C dX1_firstPartner_49 (by decide) rfl (fun c18 => ?_) (fun c18 => ?_)
      · have hf := mm_if_t c18 hf
        refine me_mask [true, true, true, false, true, true, true, false] (lv2 := [some (vR (some b0)), some (vI b1), some (vI b2), none, some (vI b4), some (vI b5), some (vI x6), none]) rfl ?_
        exact Hq16 () hf
      · have hf := mm_if_f c18 hf
        refine me_iload_n (q := 53) C dX1_firstPartner_52 rfl rfl rfl ?_
        refine me_iload (q := 55) C dX1_firstPartner_53 rfl rfl ?_
        refine me_ishr (q := 56) C dX1_firstPartner_55 rfl ?_
        refine me_iconst (v := (1 : Int32)) (q := 57) C dX1_firstPartner_56 (by decide) rfl ?_
        refine me_iand (q := 58) C dX1_firstPartner_57 rfl ?_
        refine me_if_ne (q2 := 86) (q := 61) C dX1_firstPartner_58 (by decide) rfl (fun c19 => ?_) (fun c19 => ?_)
        · have hf := mm_if_t c19 hf
          refine me_mask [true, true, true, false, true, true, true, false] (lv2 := [some (vR (some b0)), some (vI b1), some (vI b2), none, some (vI b4), some (vI b5), some (vI x6), none]) rfl ?_
          exact Hq16 () hf
        · have hf := mm_if_f c19 hf
          refine me_iload (q := 63) C dX1_firstPartner_61 rfl rfl ?_
          refine me_aload_n (q := 64) C dX1_firstPartner_63 rfl rfl rfl ?_
          refine me_getR (q := 67) C dX1_firstPartner_64 mf_X1_36 rfl rfl k7 rfl ?_
          refine me_iload (q := 69) C dX1_firstPartner_67 rfl rfl ?_
          refine me_iload_n (q := 70) C dX1_firstPartner_69 rfl rfl rfl ?_
          refine me_iconst (v := (1 : Int32)) (q := 71) C dX1_firstPartner_70 (by decide) rfl ?_
          refine me_iload (q := 73) C dX1_firstPartner_71 rfl rfl ?_
          refine me_ishl (q := 74) C dX1_firstPartner_73 rfl ?_
          refine me_ior (q := 75) C dX1_firstPartner_74 rfl ?_
          refine me_iadd (q := 76) C dX1_firstPartner_75 rfl ?_
          obtain ⟨u20, eu20, hf⟩ := mm_rf_some hf
          obtain ⟨k21, hf⟩ := mm_ck_some hf
          obtain ⟨k22, hf⟩ := mm_ck_some hf
          refine me_iald (q := 77) C dX1_firstPartner_76 eu20 k21 k22 rfl ?_
          refine me_iadd (q := 78) C dX1_firstPartner_77 rfl ?_
          refine me_iload (q := 80) C dX1_firstPartner_78 rfl rfl ?_
          refine me_icmp_ne (q2 := 86) (q := 83) C dX1_firstPartner_80 (by decide) rfl (fun c23 => ?_) (fun c23 => ?_)
          · have hf := mm_if_t c23 hf
            refine me_mask [true, true, true, false, true, true, true, false] (lv2 := [some (vR (some b0)), some (vI b1), some (vI b2), none, some (vI b4), some (vI b5), some (vI x6), none]) rfl ?_
            exact Hq16 () hf
          · have hf := mm_if_f c23 hf
            refine me_iload (q := 85) C dX1_firstPartner_83 rfl rfl ?_
            exact me_iret C hE (Nat.le_of_ble_eq_true rfl) (Nat.le_of_ble_eq_true rfl) rfl dX1_firstPartner_85 (mm_ri hf)
set_option maxRecDepth 100000 in
set_option maxHeartbeats 4000000 in
theorem cX1_firstPartner_ok (l : Launch) {a0 : Nat} {a1 : Int32} {a2 : Int32} {a3 : Int32} {h : mm_H} {r : Int32} {h1 : mm_H} (hf : fX1_firstPartner a0 a1 a2 a3 h = some (r, h1)) : mm_M l yX1_firstPartner cX1_firstPartner 8 (some .int) 2 0 0 [vR (some a0), vI a1, vI a2, vI a3] h (some (vI r)) h1 := by
  refine mm_enter (lv := [some (vR (some a0)), some (vI a1), some (vI a2), some (vI a3), none, none, none, none]) (by decide) rfl (Nat.le_of_ble_eq_true rfl) ?_
  intro X hl C hE
  subst hl
  unfold fX1_firstPartner at hf
  refine me_iload_n (q := 1) C dX1_firstPartner_0 rfl rfl rfl ?_
  refine me_iconst (v := (1 : Int32)) (q := 2) C dX1_firstPartner_1 (by decide) rfl ?_
  refine me_iadd (q := 3) C dX1_firstPartner_2 rfl ?_
  refine me_iload_n (q := 4) C dX1_firstPartner_3 rfl rfl rfl ?_
  refine me_imul (q := 5) C dX1_firstPartner_4 rfl ?_
  obtain ⟨v1, ev1, hf⟩ := mm_lt_some hf
  refine me_topI ev1 ?_
  refine me_istore (q := 7) (lv2 := [some (vR (some a0)), some (vI a1), some (vI a2), some (vI a3), some (vI v1), none, none, none]) C dX1_firstPartner_5 (Nat.le_of_ble_eq_true rfl) rfl rfl rfl ?_
  refine me_aload_n (q := 8) C dX1_firstPartner_7 rfl rfl rfl ?_
  obtain ⟨k2, hf⟩ := mm_ck_some hf
  refine me_getR (q := 11) C dX1_firstPartner_8 mf_X1_36 rfl rfl k2 rfl ?_
  refine me_iload_n (q := 12) C dX1_firstPartner_11 rfl rfl rfl ?_
  refine me_iload_n (q := 13) C dX1_firstPartner_12 rfl rfl rfl ?_
  refine me_imul (q := 14) C dX1_firstPartner_13 rfl ?_
  refine me_iload_n (q := 15) C dX1_firstPartner_14 rfl rfl rfl ?_
  refine me_iadd (q := 16) C dX1_firstPartner_15 rfl ?_
  obtain ⟨u3, eu3, hf⟩ := mm_rf_some hf
  obtain ⟨k4, hf⟩ := mm_ck_some hf
  obtain ⟨k5, hf⟩ := mm_ck_some hf
  refine me_iald (q := 17) C dX1_firstPartner_16 eu3 k4 k5 rfl ?_
  obtain ⟨v6, ev6, hf⟩ := mm_lt_some hf
  refine me_topI ev6 ?_
  refine me_istore (q := 19) (lv2 := [some (vR (some a0)), some (vI a1), some (vI a2), some (vI a3), some (vI v1), some (vI v6), none, none]) C dX1_firstPartner_17 (Nat.le_of_ble_eq_true rfl) rfl rfl rfl ?_
  refine me_iconst (v := (0 : Int32)) (q := 20) C dX1_firstPartner_19 (by decide) rfl ?_
  refine me_istore (q := 22) (lv2 := [some (vR (some a0)), some (vI a1), some (vI a2), some (vI a3), some (vI v1), some (vI v6), some (vI (0 : Int32)), none]) C dX1_firstPartner_20 (Nat.le_of_ble_eq_true rfl) rfl rfl rfl ?_
  refine me_mask [true, true, true, false, true, true, true, false] (lv2 := [some (vR (some a0)), some (vI a1), some (vI a2), none, some (vI v1), some (vI v6), some (vI (0 : Int32)), none]) rfl ?_
  refine cX1_firstPartner_L22 C hE _ _ _ _ hf ?_
  · intro g24 hf
    refine me_iconst (v := (-1 : Int32)) (q := 93) C dX1_firstPartner_92 (by decide) rfl ?_
    exact me_iret C hE (Nat.le_of_ble_eq_true rfl) (Nat.le_of_ble_eq_true rfl) rfl dX1_firstPartner_93 (mm_ri hf)
set_option maxRecDepth 100000 in
set_option maxHeartbeats 4000000 in
theorem cX1_keepFirstBest_L14 {X : mm_X} (C : mm_C X cX1_keepFirstBest yX1_keepFirstBest 4 0 0) {r : Int32} {h1 : mm_H} (hE : mm_End X 0 0 (some .int) (some (vI r)) h1) {b0 : Nat} {b1 : Int32} (K92 : Int32 → mm_H → Option (Int32 × mm_H)) : ∀ (n : Nat) (x2 : Int32) (x3 : Int32) (h : mm_H), fX1_keepFirstBest_L14 b0 b1 K92 n x2 x3 h = some (r, h1) → (∀ (y2 : Int32) (h : mm_H), K92 y2 h = some (r, h1) → mm_E X h 0 0 92 [some (vR (some b0)), none, some (vI y2), none, none] []) → mm_E X h 0 0 14 [some (vR (some b0)), some (vI b1), some (vI x2), some (vI x3), none] [] := by
  intro n
  induction n with
  | zero =>
    intro x2 x3 h hf
    exact absurd (show (none : Option (Int32 × mm_H)) = some (r, h1) from hf) (by simp)
  | succ n ih =>
    intro x2 x3 h hf hk92
    have hf : fX1_keepFirstBest_L14_b b0 b1 K92 (fX1_keepFirstBest_L14 b0 b1 K92 n) x2 x3 h = some (r, h1) := hf
    unfold fX1_keepFirstBest_L14_b at hf
    refine me_iload_n (q := 15) C dX1_keepFirstBest_14 rfl rfl rfl ?_
    refine me_aload_n (q := 16) C dX1_keepFirstBest_15 rfl rfl rfl ?_
    obtain ⟨k4, hf⟩ := mm_ck_some hf
    refine me_getR (q := 19) C dX1_keepFirstBest_16 mf_X1_11 rfl rfl k4 rfl ?_
    refine me_iconst (v := (0 : Int32)) (q := 20) C dX1_keepFirstBest_19 (by decide) rfl ?_
    obtain ⟨u5, eu5, hf⟩ := mm_rf_some hf
    obtain ⟨k6, hf⟩ := mm_ck_some hf
    obtain ⟨k7, hf⟩ := mm_ck_some hf
    refine me_iald (q := 21) C dX1_keepFirstBest_20 eu5 k6 k7 rfl ?_
    refine me_icmp_ge (q2 := 92) (q := 24) C dX1_keepFirstBest_21 (by decide) rfl (fun c8 => ?_) (fun c8 => ?_)
    · have hf := mm_if_t c8 hf
      refine me_mask [true, false, true, false, false] (lv2 := [some (vR (some b0)), none, some (vI x2), none, none]) rfl ?_
      exact hk92 _ _ hf
    · have hf := mm_if_f c8 hf
      refine me_aload_n (q := 25) C dX1_keepFirstBest_24 rfl rfl rfl ?_
      refine me_iload_n (q := 26) C dX1_keepFirstBest_25 rfl rfl rfl ?_
      refine me_iload_n (q := 27) C dX1_keepFirstBest_26 rfl rfl rfl ?_
      refine me_iload_n (q := 28) C dX1_keepFirstBest_27 rfl rfl rfl ?_
      obtain ⟨v9, g10, e11, hf⟩ := mm_cl_some hf
      refine me_callV (q := 31) (c2 := 0) (s2 := 0) (st := []) C (cX1_firstPartner_ok _ e11) mt_X1_78 mv_X1_firstPartner rfl (by decide) dX1_keepFirstBest_28 rfl k4 rfl rfl rfl (Nat.le_of_ble_eq_true rfl) rfl (Nat.le_of_ble_eq_true rfl) rfl (Nat.le_of_ble_eq_true rfl) rfl rfl ?_
      refine me_istore (q := 33) (lv2 := [some (vR (some b0)), some (vI b1), some (vI x2), some (vI x3), some (vI v9)]) C dX1_keepFirstBest_31 (Nat.le_of_ble_eq_true rfl) rfl rfl rfl ?_
      refine me_aload_n (q := 34) C dX1_keepFirstBest_33 rfl rfl rfl ?_
      obtain ⟨k12, hf⟩ := mm_ck_some hf
      refine me_getR (q := 37) C dX1_keepFirstBest_34 mf_X1_26 rfl rfl k12 rfl ?_
      refine me_iload_n (q := 38) C dX1_keepFirstBest_37 rfl rfl rfl ?_
      refine me_iload (q := 40) C dX1_keepFirstBest_38 rfl rfl ?_
      obtain ⟨u13, eu13, hf⟩ := mm_rf_some hf
      obtain ⟨k14, hf⟩ := mm_ck_some hf
      obtain ⟨k15, hf⟩ := mm_ck_some hf
      obtain ⟨g16, eg16, hf⟩ := mm_lt_some hf
      refine me_iastH (q := 41) C eg16 dX1_keepFirstBest_40 eu13 k14 k15 rfl ?_
      refine me_iload (q := 43) C dX1_keepFirstBest_41 rfl rfl ?_
      refine me_iconst (v := (-1 : Int32)) (q := 44) C dX1_keepFirstBest_43 (by decide) rfl ?_
      obtain ⟨q19, eq19, hf⟩ := mm_jn_some hf
      have Hq19 : ∀ (v17 : Int32) (g18 : mm_H), q19 v17 g18 = some (r, h1) → mm_E X g18 0 0 86 [some (vR (some b0)), some (vI b1), some (vI v17), some (vI x3), none] [] := by
        intro v17 g18 hf
        subst eq19
        obtain ⟨v20, ev20, hf⟩ := mm_lt_some hf
        refine me_iinc (q := 89) (v := v20) (lv2 := [some (vR (some b0)), some (vI b1), some (vI v17), some (vI v20), none]) C dX1_keepFirstBest_86 rfl (by rw [ev20]; rfl) (Nat.le_of_ble_eq_true rfl) rfl rfl rfl ?_
        refine me_goto (q := 14) C dX1_keepFirstBest_89 (by decide) ?_
        exact ih _ _ _ hf hk92
      refine me_icmp_eq (q2 := 86) (q := 47) C dX1_keepFirstBest_44 (by decide) rfl (fun c21 => ?_) (fun c21 => ?_)
      · have hf := mm_if_t c21 hf
        refine me_mask [true, true, true, true, false] (lv2 := [some (vR (some b0)), some (vI b1), some (vI x2), some (vI x3), none]) rfl ?_
        exact Hq19 _ _ hf
      · have hf := mm_if_f c21 hf
        refine me_iload_n (q := 48) C dX1_keepFirstBest_47 rfl rfl rfl ?_
        refine me_iconst (v := (1 : Int32)) (q := 49) C dX1_keepFirstBest_48 (by decide) rfl ?_
        refine me_iload (q := 51) C dX1_keepFirstBest_49 rfl rfl ?_
        refine me_ishl (q := 52) C dX1_keepFirstBest_51 rfl ?_
        refine me_ior (q := 53) C dX1_keepFirstBest_52 rfl ?_
        obtain ⟨v22, ev22, hf⟩ := mm_lt_some hf
        refine me_topI ev22 ?_
        refine me_istore_n (q := 54) (lv2 := [some (vR (some b0)), some (vI b1), some (vI v22), some (vI x3), some (vI v9)]) C dX1_keepFirstBest_53 rfl (Nat.le_of_ble_eq_true rfl) rfl rfl rfl ?_
        refine me_aload_n (q := 55) C dX1_keepFirstBest_54 rfl rfl rfl ?_
        refine me_dup (q := 56) C dX1_keepFirstBest_55 rfl rfl ?_
        refine me_getI (q := 59) C dX1_keepFirstBest_56 mf_X1_71 rfl rfl (mm_kI eg16 k12) rfl ?_
        refine me_aload_n (q := 60) C dX1_keepFirstBest_59 rfl rfl rfl ?_
        refine me_iload_n (q := 61) C dX1_keepFirstBest_60 rfl rfl rfl ?_
        refine me_iload (q := 63) C dX1_keepFirstBest_61 rfl rfl ?_
        obtain ⟨v23, g24, e25, hf⟩ := mm_cl_some hf
        refine me_callV (q := 66) (c2 := 0) (s2 := 0) (st := [vI (mm_i g16 b0 5), vR (some b0)]) C (cX1_coinsBetween_ok _ e25) mt_X1_56 mv_X1_coinsBetween rfl (by decide) dX1_keepFirstBest_63 rfl (mm_kI eg16 k12) rfl rfl rfl (Nat.le_of_ble_eq_true rfl) rfl (Nat.le_of_ble_eq_true rfl) rfl (Nat.le_of_ble_eq_true rfl) rfl rfl ?_
        refine me_iadd (q := 67) C dX1_keepFirstBest_66 rfl ?_
        obtain ⟨k26, hf⟩ := mm_ck_some hf
        obtain ⟨g27, eg27, hf⟩ := mm_lt_some hf
        refine me_putI (q := 70) C eg27 dX1_keepFirstBest_67 mf_X1_71 mp_X1_2_5 rfl (by decide) rfl k26 rfl ?_
        refine me_aload_n (q := 71) C dX1_keepFirstBest_70 rfl rfl rfl ?_
        refine me_dup (q := 72) C dX1_keepFirstBest_71 rfl rfl ?_
        refine me_getI (q := 75) C dX1_keepFirstBest_72 mf_X1_75 rfl rfl (mm_kI eg27 k26) rfl ?_
        refine me_aload_n (q := 76) C dX1_keepFirstBest_75 rfl rfl rfl ?_
        refine me_iload_n (q := 77) C dX1_keepFirstBest_76 rfl rfl rfl ?_
        refine me_iload (q := 79) C dX1_keepFirstBest_77 rfl rfl ?_
        obtain ⟨v28, g29, e30, hf⟩ := mm_cl_some hf
        refine me_callV (q := 82) (c2 := 0) (s2 := 0) (st := [vI (mm_i g27 b0 6), vR (some b0)]) C (cX1_daysBetween_ok _ e30) mt_X1_60 mv_X1_daysBetween rfl (by decide) dX1_keepFirstBest_79 rfl (mm_kI eg27 k26) rfl rfl rfl (Nat.le_of_ble_eq_true rfl) rfl (Nat.le_of_ble_eq_true rfl) rfl (Nat.le_of_ble_eq_true rfl) rfl rfl ?_
        refine me_iadd (q := 83) C dX1_keepFirstBest_82 rfl ?_
        obtain ⟨k31, hf⟩ := mm_ck_some hf
        obtain ⟨g32, eg32, hf⟩ := mm_lt_some hf
        refine me_putI (q := 86) C eg32 dX1_keepFirstBest_83 mf_X1_75 mp_X1_2_6 rfl (by decide) rfl k31 rfl ?_
        refine me_mask [true, true, true, true, false] (lv2 := [some (vR (some b0)), some (vI b1), some (vI v22), some (vI x3), none]) rfl ?_
        exact Hq19 _ _ hf
set_option maxRecDepth 100000 in
set_option maxHeartbeats 4000000 in
theorem cX1_keepFirstBest_ok (l : Launch) {a0 : Nat} {a1 : Int32} {h : mm_H} {r : Int32} {h1 : mm_H} (hf : fX1_keepFirstBest a0 a1 h = some (r, h1)) : mm_M l yX1_keepFirstBest cX1_keepFirstBest 5 (some .int) 4 0 0 [vR (some a0), vI a1] h (some (vI r)) h1 := by
  refine mm_enter (lv := [some (vR (some a0)), some (vI a1), none, none, none]) (by decide) rfl (Nat.le_of_ble_eq_true rfl) ?_
  intro X hl C hE
  subst hl
  unfold fX1_keepFirstBest at hf
  refine me_iconst (v := (0 : Int32)) (q := 1) C dX1_keepFirstBest_0 (by decide) rfl ?_
  refine me_istore_n (q := 2) (lv2 := [some (vR (some a0)), some (vI a1), some (vI (0 : Int32)), none, none]) C dX1_keepFirstBest_1 rfl (Nat.le_of_ble_eq_true rfl) rfl rfl rfl ?_
  refine me_aload_n (q := 3) C dX1_keepFirstBest_2 rfl rfl rfl ?_
  refine me_iconst (v := (0 : Int32)) (q := 4) C dX1_keepFirstBest_3 (by decide) rfl ?_
  obtain ⟨k1, hf⟩ := mm_ck_some hf
  obtain ⟨g2, eg2, hf⟩ := mm_lt_some hf
  refine me_putI (q := 7) C eg2 dX1_keepFirstBest_4 mf_X1_71 mp_X1_2_5 rfl (by decide) rfl k1 rfl ?_
  refine me_aload_n (q := 8) C dX1_keepFirstBest_7 rfl rfl rfl ?_
  refine me_iconst (v := (0 : Int32)) (q := 9) C dX1_keepFirstBest_8 (by decide) rfl ?_
  obtain ⟨g3, eg3, hf⟩ := mm_lt_some hf
  refine me_putI (q := 12) C eg3 dX1_keepFirstBest_9 mf_X1_75 mp_X1_2_6 rfl (by decide) rfl (mm_kI eg2 k1) rfl ?_
  refine me_iconst (v := (0 : Int32)) (q := 13) C dX1_keepFirstBest_12 (by decide) rfl ?_
  refine me_istore_n (q := 14) (lv2 := [some (vR (some a0)), some (vI a1), some (vI (0 : Int32)), some (vI (0 : Int32)), none]) C dX1_keepFirstBest_13 rfl (Nat.le_of_ble_eq_true rfl) rfl rfl rfl ?_
  refine cX1_keepFirstBest_L14 C hE _ _ _ _ _ hf ?_
  · intro z33 g34 hf
    refine me_aload_n (q := 93) C dX1_keepFirstBest_92 rfl rfl rfl ?_
    refine me_iconst (v := (1 : Int32)) (q := 94) C dX1_keepFirstBest_93 (by decide) rfl ?_
    obtain ⟨k35, hf⟩ := mm_ck_some hf
    obtain ⟨g36, eg36, hf⟩ := mm_lt_some hf
    refine me_putZ (q := 97) C (Or.inr rfl) eg36 dX1_keepFirstBest_94 mf_X1_32 mp_X1_2_7 rfl (by decide) rfl k35 rfl ?_
    refine me_iload_n (q := 98) C dX1_keepFirstBest_97 rfl rfl rfl ?_
    obtain ⟨v37, g38, e39, hf⟩ := mm_cl_some hf
    refine me_callS (q := 101) (c2 := 0) (s2 := 0) (st := []) C (cJ6_bitCount_0f7a4_ok _ e39) mt_X1_43 ms_J6_bitCount_0f7a4 dX1_keepFirstBest_98 rfl rfl rfl (Nat.le_of_ble_eq_true rfl) rfl (Nat.le_of_ble_eq_true rfl) rfl (Nat.le_of_ble_eq_true rfl) rfl rfl ?_
    exact me_iret C hE (Nat.le_of_ble_eq_true rfl) (Nat.le_of_ble_eq_true rfl) rfl dX1_keepFirstBest_101 (mm_ri hf)
set_option maxRecDepth 100000 in
set_option maxHeartbeats 4000000 in
theorem cX1_findPairs_L42 {X : mm_X} (C : mm_C X cX1_findPairs yX1_findPairs 6 1 11264) {r : Int32} {h1 : mm_H} (hE : mm_End X 1 11264 (some .int) (some (vI r)) h1) {b0 : Nat} {b3 : Int32} {b4 : Int32} (K68 : mm_H → Option (Int32 × mm_H)) : ∀ (n : Nat) (x5 : Int32) (h : mm_H), fX1_findPairs_L42 b0 b3 b4 K68 n x5 h = some (r, h1) → (∀ (h : mm_H), K68 h = some (r, h1) → mm_E X h 1 11264 68 [some (vR (some b0)), none, none, some (vI b3), some (vI b4), none, none] []) → mm_E X h 1 11264 42 [some (vR (some b0)), none, none, some (vI b3), some (vI b4), some (vI x5), none] [] := by
  intro n
  induction n with
  | zero =>
    intro x5 h hf
    exact absurd (show (none : Option (Int32 × mm_H)) = some (r, h1) from hf) (by simp)
  | succ n ih =>
    intro x5 h hf hk68
    have hf : fX1_findPairs_L42_b b0 b3 b4 K68 (fX1_findPairs_L42 b0 b3 b4 K68 n) x5 h = some (r, h1) := hf
    unfold fX1_findPairs_L42_b at hf
    refine me_iload (q := 44) C dX1_findPairs_42 rfl rfl ?_
    refine me_iload (q := 46) C dX1_findPairs_44 rfl rfl ?_
    refine me_icmp_ge (q2 := 68) (q := 49) C dX1_findPairs_46 (by decide) rfl (fun c13 => ?_) (fun c13 => ?_)
    · have hf := mm_if_t c13 hf
      refine me_mask [true, false, false, true, true, false, false] (lv2 := [some (vR (some b0)), none, none, some (vI b3), some (vI b4), none, none]) rfl ?_
      exact hk68 _ hf
    · have hf := mm_if_f c13 hf
      refine me_aload_n (q := 50) C dX1_findPairs_49 rfl rfl rfl ?_
      obtain ⟨k14, hf⟩ := mm_ck_some hf
      refine me_getR (q := 53) C dX1_findPairs_50 mf_X1_36 rfl rfl k14 rfl ?_
      refine me_iload_n (q := 54) C dX1_findPairs_53 rfl rfl rfl ?_
      refine me_iload (q := 56) C dX1_findPairs_54 rfl rfl ?_
      refine me_imul (q := 57) C dX1_findPairs_56 rfl ?_
      refine me_iload (q := 59) C dX1_findPairs_57 rfl rfl ?_
      refine me_iadd (q := 60) C dX1_findPairs_59 rfl ?_
      refine me_iconst (v := (0 : Int32)) (q := 61) C dX1_findPairs_60 (by decide) rfl ?_
      obtain ⟨u15, eu15, hf⟩ := mm_rf_some hf
      obtain ⟨k16, hf⟩ := mm_ck_some hf
      obtain ⟨k17, hf⟩ := mm_ck_some hf
      obtain ⟨g18, eg18, hf⟩ := mm_lt_some hf
      refine me_iastH (q := 62) C eg18 dX1_findPairs_61 eu15 k16 k17 rfl ?_
      obtain ⟨v19, ev19, hf⟩ := mm_lt_some hf
      refine me_iinc (q := 65) (v := v19) (lv2 := [some (vR (some b0)), none, none, some (vI b3), some (vI b4), some (vI v19), none]) C dX1_findPairs_62 rfl (by rw [ev19]; rfl) (Nat.le_of_ble_eq_true rfl) rfl rfl rfl ?_
      refine me_goto (q := 42) C dX1_findPairs_65 (by decide) ?_
      exact ih _ _ hf hk68
set_option maxRecDepth 100000 in
set_option maxHeartbeats 4000000 in
theorem cX1_findPairs_L81 {X : mm_X} (C : mm_C X cX1_findPairs yX1_findPairs 6 1 11264) {r : Int32} {h1 : mm_H} (hE : mm_End X 1 11264 (some .int) (some (vI r)) h1) {b0 : Nat} {b4 : Int32} {b5 : Int32} (K127 : mm_H → Option (Int32 × mm_H)) : ∀ (n : Nat) (x6 : Int32) (h : mm_H), fX1_findPairs_L81 b0 b4 b5 K127 n x6 h = some (r, h1) → (∀ (h : mm_H), K127 h = some (r, h1) → mm_E X h 1 11264 127 [some (vR (some b0)), none, none, none, some (vI b4), some (vI b5), none] []) → mm_E X h 1 11264 81 [some (vR (some b0)), none, none, none, some (vI b4), some (vI b5), some (vI x6)] [] := by
  intro n
  induction n with
  | zero =>
    intro x6 h hf
    exact absurd (show (none : Option (Int32 × mm_H)) = some (r, h1) from hf) (by simp)
  | succ n ih =>
    intro x6 h hf hk127
    have hf : fX1_findPairs_L81_b b0 b4 b5 K127 (fX1_findPairs_L81 b0 b4 b5 K127 n) x6 h = some (r, h1) := hf
    unfold fX1_findPairs_L81_b at hf
    refine me_iload (q := 83) C dX1_findPairs_81 rfl rfl ?_
    refine me_iload (q := 85) C dX1_findPairs_83 rfl rfl ?_
    refine me_icmp_ge (q2 := 127) (q := 88) C dX1_findPairs_85 (by decide) rfl (fun c23 => ?_) (fun c23 => ?_)
    · have hf := mm_if_t c23 hf
      refine me_mask [true, false, false, false, true, true, false] (lv2 := [some (vR (some b0)), none, none, none, some (vI b4), some (vI b5), none]) rfl ?_
      exact hk127 _ hf
    · have hf := mm_if_f c23 hf
      refine me_iload (q := 90) C dX1_findPairs_88 rfl rfl ?_
      obtain ⟨v24, g25, e26, hf⟩ := mm_cl_some hf
      refine me_callS (q := 93) (c2 := 1) (s2 := 11264) (st := []) C (cJ6_bitCount_0f7a4_ok _ e26) mt_X1_43 ms_J6_bitCount_0f7a4 dX1_findPairs_90 rfl rfl rfl (Nat.le_of_ble_eq_true rfl) rfl (Nat.le_of_ble_eq_true rfl) rfl (Nat.le_of_ble_eq_true rfl) rfl rfl ?_
      refine me_iload (q := 95) C dX1_findPairs_93 rfl rfl ?_
      obtain ⟨q28, eq28, hf⟩ := mm_jn_some hf
      have Hq28 : ∀ (g27 : mm_H), q28 g27 = some (r, h1) → mm_E X g27 1 11264 121 [some (vR (some b0)), none, none, none, some (vI b4), some (vI b5), some (vI x6)] [] := by
        intro g27 hf
        subst eq28
        obtain ⟨v29, ev29, hf⟩ := mm_lt_some hf
        refine me_iinc (q := 124) (v := v29) (lv2 := [some (vR (some b0)), none, none, none, some (vI b4), some (vI b5), some (vI v29)]) C dX1_findPairs_121 rfl (by rw [ev29]; rfl) (Nat.le_of_ble_eq_true rfl) rfl rfl rfl ?_
        refine me_goto (q := 81) C dX1_findPairs_124 (by decide) ?_
        exact ih _ _ hf hk127
      refine me_icmp_gt (q2 := 121) (q := 98) C dX1_findPairs_95 (by decide) rfl (fun c30 => ?_) (fun c30 => ?_)
      · have hf := mm_if_t c30 hf
        exact Hq28 _ hf
      · have hf := mm_if_f c30 hf
        refine me_aload_n (q := 99) C dX1_findPairs_98 rfl rfl rfl ?_
        obtain ⟨k31, hf⟩ := mm_ck_some hf
        refine me_getR (q := 102) C dX1_findPairs_99 mf_X1_36 rfl rfl k31 rfl ?_
        refine me_iload (q := 104) C dX1_findPairs_102 rfl rfl ?_
        refine me_iload (q := 106) C dX1_findPairs_104 rfl rfl ?_
        refine me_imul (q := 107) C dX1_findPairs_106 rfl ?_
        refine me_iload (q := 109) C dX1_findPairs_107 rfl rfl ?_
        refine me_iadd (q := 110) C dX1_findPairs_109 rfl ?_
        refine me_aload_n (q := 111) C dX1_findPairs_110 rfl rfl rfl ?_
        refine me_iload (q := 113) C dX1_findPairs_111 rfl rfl ?_
        refine me_iload (q := 115) C dX1_findPairs_113 rfl rfl ?_
        refine me_iload (q := 117) C dX1_findPairs_115 rfl rfl ?_
        obtain ⟨v32, g33, e34, hf⟩ := mm_cl_some hf
        refine me_callV (q := 120) (c2 := 1) (s2 := 11264) (st := [vI ((b5 * b4) + x6), vR (mm_r g25 b0 9)]) C (cX1_bestWorth_ok _ e34) mt_X1_49 mv_X1_bestWorth rfl (by decide) dX1_findPairs_117 rfl k31 rfl rfl rfl (Nat.le_of_ble_eq_true rfl) rfl (Nat.le_of_ble_eq_true rfl) rfl (Nat.le_of_ble_eq_true rfl) rfl rfl ?_
        obtain ⟨u35, eu35, hf⟩ := mm_rf_some hf
        obtain ⟨k36, hf⟩ := mm_ck_some hf
        obtain ⟨k37, hf⟩ := mm_ck_some hf
        obtain ⟨g38, eg38, hf⟩ := mm_lt_some hf
        refine me_iastH (q := 121) C eg38 dX1_findPairs_120 eu35 k36 k37 rfl ?_
        exact Hq28 _ hf
set_option maxRecDepth 100000 in
set_option maxHeartbeats 4000000 in
theorem cX1_findPairs_L73 {X : mm_X} (C : mm_C X cX1_findPairs yX1_findPairs 6 1 11264) {r : Int32} {h1 : mm_H} (hE : mm_End X 1 11264 (some .int) (some (vI r)) h1) {b0 : Nat} {b4 : Int32} (K133 : mm_H → Option (Int32 × mm_H)) : ∀ (n : Nat) (x5 : Int32) (h : mm_H), fX1_findPairs_L73 b0 b4 K133 n x5 h = some (r, h1) → (∀ (h : mm_H), K133 h = some (r, h1) → mm_E X h 1 11264 133 [some (vR (some b0)), none, none, none, some (vI b4), none, none] []) → mm_E X h 1 11264 73 [some (vR (some b0)), none, none, none, some (vI b4), some (vI x5), none] [] := by
  intro n
  induction n with
  | zero =>
    intro x5 h hf
    exact absurd (show (none : Option (Int32 × mm_H)) = some (r, h1) from hf) (by simp)
  | succ n ih =>
    intro x5 h hf hk133
    have hf : fX1_findPairs_L73_b b0 b4 K133 (fX1_findPairs_L73 b0 b4 K133 n) x5 h = some (r, h1) := hf
    unfold fX1_findPairs_L73_b at hf
    refine me_iload (q := 75) C dX1_findPairs_73 rfl rfl ?_
    refine me_if_lt (q2 := 133) (q := 78) C dX1_findPairs_75 (by decide) rfl (fun c22 => ?_) (fun c22 => ?_)
    · have hf := mm_if_t c22 hf
      refine me_mask [true, false, false, false, true, false, false] (lv2 := [some (vR (some b0)), none, none, none, some (vI b4), none, none]) rfl ?_
      exact hk133 _ hf
    · have hf := mm_if_f c22 hf
      refine me_iconst (v := (0 : Int32)) (q := 79) C dX1_findPairs_78 (by decide) rfl ?_
      refine me_istore (q := 81) (lv2 := [some (vR (some b0)), none, none, none, some (vI b4), some (vI x5), some (vI (0 : Int32))]) C dX1_findPairs_79 (Nat.le_of_ble_eq_true rfl) rfl rfl rfl ?_
      refine cX1_findPairs_L81 C hE _ _ _ _ hf ?_
      · intro g39 hf
        obtain ⟨v40, ev40, hf⟩ := mm_lt_some hf
        refine me_iinc (q := 130) (v := v40) (lv2 := [some (vR (some b0)), none, none, none, some (vI b4), some (vI v40), none]) C dX1_findPairs_127 rfl (by rw [ev40]; rfl) (Nat.le_of_ble_eq_true rfl) rfl rfl rfl ?_
        refine me_goto (q := 73) C dX1_findPairs_130 (by decide) ?_
        exact ih _ _ hf hk133
set_option maxRecDepth 100000 in
set_option maxHeartbeats 4000000 in
theorem cX1_findPairs_ok (l : Launch) {a0 : Nat} {a1 : Int32} {a2 : Int32} {h : mm_H} {r : Int32} {h1 : mm_H} (hf : fX1_findPairs a0 a1 a2 h = some (r, h1)) : mm_M l yX1_findPairs cX1_findPairs 7 (some .int) 6 1 11264 [vR (some a0), vI a1, vI a2] h (some (vI r)) h1 := by
  refine mm_enter (lv := [some (vR (some a0)), some (vI a1), some (vI a2), none, none, none, none]) (by decide) rfl (Nat.le_of_ble_eq_true rfl) ?_
  intro X hl C hE
  subst hl
  unfold fX1_findPairs at hf
  refine me_aload_n (q := 1) C dX1_findPairs_0 rfl rfl rfl ?_
  obtain ⟨k1, hf⟩ := mm_ck_some hf
  refine me_getR (q := 4) C dX1_findPairs_1 mf_X1_11 rfl rfl k1 rfl ?_
  refine me_iconst (v := (0 : Int32)) (q := 5) C dX1_findPairs_4 (by decide) rfl ?_
  obtain ⟨u2, eu2, hf⟩ := mm_rf_some hf
  obtain ⟨k3, hf⟩ := mm_ck_some hf
  obtain ⟨k4, hf⟩ := mm_ck_some hf
  refine me_iald (q := 6) C dX1_findPairs_5 eu2 k3 k4 rfl ?_
  obtain ⟨v5, ev5, hf⟩ := mm_lt_some hf
  refine me_topI ev5 ?_
  refine me_istore_n (q := 7) (lv2 := [some (vR (some a0)), some (vI a1), some (vI a2), some (vI v5), none, none, none]) C dX1_findPairs_6 rfl (Nat.le_of_ble_eq_true rfl) rfl rfl rfl ?_
  refine me_iconst (v := (1 : Int32)) (q := 8) C dX1_findPairs_7 (by decide) rfl ?_
  refine me_aload_n (q := 9) C dX1_findPairs_8 rfl rfl rfl ?_
  refine me_getR (q := 12) C dX1_findPairs_9 mf_X1_11 rfl rfl k1 rfl ?_
  refine me_iconst (v := (1 : Int32)) (q := 13) C dX1_findPairs_12 (by decide) rfl ?_
  obtain ⟨k6, hf⟩ := mm_ck_some hf
  refine me_iald (q := 14) C dX1_findPairs_13 eu2 k3 k6 rfl ?_
  refine me_ishl (q := 15) C dX1_findPairs_14 rfl ?_
  obtain ⟨v7, ev7, hf⟩ := mm_lt_some hf
  refine me_topI ev7 ?_
  refine me_istore (q := 17) (lv2 := [some (vR (some a0)), some (vI a1), some (vI a2), some (vI v5), some (vI v7), none, none]) C dX1_findPairs_15 (Nat.le_of_ble_eq_true rfl) rfl rfl rfl ?_
  refine me_aload_n (q := 18) C dX1_findPairs_17 rfl rfl rfl ?_
  refine me_getR (q := 21) C dX1_findPairs_18 mf_X1_36 rfl rfl k1 rfl ?_
  obtain ⟨q9, eq9, hf⟩ := mm_jn_some hf
  have Hq9 : ∀ (g8 : mm_H), q9 g8 = some (r, h1) → mm_E X g8 1 11264 33 [some (vR (some a0)), some (vI a1), some (vI a2), some (vI v5), some (vI v7), none, none] [] := by
    intro g8 hf
    subst eq9
    refine me_aload_n (q := 34) C dX1_findPairs_33 rfl rfl rfl ?_
    refine me_iload_n (q := 35) C dX1_findPairs_34 rfl rfl rfl ?_
    refine me_iload_n (q := 36) C dX1_findPairs_35 rfl rfl rfl ?_
    obtain ⟨k10, hf⟩ := mm_ck_some hf
    obtain ⟨_, g11, e12, hf⟩ := mm_cl_some hf
    refine me_callV (q := 39) (c2 := 1) (s2 := 11264) (st := []) C (cX1_weighPairs_ok _ e12) mt_X1_39 mv_X1_weighPairs rfl (by decide) dX1_findPairs_36 rfl k10 rfl rfl rfl (Nat.le_of_ble_eq_true rfl) rfl (Nat.le_of_ble_eq_true rfl) rfl (Nat.le_of_ble_eq_true rfl) rfl rfl ?_
    refine me_iconst (v := (0 : Int32)) (q := 40) C dX1_findPairs_39 (by decide) rfl ?_
    refine me_istore (q := 42) (lv2 := [some (vR (some a0)), some (vI a1), some (vI a2), some (vI v5), some (vI v7), some (vI (0 : Int32)), none]) C dX1_findPairs_40 (Nat.le_of_ble_eq_true rfl) rfl rfl rfl ?_
    refine me_mask [true, false, false, true, true, true, false] (lv2 := [some (vR (some a0)), none, none, some (vI v5), some (vI v7), some (vI (0 : Int32)), none]) rfl ?_
    refine cX1_findPairs_L42 C hE _ _ _ _ hf ?_
    · intro g20 hf
      refine me_iload_n (q := 69) C dX1_findPairs_68 rfl rfl rfl ?_
      refine me_iconst (v := (1 : Int32)) (q := 70) C dX1_findPairs_69 (by decide) rfl ?_
      refine me_isub (q := 71) C dX1_findPairs_70 rfl ?_
      obtain ⟨v21, ev21, hf⟩ := mm_lt_some hf
      refine me_topI ev21 ?_
      refine me_istore (q := 73) (lv2 := [some (vR (some a0)), none, none, some (vI v5), some (vI v7), some (vI v21), none]) C dX1_findPairs_71 (Nat.le_of_ble_eq_true rfl) rfl rfl rfl ?_
      refine me_mask [true, false, false, false, true, true, false] (lv2 := [some (vR (some a0)), none, none, none, some (vI v7), some (vI v21), none]) rfl ?_
      refine cX1_findPairs_L73 C hE _ _ _ _ hf ?_
      · intro g41 hf
        refine me_aload_n (q := 134) C dX1_findPairs_133 rfl rfl rfl ?_
        refine me_iload (q := 136) C dX1_findPairs_134 rfl rfl ?_
        obtain ⟨k42, hf⟩ := mm_ck_some hf
        obtain ⟨v43, g44, e45, hf⟩ := mm_cl_some hf
        refine me_callV (q := 139) (c2 := 1) (s2 := 11264) (st := []) C (cX1_keepFirstBest_ok _ e45) mt_X1_53 mv_X1_keepFirstBest rfl (by decide) dX1_findPairs_136 rfl k42 rfl rfl rfl (Nat.le_of_ble_eq_true rfl) rfl (Nat.le_of_ble_eq_true rfl) rfl (Nat.le_of_ble_eq_true rfl) rfl rfl ?_
        exact me_iret C hE (Nat.le_of_ble_eq_true rfl) (Nat.le_of_ble_eq_true rfl) rfl dX1_findPairs_139 (mm_ri hf)
  refine me_ifnonnull (q2 := 33) (q := 24) C dX1_findPairs_21 (by decide) rfl (fun c46 => ?_) (fun c46 => ?_)
  · have hf := mm_if_t c46 hf
    refine me_widen (c2 := 1) (s2 := 11264) (Nat.le_of_ble_eq_true rfl) (Nat.le_of_ble_eq_true rfl) ?_
    exact Hq9 _ hf
  · have hf := mm_if_f c46 hf
    refine me_aload_n (q := 25) C dX1_findPairs_24 rfl rfl rfl ?_
    refine me_sipush (v := (11264 : Int32)) (q := 28) C dX1_findPairs_25 (by decide) rfl ?_
    obtain ⟨g47, eg47, hf⟩ := mm_lt_some hf
    obtain ⟨u48, eu48, hf⟩ := mm_lt_some hf
    refine me_newaI (q := 30) (B := 11264) (c2 := 1) (s2 := 11264) C eg47 dX1_findPairs_28 ma_int ⟨by decide, Nat.le_of_ble_eq_true rfl⟩ (Nat.le_of_ble_eq_true rfl) rfl (Nat.le_of_ble_eq_true rfl) rfl (Nat.le_of_ble_eq_true rfl) rfl ?_
    refine me_topR (congrArg some eu48) ?_
    have k49 : mm_kd g47 u48 = 14 := by rw [eu48]; exact mm_kN eg47
    obtain ⟨k50, hf⟩ := mm_ck_some hf
    obtain ⟨g51, eg51, hf⟩ := mm_lt_some hf
    refine me_putR (q := 33) C eg51 dX1_findPairs_30 mf_X1_36 mp_X1_2_9 (Or.inr ⟨_, rfl⟩) rfl (by decide) rfl k50 rfl ?_
    exact Hq9 _ hf
set_option maxRecDepth 100000 in
set_option maxHeartbeats 4000000 in
theorem cJxa1e45_init_da8c8_ok (l : Launch) {a0 : Nat} {h : mm_H} {r : Unit} {h1 : mm_H} (hf : fJxa1e45_init_da8c8 a0 h = some (r, h1)) : mm_M l yJxa1e45_init_da8c8 cJxa1e45_init_da8c8 1 none 2 0 0 [vR (some a0)] h none h1 := by
  refine mm_enter (lv := [some (vR (some a0))]) (by decide) rfl (Nat.le_of_ble_eq_true rfl) ?_
  intro X hl C hE
  subst hl
  unfold fJxa1e45_init_da8c8 at hf
  refine me_aload_n (q := 1) C dJxa1e45_init_da8c8_0 rfl rfl rfl ?_
  refine me_objInit (q := 4) C dJxa1e45_init_da8c8_1 mo_Jxa1e45_1 rfl rfl (Nat.le_of_ble_eq_true rfl) rfl ?_
  exact me_vret C hE (Nat.le_of_ble_eq_true rfl) (Nat.le_of_ble_eq_true rfl) rfl dJxa1e45_init_da8c8_4 (mm_ru hf)
set_option maxRecDepth 100000 in
set_option maxHeartbeats 4000000 in
theorem cJxc12de_init_da8c8_ok (l : Launch) {a0 : Nat} {h : mm_H} {r : Unit} {h1 : mm_H} (hf : fJxc12de_init_da8c8 a0 h = some (r, h1)) : mm_M l yJxc12de_init_da8c8 cJxc12de_init_da8c8 1 none 4 0 0 [vR (some a0)] h none h1 := by
  refine mm_enter (lv := [some (vR (some a0))]) (by decide) rfl (Nat.le_of_ble_eq_true rfl) ?_
  intro X hl C hE
  subst hl
  unfold fJxc12de_init_da8c8 at hf
  refine me_aload_n (q := 1) C dJxc12de_init_da8c8_0 rfl rfl rfl ?_
  obtain ⟨_, g1, e2, hf⟩ := mm_cl_some hf
  refine me_callI (q := 4) (c2 := 0) (s2 := 0) (st := []) C (cJxa1e45_init_da8c8_ok _ e2) mt_Jxc12de_1 mi_Jxa1e45_init_da8c8 dJxc12de_init_da8c8_1 rfl rfl rfl rfl (Nat.le_of_ble_eq_true rfl) rfl (Nat.le_of_ble_eq_true rfl) rfl (Nat.le_of_ble_eq_true rfl) rfl rfl ?_
  refine me_aload_n (q := 5) C dJxc12de_init_da8c8_4 rfl rfl rfl ?_
  refine me_iconst (v := (0 : Int32)) (q := 6) C dJxc12de_init_da8c8_5 (by decide) rfl ?_
  obtain ⟨k3, hf⟩ := mm_ck_some hf
  obtain ⟨g4, eg4, hf⟩ := mm_lt_some hf
  refine me_putI (q := 9) C eg4 dJxc12de_init_da8c8_6 mf_Jxc12de_7 mp_Jxc12de_0_0 rfl (by decide) rfl k3 rfl ?_
  exact me_vret C hE (Nat.le_of_ble_eq_true rfl) (Nat.le_of_ble_eq_true rfl) rfl dJxc12de_init_da8c8_9 (mm_ru hf)
set_option maxRecDepth 100000 in
set_option maxHeartbeats 4000000 in
theorem cJx4a65c_init_da8c8_ok (l : Launch) {a0 : Nat} {h : mm_H} {r : Unit} {h1 : mm_H} (hf : fJx4a65c_init_da8c8 a0 h = some (r, h1)) : mm_M l yJx4a65c_init_da8c8 cJx4a65c_init_da8c8 1 none 6 0 0 [vR (some a0)] h none h1 := by
  refine mm_enter (lv := [some (vR (some a0))]) (by decide) rfl (Nat.le_of_ble_eq_true rfl) ?_
  intro X hl C hE
  subst hl
  unfold fJx4a65c_init_da8c8 at hf
  refine me_aload_n (q := 1) C dJx4a65c_init_da8c8_0 rfl rfl rfl ?_
  obtain ⟨_, g1, e2, hf⟩ := mm_cl_some hf
  refine me_callI (q := 4) (c2 := 0) (s2 := 0) (st := []) C (cJxc12de_init_da8c8_ok _ e2) mt_Jx4a65c_1 mi_Jxc12de_init_da8c8 dJx4a65c_init_da8c8_1 rfl rfl rfl rfl (Nat.le_of_ble_eq_true rfl) rfl (Nat.le_of_ble_eq_true rfl) rfl (Nat.le_of_ble_eq_true rfl) rfl rfl ?_
  refine me_aload_n (q := 5) C dJx4a65c_init_da8c8_4 rfl rfl rfl ?_
  refine me_gsR (q := 8) C dJx4a65c_init_da8c8_5 mx_fie_x4a65c_39 rfl ?_
  obtain ⟨k3, hf⟩ := mm_ck_some hf
  obtain ⟨g4, eg4, hf⟩ := mm_lt_some hf
  refine me_putR (q := 11) C eg4 dJx4a65c_init_da8c8_8 mf_Jx4a65c_9 mp_Jx4a65c_0_1 (Or.inr ⟨_, rfl⟩) rfl (by decide) rfl k3 rfl ?_
  exact me_vret C hE (Nat.le_of_ble_eq_true rfl) (Nat.le_of_ble_eq_true rfl) rfl dJx4a65c_init_da8c8_11 (mm_ru hf)
set_option maxRecDepth 100000 in
set_option maxHeartbeats 4000000 in
theorem cX2_init_ok (l : Launch) {a0 : Nat} {h : mm_H} {r : Unit} {h1 : mm_H} (hf : fX2_init a0 h = some (r, h1)) : mm_M l yX2_init cX2_init 1 none 8 3 97 [vR (some a0)] h none h1 := by
  refine mm_enter (lv := [some (vR (some a0))]) (by decide) rfl (Nat.le_of_ble_eq_true rfl) ?_
  intro X hl C hE
  subst hl
  unfold fX2_init at hf
  refine me_aload_n (q := 1) C dX2_init_0 rfl rfl rfl ?_
  refine me_objInit (q := 4) C dX2_init_1 mo_X2_3 rfl rfl (Nat.le_of_ble_eq_true rfl) rfl ?_
  refine me_aload_n (q := 5) C dX2_init_4 rfl rfl rfl ?_
  obtain ⟨g1, eg1, hf⟩ := mm_lt_some hf
  obtain ⟨u2, eu2, hf⟩ := mm_lt_some hf
  refine me_newH (q := 8) (c2 := 1) (s2 := 3) C eg1 dX2_init_5 mn_X2_9 rfl (Nat.le_of_ble_eq_true rfl) rfl (Nat.le_of_ble_eq_true rfl) rfl ?_
  refine me_topR (congrArg some eu2) ?_
  have k3 : mm_kd g1 u2 = 0 := by rw [eu2]; exact mm_kN eg1
  refine me_dup (q := 9) C dX2_init_8 rfl rfl ?_
  obtain ⟨_, g4, e5, hf⟩ := mm_cl_some hf
  refine me_callI (q := 12) (c2 := 1) (s2 := 3) (st := [vR (some u2), vR (some a0)]) C (cJx4a65c_init_da8c8_ok _ e5) mt_X2_11 mi_Jx4a65c_init_da8c8 dX2_init_9 rfl rfl rfl rfl (Nat.le_of_ble_eq_true rfl) rfl (Nat.le_of_ble_eq_true rfl) rfl (Nat.le_of_ble_eq_true rfl) rfl rfl ?_
  obtain ⟨k6, hf⟩ := mm_ck_some hf
  obtain ⟨g7, eg7, hf⟩ := mm_lt_some hf
  refine me_putR (q := 15) C eg7 dX2_init_12 mf_X2_12 mp_X2_3_0 (Or.inl ⟨_, rfl⟩) rfl (by decide) rfl k6 rfl ?_
  refine me_aload_n (q := 16) C dX2_init_15 rfl rfl rfl ?_
  refine me_bipush (v := (14 : Int32)) (q := 18) C dX2_init_16 (by decide) rfl ?_
  obtain ⟨g8, eg8, hf⟩ := mm_lt_some hf
  obtain ⟨u9, eu9, hf⟩ := mm_lt_some hf
  refine me_newaJ (q := 20) (B := 14) (c2 := 2) (s2 := 17) C eg8 dX2_init_18 ma_long ⟨by decide, Nat.le_of_ble_eq_true rfl⟩ (Nat.le_of_ble_eq_true rfl) rfl (Nat.le_of_ble_eq_true rfl) rfl (Nat.le_of_ble_eq_true rfl) rfl ?_
  refine me_topR (congrArg some eu9) ?_
  have k10 : mm_kd g8 u9 = 15 := by rw [eu9]; exact mm_kN eg8
  obtain ⟨k11, hf⟩ := mm_ck_some hf
  obtain ⟨g12, eg12, hf⟩ := mm_lt_some hf
  refine me_putR (q := 23) C eg12 dX2_init_20 mf_X2_18 mp_X2_3_1 (Or.inr ⟨_, rfl⟩) rfl (by decide) rfl k11 rfl ?_
  refine me_aload_n (q := 24) C dX2_init_23 rfl rfl rfl ?_
  refine me_bipush (v := (80 : Int32)) (q := 26) C dX2_init_24 (by decide) rfl ?_
  obtain ⟨g13, eg13, hf⟩ := mm_lt_some hf
  obtain ⟨u14, eu14, hf⟩ := mm_lt_some hf
  refine me_newaJ (q := 28) (B := 80) (c2 := 3) (s2 := 97) C eg13 dX2_init_26 ma_long ⟨by decide, Nat.le_of_ble_eq_true rfl⟩ (Nat.le_of_ble_eq_true rfl) rfl (Nat.le_of_ble_eq_true rfl) rfl (Nat.le_of_ble_eq_true rfl) rfl ?_
  refine me_topR (congrArg some eu14) ?_
  have k15 : mm_kd g13 u14 = 15 := by rw [eu14]; exact mm_kN eg13
  obtain ⟨k16, hf⟩ := mm_ck_some hf
  obtain ⟨g17, eg17, hf⟩ := mm_lt_some hf
  refine me_putR (q := 31) C eg17 dX2_init_28 mf_X2_24 mp_X2_3_2 (Or.inr ⟨_, rfl⟩) rfl (by decide) rfl k16 rfl ?_
  refine me_aload_n (q := 32) C dX2_init_31 rfl rfl rfl ?_
  refine me_iconst (v := (-1 : Int32)) (q := 33) C dX2_init_32 (by decide) rfl ?_
  obtain ⟨g18, eg18, hf⟩ := mm_lt_some hf
  refine me_putI (q := 36) C eg18 dX2_init_33 mf_X2_27 mp_X2_3_3 rfl (by decide) rfl (mm_kR eg17 k16) rfl ?_
  refine me_aload_n (q := 37) C dX2_init_36 rfl rfl rfl ?_
  refine me_iconst (v := (-1 : Int32)) (q := 38) C dX2_init_37 (by decide) rfl ?_
  obtain ⟨g19, eg19, hf⟩ := mm_lt_some hf
  refine me_putI (q := 41) C eg19 dX2_init_38 mf_X2_31 mp_X2_3_4 rfl (by decide) rfl (mm_kI eg18 (mm_kR eg17 k16)) rfl ?_
  exact me_vret C hE (Nat.le_of_ble_eq_true rfl) (Nat.le_of_ble_eq_true rfl) rfl dX2_init_41 (mm_ru hf)
set_option maxRecDepth 100000 in
set_option maxHeartbeats 4000000 in
theorem cJx4a65c_size_8abf5_ok (l : Launch) {a0 : Nat} {h : mm_H} {r : Int32} {h1 : mm_H} (hf : fJx4a65c_size_8abf5 a0 h = some (r, h1)) : mm_M l yJx4a65c_size_8abf5 cJx4a65c_size_8abf5 1 (some .int) 2 0 0 [vR (some a0)] h (some (vI r)) h1 := by
  refine mm_enter (lv := [some (vR (some a0))]) (by decide) rfl (Nat.le_of_ble_eq_true rfl) ?_
  intro X hl C hE
  subst hl
  unfold fJx4a65c_size_8abf5 at hf
  refine me_aload_n (q := 1) C dJx4a65c_size_8abf5_0 rfl rfl rfl ?_
  obtain ⟨k1, hf⟩ := mm_ck_some hf
  refine me_getI (q := 4) C dJx4a65c_size_8abf5_1 mf_Jx4a65c_48 rfl rfl k1 rfl ?_
  exact me_iret C hE (Nat.le_of_ble_eq_true rfl) (Nat.le_of_ble_eq_true rfl) rfl dJx4a65c_size_8abf5_4 (mm_ri hf)
set_option maxRecDepth 100000 in
set_option maxHeartbeats 4000000 in
theorem cJ3_checkIndex_8e157_ok (l : Launch) {a0 : Int32} {a1 : Int32} {a2 : Option Nat} {h : mm_H} {r : Int32} {h1 : mm_H} (hf : fJ3_checkIndex_8e157 a0 a1 a2 h = some (r, h1)) : mm_M l yJ3_checkIndex_8e157 cJ3_checkIndex_8e157 3 (some .int) 2 0 0 [vI a0, vI a1, vR a2] h (some (vI r)) h1 := by
  refine mm_enter (lv := [some (vI a0), some (vI a1), some (vR a2)]) (by decide) rfl (Nat.le_of_ble_eq_true rfl) ?_
  intro X hl C hE
  subst hl
  unfold fJ3_checkIndex_8e157 at hf
  refine me_iload_n (q := 1) C dJ3_checkIndex_8e157_0 rfl rfl rfl ?_
  obtain ⟨q1, eq1, hf⟩ := mm_jn_some hf
  have Hq1 : ∀ (_u : Unit), q1 _u = some (r, h1) → mm_E X h 0 0 9 [some (vI a0), some (vI a1), some (vR a2)] [] := by
    intro _u hf
    subst eq1
    refine me_aload_n (q := 10) C dJ3_checkIndex_8e157_9 rfl rfl rfl ?_
    refine me_iload_n (q := 11) C dJ3_checkIndex_8e157_10 rfl rfl rfl ?_
    refine me_iload_n (q := 12) C dJ3_checkIndex_8e157_11 rfl rfl rfl ?_
    exact absurd hf (by simp)
  refine me_if_lt (q2 := 9) (q := 4) C dJ3_checkIndex_8e157_1 (by decide) rfl (fun c2 => ?_) (fun c2 => ?_)
  · have hf := mm_if_t c2 hf
    exact Hq1 () hf
  · have hf := mm_if_f c2 hf
    refine me_iload_n (q := 5) C dJ3_checkIndex_8e157_4 rfl rfl rfl ?_
    refine me_iload_n (q := 6) C dJ3_checkIndex_8e157_5 rfl rfl rfl ?_
    refine me_icmp_lt (q2 := 16) (q := 9) C dJ3_checkIndex_8e157_6 (by decide) rfl (fun c3 => ?_) (fun c3 => ?_)
    · have hf := mm_if_t c3 hf
      refine me_iload_n (q := 17) C dJ3_checkIndex_8e157_16 rfl rfl rfl ?_
      exact me_iret C hE (Nat.le_of_ble_eq_true rfl) (Nat.le_of_ble_eq_true rfl) rfl dJ3_checkIndex_8e157_17 (mm_ri hf)
    · have hf := mm_if_f c3 hf
      exact Hq1 () hf
set_option maxRecDepth 100000 in
set_option maxHeartbeats 4000000 in
theorem cJ15_checkIndex_7cf53_ok (l : Launch) {a0 : Int32} {a1 : Int32} {h : mm_H} {r : Int32} {h1 : mm_H} (hf : fJ15_checkIndex_7cf53 a0 a1 h = some (r, h1)) : mm_M l yJ15_checkIndex_7cf53 cJ15_checkIndex_7cf53 2 (some .int) 4 0 0 [vI a0, vI a1] h (some (vI r)) h1 := by
  refine mm_enter (lv := [some (vI a0), some (vI a1)]) (by decide) rfl (Nat.le_of_ble_eq_true rfl) ?_
  intro X hl C hE
  subst hl
  unfold fJ15_checkIndex_7cf53 at hf
  refine me_iload_n (q := 1) C dJ15_checkIndex_7cf53_0 rfl rfl rfl ?_
  refine me_iload_n (q := 2) C dJ15_checkIndex_7cf53_1 rfl rfl rfl ?_
  refine me_null (q := 3) C dJ15_checkIndex_7cf53_2 rfl ?_
  obtain ⟨v1, g2, e3, hf⟩ := mm_cl_some hf
  refine me_callS (q := 6) (c2 := 0) (s2 := 0) (st := []) C (cJ3_checkIndex_8e157_ok _ (a2 := none) e3) mt_J15_105 ms_J3_checkIndex_8e157 dJ15_checkIndex_7cf53_3 rfl rfl rfl (Nat.le_of_ble_eq_true rfl) rfl (Nat.le_of_ble_eq_true rfl) rfl (Nat.le_of_ble_eq_true rfl) rfl rfl ?_
  exact me_iret C hE (Nat.le_of_ble_eq_true rfl) (Nat.le_of_ble_eq_true rfl) rfl dJ15_checkIndex_7cf53_6 (mm_ri hf)
set_option maxRecDepth 100000 in
set_option maxHeartbeats 4000000 in
theorem cJx4a65c_elementData_915e3_ok (l : Launch) {a0 : Nat} {a1 : Int32} {h : mm_H} {r : Option Nat} {h1 : mm_H} (hf : fJx4a65c_elementData_915e3 a0 a1 h = some (r, h1)) : mm_M l yJx4a65c_elementData_915e3 cJx4a65c_elementData_915e3 2 (some (.object "java/lang/Object")) 2 0 0 [vR (some a0), vI a1] h (some (vR r)) h1 := by
  refine mm_enter (lv := [some (vR (some a0)), some (vI a1)]) (by decide) rfl (Nat.le_of_ble_eq_true rfl) ?_
  intro X hl C hE
  subst hl
  unfold fJx4a65c_elementData_915e3 at hf
  refine me_aload_n (q := 1) C dJx4a65c_elementData_915e3_0 rfl rfl rfl ?_
  obtain ⟨k1, hf⟩ := mm_ck_some hf
  refine me_getR (q := 4) C dJx4a65c_elementData_915e3_1 mf_Jx4a65c_9 rfl rfl k1 rfl ?_
  refine me_iload_n (q := 5) C dJx4a65c_elementData_915e3_4 rfl rfl rfl ?_
  obtain ⟨u2, eu2, hf⟩ := mm_rf_some hf
  obtain ⟨k3, hf⟩ := mm_ck_some hf
  obtain ⟨k4, hf⟩ := mm_ck_some hf
  refine me_aald (q := 6) C dJx4a65c_elementData_915e3_5 eu2 k3 k4 rfl ?_
  exact me_aret C hE (Nat.le_of_ble_eq_true rfl) (Nat.le_of_ble_eq_true rfl) rfl (Or.inl ⟨_, rfl⟩) dJx4a65c_elementData_915e3_6 (mm_rr hf)
set_option maxRecDepth 100000 in
set_option maxHeartbeats 4000000 in
theorem cJx4a65c_get_915e3_ok (l : Launch) {a0 : Nat} {a1 : Int32} {h : mm_H} {r : Option Nat} {h1 : mm_H} (hf : fJx4a65c_get_915e3 a0 a1 h = some (r, h1)) : mm_M l yJx4a65c_get_915e3 cJx4a65c_get_915e3 2 (some (.object "java/lang/Object")) 6 0 0 [vR (some a0), vI a1] h (some (vR r)) h1 := by
  refine mm_enter (lv := [some (vR (some a0)), some (vI a1)]) (by decide) rfl (Nat.le_of_ble_eq_true rfl) ?_
  intro X hl C hE
  subst hl
  unfold fJx4a65c_get_915e3 at hf
  refine me_iload_n (q := 1) C dJx4a65c_get_915e3_0 rfl rfl rfl ?_
  refine me_aload_n (q := 2) C dJx4a65c_get_915e3_1 rfl rfl rfl ?_
  obtain ⟨k1, hf⟩ := mm_ck_some hf
  refine me_getI (q := 5) C dJx4a65c_get_915e3_2 mf_Jx4a65c_48 rfl rfl k1 rfl ?_
  obtain ⟨v2, g3, e4, hf⟩ := mm_cl_some hf
  refine me_callS (q := 8) (c2 := 0) (s2 := 0) (st := []) C (cJ15_checkIndex_7cf53_ok _ e4) mt_Jx4a65c_118 ms_J15_checkIndex_7cf53 dJx4a65c_get_915e3_5 rfl rfl rfl (Nat.le_of_ble_eq_true rfl) rfl (Nat.le_of_ble_eq_true rfl) rfl (Nat.le_of_ble_eq_true rfl) rfl rfl ?_
  refine me_pop (q := 9) C dJx4a65c_get_915e3_8 rfl rfl ?_
  refine me_aload_n (q := 10) C dJx4a65c_get_915e3_9 rfl rfl rfl ?_
  refine me_iload_n (q := 11) C dJx4a65c_get_915e3_10 rfl rfl rfl ?_
  obtain ⟨k5, hf⟩ := mm_ck_some hf
  obtain ⟨v6, g7, e8, hf⟩ := mm_cl_some hf
  refine me_callV (q := 14) (c2 := 0) (s2 := 0) (st := []) C (cJx4a65c_elementData_915e3_ok _ e8) mt_Jx4a65c_123 mv_Jx4a65c_elementData_915e3 rfl (by decide) dJx4a65c_get_915e3_11 rfl k5 rfl rfl rfl (Nat.le_of_ble_eq_true rfl) rfl (Nat.le_of_ble_eq_true rfl) rfl (Nat.le_of_ble_eq_true rfl) rfl rfl ?_
  exact me_aret C hE (Nat.le_of_ble_eq_true rfl) (Nat.le_of_ble_eq_true rfl) rfl (Or.inl ⟨_, rfl⟩) dJx4a65c_get_915e3_14 (mm_rr hf)
