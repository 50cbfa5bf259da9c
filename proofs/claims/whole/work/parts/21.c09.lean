set_option maxRecDepth 100000 in
set_option maxHeartbeats 4000000 in
theorem cX12_sums_L0 {X : mm_X} (C : mm_C X cX12_sums yX12_sums 4 0 0) {r : Unit} {h1 : mm_H} (hE : mm_End X 0 0 none none h1) {b0 : Nat} {b1 : Int32} (K55 : mm_H → Option (Unit × mm_H)) : ∀ (n : Nat) (h : mm_H), fX12_sums_L0 b0 b1 K55 n h = some (r, h1) → (∀ (h : mm_H), K55 h = some (r, h1) → mm_E X h 0 0 55 [none, none] []) → mm_E X h 0 0 0 [some (vR (some b0)), some (vI b1)] [] := by
  intro n
  induction n with
  | zero =>
    intro h hf
    exact absurd (show (none : Option (Unit × mm_H)) = some (r, h1) from hf) (by simp)
  | succ n ih =>
    intro h hf hk55
    have hf : fX12_sums_L0_b b0 b1 K55 (fX12_sums_L0 b0 b1 K55 n) h = some (r, h1) := hf
    unfold fX12_sums_L0_b at hf
    refine me_aload_n (q := 1) C dX12_sums_0 rfl rfl rfl ?_
    obtain ⟨k1, hf⟩ := mm_ck_some hf
    obtain ⟨v2, g3, e4, hf⟩ := mm_cl_some hf
    refine me_callV (q := 4) (c2 := 0) (s2 := 0) (st := []) C (cX12_top_ok _ e4) mt_X12_368 mv_X12_top rfl (by decide) dX12_sums_1 rfl k1 rfl rfl rfl (Nat.le_of_ble_eq_true rfl) rfl (Nat.le_of_ble_eq_true rfl) rfl (Nat.le_of_ble_eq_true rfl) rfl rfl ?_
    refine me_iconst (v := (5 : Int32)) (q := 5) C dX12_sums_4 (by decide) rfl ?_
    obtain ⟨q6, eq6, hf⟩ := mm_jn_some hf
    have Hq6 : ∀ (g5 : mm_H), q6 g5 = some (r, h1) → mm_E X g5 0 0 28 [some (vR (some b0)), some (vI b1)] [] := by
      intro g5 hf
      subst eq6
      refine me_aload_n (q := 29) C dX12_sums_28 rfl rfl rfl ?_
      refine me_dup (q := 30) C dX12_sums_29 rfl rfl ?_
      obtain ⟨k7, hf⟩ := mm_ck_some hf
      refine me_getI (q := 33) C dX12_sums_30 mf_X12_362 rfl rfl k7 rfl ?_
      refine me_iconst (v := (1 : Int32)) (q := 34) C dX12_sums_33 (by decide) rfl ?_
      refine me_isub (q := 35) C dX12_sums_34 rfl ?_
      obtain ⟨g8, eg8, hf⟩ := mm_lt_some hf
      refine me_putI (q := 38) C eg8 dX12_sums_35 mf_X12_362 mp_X12_13_34 rfl (by decide) rfl k7 rfl ?_
      refine me_aload_n (q := 39) C dX12_sums_38 rfl rfl rfl ?_
      refine me_aload_n (q := 40) C dX12_sums_39 rfl rfl rfl ?_
      refine me_getR (q := 43) C dX12_sums_40 mf_X12_78 rfl rfl (mm_kI eg8 k7) rfl ?_
      refine me_aload_n (q := 44) C dX12_sums_43 rfl rfl rfl ?_
      refine me_getI (q := 47) C dX12_sums_44 mf_X12_362 rfl rfl (mm_kI eg8 k7) rfl ?_
      obtain ⟨u9, eu9, hf⟩ := mm_rf_some hf
      obtain ⟨k10, hf⟩ := mm_ck_some hf
      obtain ⟨k11, hf⟩ := mm_ck_some hf
      refine me_iald (q := 48) C dX12_sums_47 eu9 k10 k11 rfl ?_
      refine me_iconst (v := (0 : Int32)) (q := 49) C dX12_sums_48 (by decide) rfl ?_
      obtain ⟨_, g12, e13, hf⟩ := mm_cl_some hf
      refine me_callV (q := 52) (c2 := 0) (s2 := 0) (st := []) C (cX12_emits_ok _ e13) mt_X12_371 mv_X12_emits rfl (by decide) dX12_sums_49 rfl (mm_kI eg8 k7) rfl rfl rfl (Nat.le_of_ble_eq_true rfl) rfl (Nat.le_of_ble_eq_true rfl) rfl (Nat.le_of_ble_eq_true rfl) rfl rfl ?_
      refine me_goto (q := 0) C dX12_sums_52 (by decide) ?_
      exact ih _ hf hk55
    refine me_icmp_eq (q2 := 28) (q := 8) C dX12_sums_5 (by decide) rfl (fun c14 => ?_) (fun c14 => ?_)
    · have hf := mm_if_t c14 hf
      exact Hq6 _ hf
    · have hf := mm_if_f c14 hf
      refine me_iload_n (q := 9) C dX12_sums_8 rfl rfl rfl ?_
      refine me_if_ne (q2 := 55) (q := 12) C dX12_sums_9 (by decide) rfl (fun c15 => ?_) (fun c15 => ?_)
      · have hf := mm_if_t c15 hf
        refine me_mask [false, false] (lv2 := [none, none]) rfl ?_
        exact hk55 _ hf
      · have hf := mm_if_f c15 hf
        refine me_aload_n (q := 13) C dX12_sums_12 rfl rfl rfl ?_
        obtain ⟨k16, hf⟩ := mm_ck_some hf
        obtain ⟨v17, g18, e19, hf⟩ := mm_cl_some hf
        refine me_callV (q := 16) (c2 := 0) (s2 := 0) (st := []) C (cX12_top_ok _ e19) mt_X12_368 mv_X12_top rfl (by decide) dX12_sums_13 rfl k16 rfl rfl rfl (Nat.le_of_ble_eq_true rfl) rfl (Nat.le_of_ble_eq_true rfl) rfl (Nat.le_of_ble_eq_true rfl) rfl rfl ?_
        refine me_iconst (v := (3 : Int32)) (q := 17) C dX12_sums_16 (by decide) rfl ?_
        refine me_icmp_eq (q2 := 28) (q := 20) C dX12_sums_17 (by decide) rfl (fun c20 => ?_) (fun c20 => ?_)
        · have hf := mm_if_t c20 hf
          exact Hq6 _ hf
        · have hf := mm_if_f c20 hf
          refine me_aload_n (q := 21) C dX12_sums_20 rfl rfl rfl ?_
          obtain ⟨k21, hf⟩ := mm_ck_some hf
          obtain ⟨v22, g23, e24, hf⟩ := mm_cl_some hf
          refine me_callV (q := 24) (c2 := 0) (s2 := 0) (st := []) C (cX12_top_ok _ e24) mt_X12_368 mv_X12_top rfl (by decide) dX12_sums_21 rfl k21 rfl rfl rfl (Nat.le_of_ble_eq_true rfl) rfl (Nat.le_of_ble_eq_true rfl) rfl (Nat.le_of_ble_eq_true rfl) rfl rfl ?_
          refine me_iconst (v := (4 : Int32)) (q := 25) C dX12_sums_24 (by decide) rfl ?_
          refine me_icmp_ne (q2 := 55) (q := 28) C dX12_sums_25 (by decide) rfl (fun c25 => ?_) (fun c25 => ?_)
          · have hf := mm_if_t c25 hf
            refine me_mask [false, false] (lv2 := [none, none]) rfl ?_
            exact hk55 _ hf
          · have hf := mm_if_f c25 hf
            exact Hq6 _ hf
set_option maxRecDepth 100000 in
set_option maxHeartbeats 4000000 in
theorem cX12_sums_ok (l : Launch) {a0 : Nat} {a1 : Int32} {h : mm_H} {r : Unit} {h1 : mm_H} (hf : fX12_sums a0 a1 h = some (r, h1)) : mm_M l yX12_sums cX12_sums 2 none 4 0 0 [vR (some a0), vI a1] h none h1 := by
  refine mm_enter (lv := [some (vR (some a0)), some (vI a1)]) (by decide) rfl (Nat.le_of_ble_eq_true rfl) ?_
  intro X hl C hE
  subst hl
  unfold fX12_sums at hf
  refine cX12_sums_L0 C hE _ _ _ hf ?_
  · intro g26 hf
    exact me_vret C hE (Nat.le_of_ble_eq_true rfl) (Nat.le_of_ble_eq_true rfl) rfl dX12_sums_55 (mm_ru hf)
set_option maxRecDepth 100000 in
set_option maxHeartbeats 4000000 in
theorem cX12_counts_ok (l : Launch) {a0 : Nat} {a1 : Int32} {h : mm_H} {r : Unit} {h1 : mm_H} (hf : fX12_counts a0 a1 h = some (r, h1)) : mm_M l yX12_counts cX12_counts 2 none 4 0 0 [vR (some a0), vI a1] h none h1 := by
  refine mm_enter (lv := [some (vR (some a0)), some (vI a1)]) (by decide) rfl (Nat.le_of_ble_eq_true rfl) ?_
  intro X hl C hE
  subst hl
  unfold fX12_counts at hf
  refine me_aload_n (q := 1) C dX12_counts_0 rfl rfl rfl ?_
  obtain ⟨k1, hf⟩ := mm_ck_some hf
  refine me_getI (q := 4) C dX12_counts_1 mf_X12_374 rfl rfl k1 rfl ?_
  refine me_bipush (v := (80 : Int32)) (q := 6) C dX12_counts_4 (by decide) rfl ?_
  obtain ⟨q3, eq3, hf⟩ := mm_jn_some hf
  have Hq3 : ∀ (g2 : mm_H), q3 g2 = some (r, h1) → mm_E X g2 0 0 15 [some (vR (some a0)), none] [] := by
    intro g2 hf
    subst eq3
    refine me_aload_n (q := 16) C dX12_counts_15 rfl rfl rfl ?_
    refine me_dup (q := 17) C dX12_counts_16 rfl rfl ?_
    obtain ⟨k4, hf⟩ := mm_ck_some hf
    refine me_getI (q := 20) C dX12_counts_17 mf_X12_374 rfl rfl k4 rfl ?_
    refine me_iconst (v := (1 : Int32)) (q := 21) C dX12_counts_20 (by decide) rfl ?_
    refine me_iadd (q := 22) C dX12_counts_21 rfl ?_
    obtain ⟨g5, eg5, hf⟩ := mm_lt_some hf
    refine me_putI (q := 25) C eg5 dX12_counts_22 mf_X12_374 mp_X12_13_22 rfl (by decide) rfl k4 rfl ?_
    exact me_vret C hE (Nat.le_of_ble_eq_true rfl) (Nat.le_of_ble_eq_true rfl) rfl dX12_counts_25 (mm_ru hf)
  refine me_icmp_ne (q2 := 15) (q := 9) C dX12_counts_6 (by decide) rfl (fun c6 => ?_) (fun c6 => ?_)
  · have hf := mm_if_t c6 hf
    refine me_mask [true, false] (lv2 := [some (vR (some a0)), none]) rfl ?_
    exact Hq3 _ hf
  · have hf := mm_if_f c6 hf
    refine me_aload_n (q := 10) C dX12_counts_9 rfl rfl rfl ?_
    refine me_iconst (v := (3 : Int32)) (q := 11) C dX12_counts_10 (by decide) rfl ?_
    refine me_iload_n (q := 12) C dX12_counts_11 rfl rfl rfl ?_
    obtain ⟨_, g7, e8, hf⟩ := mm_cl_some hf
    refine me_callV (q := 15) (c2 := 0) (s2 := 0) (st := []) C (cX12_fails_ok _ e8) mt_X12_352 mv_X12_fails rfl (by decide) dX12_counts_12 rfl k1 rfl rfl rfl (Nat.le_of_ble_eq_true rfl) rfl (Nat.le_of_ble_eq_true rfl) rfl (Nat.le_of_ble_eq_true rfl) rfl rfl ?_
    refine me_mask [true, false] (lv2 := [some (vR (some a0)), none]) rfl ?_
    exact Hq3 _ hf
set_option maxRecDepth 100000 in
set_option maxHeartbeats 4000000 in
theorem cX12_value_L81 {X : mm_X} (C : mm_C X cX12_value yX12_value 12 0 0) {r : Int32} {h1 : mm_H} (hE : mm_End X 0 0 (some .boolean) (some (vI r)) h1) {b0 : Nat} {b1 : Int32} {b3 : Int32} (K107 : Int32 → mm_H → Option (Int32 × mm_H)) : ∀ (n : Nat) (x4 : Int32) (h : mm_H), fX12_value_L81 b0 b1 b3 K107 n x4 h = some (r, h1) → (∀ (y4 : Int32) (h : mm_H), K107 y4 h = some (r, h1) → mm_E X h 0 0 107 [some (vR (some b0)), some (vI b1), none, some (vI b3), some (vI y4)] []) → mm_E X h 0 0 81 [some (vR (some b0)), some (vI b1), none, some (vI b3), some (vI x4)] [] := by
  intro n
  induction n with
  | zero =>
    intro x4 h hf
    exact absurd (show (none : Option (Int32 × mm_H)) = some (r, h1) from hf) (by simp)
  | succ n ih =>
    intro x4 h hf hk107
    have hf : fX12_value_L81_b b0 b1 b3 K107 (fX12_value_L81 b0 b1 b3 K107 n) x4 h = some (r, h1) := hf
    unfold fX12_value_L81_b at hf
    refine me_iload (q := 83) C dX12_value_81 rfl rfl ?_
    refine me_bipush (v := (14 : Int32)) (q := 85) C dX12_value_83 (by decide) rfl ?_
    refine me_icmp_ge (q2 := 107) (q := 88) C dX12_value_85 (by decide) rfl (fun c18 => ?_) (fun c18 => ?_)
    · have hf := mm_if_t c18 hf
      exact hk107 _ _ hf
    · have hf := mm_if_f c18 hf
      refine me_aload_n (q := 89) C dX12_value_88 rfl rfl rfl ?_
      refine me_iload (q := 91) C dX12_value_89 rfl rfl ?_
      obtain ⟨v19, g20, e21, hf⟩ := mm_cl_some hf
      refine me_callS (q := 94) (c2 := 0) (s2 := 0) (st := [vR (some b0)]) C (cX12_wordOf_ok _ e21) mt_X12_398 ms_X12_wordOf dX12_value_91 rfl rfl rfl (Nat.le_of_ble_eq_true rfl) rfl (Nat.le_of_ble_eq_true rfl) rfl (Nat.le_of_ble_eq_true rfl) rfl rfl ?_
      refine me_iload_n (q := 95) C dX12_value_94 rfl rfl rfl ?_
      obtain ⟨k22, hf⟩ := mm_ck_some hf
      obtain ⟨u23, eu23, hf⟩ := mm_rf_some hf
      obtain ⟨v24, g25, e26, hf⟩ := mm_cl_some hf
      refine me_callV (q := 98) (c2 := 0) (s2 := 0) (st := []) C (cX12_is_ok _ e26) mt_X12_402 mv_X12_is rfl (by decide) dX12_value_95 rfl k22 (by rw [eu23]; rfl) rfl rfl (Nat.le_of_ble_eq_true rfl) rfl (Nat.le_of_ble_eq_true rfl) rfl (Nat.le_of_ble_eq_true rfl) rfl rfl ?_
      refine me_if_ne (q2 := 107) (q := 101) C dX12_value_98 (by decide) rfl (fun c27 => ?_) (fun c27 => ?_)
      · have hf := mm_if_t c27 hf
        exact hk107 _ _ hf
      · have hf := mm_if_f c27 hf
        obtain ⟨v28, ev28, hf⟩ := mm_lt_some hf
        refine me_iinc (q := 104) (v := v28) (lv2 := [some (vR (some b0)), some (vI b1), none, some (vI b3), some (vI v28)]) C dX12_value_101 rfl (by rw [ev28]; rfl) (Nat.le_of_ble_eq_true rfl) rfl rfl rfl ?_
        refine me_goto (q := 81) C dX12_value_104 (by decide) ?_
        exact ih _ _ hf hk107
set_option maxRecDepth 100000 in
set_option maxHeartbeats 4000000 in
theorem cX12_value_ok (l : Launch) {a0 : Nat} {h : mm_H} {r : Int32} {h1 : mm_H} (hf : fX12_value a0 h = some (r, h1)) : mm_M l yX12_value cX12_value 5 (some .boolean) 12 0 0 [vR (some a0)] h (some (vI r)) h1 := by
  refine mm_enter (lv := [some (vR (some a0)), none, none, none, none]) (by decide) rfl (Nat.le_of_ble_eq_true rfl) ?_
  intro X hl C hE
  subst hl
  unfold fX12_value at hf
  refine me_aload_n (q := 1) C dX12_value_0 rfl rfl rfl ?_
  obtain ⟨k1, hf⟩ := mm_ck_some hf
  obtain ⟨_, g2, e3, hf⟩ := mm_cl_some hf
  refine me_callV (q := 4) (c2 := 0) (s2 := 0) (st := []) C (cX12_blanks_ok _ e3) mt_X12_377 mv_X12_blanks rfl (by decide) dX12_value_1 rfl k1 rfl rfl rfl (Nat.le_of_ble_eq_true rfl) rfl (Nat.le_of_ble_eq_true rfl) rfl (Nat.le_of_ble_eq_true rfl) rfl rfl ?_
  refine me_aload_n (q := 5) C dX12_value_4 rfl rfl rfl ?_
  obtain ⟨k4, hf⟩ := mm_ck_some hf
  refine me_getI (q := 8) C dX12_value_5 mf_X12_308 rfl rfl k4 rfl ?_
  obtain ⟨v5, ev5, hf⟩ := mm_lt_some hf
  refine me_topI ev5 ?_
  refine me_istore_n (q := 9) (lv2 := [some (vR (some a0)), some (vI v5), none, none, none]) C dX12_value_8 rfl (Nat.le_of_ble_eq_true rfl) rfl rfl rfl ?_
  refine me_aload_n (q := 10) C dX12_value_9 rfl rfl rfl ?_
  obtain ⟨v6, g7, e8, hf⟩ := mm_cl_some hf
  refine me_callV (q := 13) (c2 := 0) (s2 := 0) (st := []) C (cX12_sign_ok _ e8) mt_X12_380 mv_X12_sign rfl (by decide) dX12_value_10 rfl k4 rfl rfl rfl (Nat.le_of_ble_eq_true rfl) rfl (Nat.le_of_ble_eq_true rfl) rfl (Nat.le_of_ble_eq_true rfl) rfl rfl ?_
  refine me_istore_n (q := 14) (lv2 := [some (vR (some a0)), some (vI v5), some (vI v6), none, none]) C dX12_value_13 rfl (Nat.le_of_ble_eq_true rfl) rfl rfl rfl ?_
  refine me_iload_n (q := 15) C dX12_value_14 rfl rfl rfl ?_
  refine me_bipush (v := (40 : Int32)) (q := 17) C dX12_value_15 (by decide) rfl ?_
  refine me_icmp_ne (q2 := 48) (q := 20) C dX12_value_17 (by decide) rfl (fun c9 => ?_) (fun c9 => ?_)
  · have hf := mm_if_t c9 hf
    refine me_iload_n (q := 49) C dX12_value_48 rfl rfl rfl ?_
    obtain ⟨v10, g11, e12, hf⟩ := mm_cl_some hf
    refine me_callS (q := 52) (c2 := 0) (s2 := 0) (st := []) C (cX12_isDigit_ok _ e12) mt_X12_349 ms_X12_isDigit dX12_value_49 rfl rfl rfl (Nat.le_of_ble_eq_true rfl) rfl (Nat.le_of_ble_eq_true rfl) rfl (Nat.le_of_ble_eq_true rfl) rfl rfl ?_
    refine me_if_eq (q2 := 73) (q := 55) C dX12_value_52 (by decide) rfl (fun c13 => ?_) (fun c13 => ?_)
    · have hf := mm_if_t c13 hf
      refine me_aload_n (q := 74) C dX12_value_73 rfl rfl rfl ?_
      obtain ⟨k14, hf⟩ := mm_ck_some hf
      obtain ⟨v15, g16, e17, hf⟩ := mm_cl_some hf
      refine me_callV (q := 77) (c2 := 0) (s2 := 0) (st := []) C (cX12_wordEnd_ok _ e17) mt_X12_395 mv_X12_wordEnd rfl (by decide) dX12_value_74 rfl k14 rfl rfl rfl (Nat.le_of_ble_eq_true rfl) rfl (Nat.le_of_ble_eq_true rfl) rfl (Nat.le_of_ble_eq_true rfl) rfl rfl ?_
      refine me_istore_n (q := 78) (lv2 := [some (vR (some a0)), some (vI v5), some (vI v6), some (vI v15), none]) C dX12_value_77 rfl (Nat.le_of_ble_eq_true rfl) rfl rfl rfl ?_
      refine me_iconst (v := (0 : Int32)) (q := 79) C dX12_value_78 (by decide) rfl ?_
      refine me_istore (q := 81) (lv2 := [some (vR (some a0)), some (vI v5), some (vI v6), some (vI v15), some (vI (0 : Int32))]) C dX12_value_79 (Nat.le_of_ble_eq_true rfl) rfl rfl rfl ?_
      refine me_mask [true, true, false, true, true] (lv2 := [some (vR (some a0)), some (vI v5), none, some (vI v15), some (vI (0 : Int32))]) rfl ?_
      refine cX12_value_L81 C hE _ _ _ _ hf ?_
      · intro z29 g30 hf
        refine me_iload (q := 109) C dX12_value_107 rfl rfl ?_
        refine me_bipush (v := (14 : Int32)) (q := 111) C dX12_value_109 (by decide) rfl ?_
        refine me_icmp_ne (q2 := 122) (q := 114) C dX12_value_111 (by decide) rfl (fun c31 => ?_) (fun c31 => ?_)
        · have hf := mm_if_t c31 hf
          refine me_aload_n (q := 123) C dX12_value_122 rfl rfl rfl ?_
          refine me_iload_n (q := 124) C dX12_value_123 rfl rfl rfl ?_
          obtain ⟨k32, hf⟩ := mm_ck_some hf
          obtain ⟨_, g33, e34, hf⟩ := mm_cl_some hf
          refine me_callV (q := 127) (c2 := 0) (s2 := 0) (st := []) C (cX12_counts_ok _ e34) mt_X12_386 mv_X12_counts rfl (by decide) dX12_value_124 rfl k32 rfl rfl rfl (Nat.le_of_ble_eq_true rfl) rfl (Nat.le_of_ble_eq_true rfl) rfl (Nat.le_of_ble_eq_true rfl) rfl rfl ?_
          refine me_aload_n (q := 128) C dX12_value_127 rfl rfl rfl ?_
          refine me_iload_n (q := 129) C dX12_value_128 rfl rfl rfl ?_
          obtain ⟨k35, hf⟩ := mm_ck_some hf
          obtain ⟨g36, eg36, hf⟩ := mm_lt_some hf
          refine me_putI (q := 132) C eg36 dX12_value_129 mf_X12_308 mp_X12_13_18 rfl (by decide) rfl k35 rfl ?_
          refine me_aload_n (q := 133) C dX12_value_132 rfl rfl rfl ?_
          refine me_iconst (v := (1 : Int32)) (q := 134) C dX12_value_133 (by decide) rfl ?_
          refine me_iload (q := 136) C dX12_value_134 rfl rfl ?_
          obtain ⟨_, g37, e38, hf⟩ := mm_cl_some hf
          refine me_callV (q := 139) (c2 := 0) (s2 := 0) (st := []) C (cX12_emits_ok _ e38) mt_X12_371 mv_X12_emits rfl (by decide) dX12_value_136 rfl (mm_kI eg36 k35) rfl rfl rfl (Nat.le_of_ble_eq_true rfl) rfl (Nat.le_of_ble_eq_true rfl) rfl (Nat.le_of_ble_eq_true rfl) rfl rfl ?_
          refine me_iconst (v := (1 : Int32)) (q := 140) C dX12_value_139 (by decide) rfl ?_
          exact me_zret C hE (Nat.le_of_ble_eq_true rfl) (Nat.le_of_ble_eq_true rfl) rfl (Or.inr rfl) dX12_value_140 (mm_ri hf)
        · have hf := mm_if_f c31 hf
          refine me_aload_n (q := 115) C dX12_value_114 rfl rfl rfl ?_
          refine me_iconst (v := (0 : Int32)) (q := 116) C dX12_value_115 (by decide) rfl ?_
          refine me_iload_n (q := 117) C dX12_value_116 rfl rfl rfl ?_
          obtain ⟨k39, hf⟩ := mm_ck_some hf
          obtain ⟨_, g40, e41, hf⟩ := mm_cl_some hf
          refine me_callV (q := 120) (c2 := 0) (s2 := 0) (st := []) C (cX12_fails_ok _ e41) mt_X12_352 mv_X12_fails rfl (by decide) dX12_value_117 rfl k39 rfl rfl rfl (Nat.le_of_ble_eq_true rfl) rfl (Nat.le_of_ble_eq_true rfl) rfl (Nat.le_of_ble_eq_true rfl) rfl rfl ?_
          refine me_iconst (v := (1 : Int32)) (q := 121) C dX12_value_120 (by decide) rfl ?_
          exact me_zret C hE (Nat.le_of_ble_eq_true rfl) (Nat.le_of_ble_eq_true rfl) rfl (Or.inr rfl) dX12_value_121 (mm_ri hf)
    · have hf := mm_if_f c13 hf
      refine me_aload_n (q := 56) C dX12_value_55 rfl rfl rfl ?_
      obtain ⟨k42, hf⟩ := mm_ck_some hf
      obtain ⟨v43, g44, e45, hf⟩ := mm_cl_some hf
      refine me_callV (q := 59) (c2 := 0) (s2 := 0) (st := []) C (cX12_number_ok _ e45) mt_X12_392 mv_X12_number rfl (by decide) dX12_value_56 rfl k42 rfl rfl rfl (Nat.le_of_ble_eq_true rfl) rfl (Nat.le_of_ble_eq_true rfl) rfl (Nat.le_of_ble_eq_true rfl) rfl rfl ?_
      refine me_istore_n (q := 60) (lv2 := [some (vR (some a0)), some (vI v5), some (vI v6), some (vI v43), none]) C dX12_value_59 rfl (Nat.le_of_ble_eq_true rfl) rfl rfl rfl ?_
      refine me_aload_n (q := 61) C dX12_value_60 rfl rfl rfl ?_
      refine me_iload_n (q := 62) C dX12_value_61 rfl rfl rfl ?_
      obtain ⟨k46, hf⟩ := mm_ck_some hf
      obtain ⟨_, g47, e48, hf⟩ := mm_cl_some hf
      refine me_callV (q := 65) (c2 := 0) (s2 := 0) (st := []) C (cX12_counts_ok _ e48) mt_X12_386 mv_X12_counts rfl (by decide) dX12_value_62 rfl k46 rfl rfl rfl (Nat.le_of_ble_eq_true rfl) rfl (Nat.le_of_ble_eq_true rfl) rfl (Nat.le_of_ble_eq_true rfl) rfl rfl ?_
      refine me_aload_n (q := 66) C dX12_value_65 rfl rfl rfl ?_
      refine me_iconst (v := (0 : Int32)) (q := 67) C dX12_value_66 (by decide) rfl ?_
      refine me_iload_n (q := 68) C dX12_value_67 rfl rfl rfl ?_
      obtain ⟨k49, hf⟩ := mm_ck_some hf
      obtain ⟨_, g50, e51, hf⟩ := mm_cl_some hf
      refine me_callV (q := 71) (c2 := 0) (s2 := 0) (st := []) C (cX12_emits_ok _ e51) mt_X12_371 mv_X12_emits rfl (by decide) dX12_value_68 rfl k49 rfl rfl rfl (Nat.le_of_ble_eq_true rfl) rfl (Nat.le_of_ble_eq_true rfl) rfl (Nat.le_of_ble_eq_true rfl) rfl rfl ?_
      refine me_iconst (v := (1 : Int32)) (q := 72) C dX12_value_71 (by decide) rfl ?_
      exact me_zret C hE (Nat.le_of_ble_eq_true rfl) (Nat.le_of_ble_eq_true rfl) rfl (Or.inr rfl) dX12_value_72 (mm_ri hf)
  · have hf := mm_if_f c9 hf
    refine me_aload_n (q := 21) C dX12_value_20 rfl rfl rfl ?_
    refine me_iload_n (q := 22) C dX12_value_21 rfl rfl rfl ?_
    obtain ⟨k52, hf⟩ := mm_ck_some hf
    obtain ⟨_, g53, e54, hf⟩ := mm_cl_some hf
    refine me_callV (q := 25) (c2 := 0) (s2 := 0) (st := []) C (cX12_deeper_ok _ e54) mt_X12_383 mv_X12_deeper rfl (by decide) dX12_value_22 rfl k52 rfl rfl rfl (Nat.le_of_ble_eq_true rfl) rfl (Nat.le_of_ble_eq_true rfl) rfl (Nat.le_of_ble_eq_true rfl) rfl rfl ?_
    refine me_aload_n (q := 26) C dX12_value_25 rfl rfl rfl ?_
    refine me_iload_n (q := 27) C dX12_value_26 rfl rfl rfl ?_
    obtain ⟨k55, hf⟩ := mm_ck_some hf
    obtain ⟨_, g56, e57, hf⟩ := mm_cl_some hf
    refine me_callV (q := 30) (c2 := 0) (s2 := 0) (st := []) C (cX12_counts_ok _ e57) mt_X12_386 mv_X12_counts rfl (by decide) dX12_value_27 rfl k55 rfl rfl rfl (Nat.le_of_ble_eq_true rfl) rfl (Nat.le_of_ble_eq_true rfl) rfl (Nat.le_of_ble_eq_true rfl) rfl rfl ?_
    refine me_aload_n (q := 31) C dX12_value_30 rfl rfl rfl ?_
    refine me_bipush (v := (15 : Int32)) (q := 33) C dX12_value_31 (by decide) rfl ?_
    obtain ⟨k58, hf⟩ := mm_ck_some hf
    obtain ⟨_, g59, e60, hf⟩ := mm_cl_some hf
    refine me_callV (q := 36) (c2 := 0) (s2 := 0) (st := []) C (cX12_opens_ok _ e60) mt_X12_389 mv_X12_opens rfl (by decide) dX12_value_33 rfl k58 rfl rfl rfl (Nat.le_of_ble_eq_true rfl) rfl (Nat.le_of_ble_eq_true rfl) rfl (Nat.le_of_ble_eq_true rfl) rfl rfl ?_
    refine me_aload_n (q := 37) C dX12_value_36 rfl rfl rfl ?_
    refine me_dup (q := 38) C dX12_value_37 rfl rfl ?_
    obtain ⟨k61, hf⟩ := mm_ck_some hf
    refine me_getI (q := 41) C dX12_value_38 mf_X12_308 rfl rfl k61 rfl ?_
    refine me_iconst (v := (1 : Int32)) (q := 42) C dX12_value_41 (by decide) rfl ?_
    refine me_iadd (q := 43) C dX12_value_42 rfl ?_
    obtain ⟨g62, eg62, hf⟩ := mm_lt_some hf
    refine me_putI (q := 46) C eg62 dX12_value_43 mf_X12_308 mp_X12_13_18 rfl (by decide) rfl k61 rfl ?_
    refine me_iconst (v := (0 : Int32)) (q := 47) C dX12_value_46 (by decide) rfl ?_
    exact me_zret C hE (Nat.le_of_ble_eq_true rfl) (Nat.le_of_ble_eq_true rfl) rfl (Or.inl rfl) dX12_value_47 (mm_ri hf)
set_option maxRecDepth 100000 in
set_option maxHeartbeats 4000000 in
theorem cX12_compares_ok (l : Launch) {a0 : Nat} {h : mm_H} {r : Int32} {h1 : mm_H} (hf : fX12_compares a0 h = some (r, h1)) : mm_M l yX12_compares cX12_compares 3 (some .int) 4 0 0 [vR (some a0)] h (some (vI r)) h1 := by
  refine mm_enter (lv := [some (vR (some a0)), none, none]) (by decide) rfl (Nat.le_of_ble_eq_true rfl) ?_
  intro X hl C hE
  subst hl
  unfold fX12_compares at hf
  refine me_aload_n (q := 1) C dX12_compares_0 rfl rfl rfl ?_
  obtain ⟨k1, hf⟩ := mm_ck_some hf
  obtain ⟨v2, g3, e4, hf⟩ := mm_cl_some hf
  refine me_callV (q := 4) (c2 := 0) (s2 := 0) (st := []) C (cX12_sign_ok _ e4) mt_X12_380 mv_X12_sign rfl (by decide) dX12_compares_1 rfl k1 rfl rfl rfl (Nat.le_of_ble_eq_true rfl) rfl (Nat.le_of_ble_eq_true rfl) rfl (Nat.le_of_ble_eq_true rfl) rfl rfl ?_
  refine me_istore_n (q := 5) (lv2 := [some (vR (some a0)), some (vI v2), none]) C dX12_compares_4 rfl (Nat.le_of_ble_eq_true rfl) rfl rfl rfl ?_
  refine me_aload_n (q := 6) C dX12_compares_5 rfl rfl rfl ?_
  obtain ⟨k5, hf⟩ := mm_ck_some hf
  refine me_getI (q := 9) C dX12_compares_6 mf_X12_308 rfl rfl k5 rfl ?_
  refine me_iconst (v := (1 : Int32)) (q := 10) C dX12_compares_9 (by decide) rfl ?_
  refine me_iadd (q := 11) C dX12_compares_10 rfl ?_
  refine me_aload_n (q := 12) C dX12_compares_11 rfl rfl rfl ?_
  refine me_getI (q := 15) C dX12_compares_12 mf_X12_298 rfl rfl k5 rfl ?_
  obtain ⟨q7, eq7, hf⟩ := mm_jn_some hf
  have Hq7 : ∀ (v6 : Int32), q7 v6 = some (r, h1) → mm_E X g3 0 0 39 [some (vR (some a0)), some (vI v2), none] [vI v6] := by
    intro v6 hf
    subst eq7
    refine me_istore_n (q := 40) (lv2 := [some (vR (some a0)), some (vI v2), some (vI v6)]) C dX12_compares_39 rfl (Nat.le_of_ble_eq_true rfl) rfl rfl rfl ?_
    refine me_iload_n (q := 41) C dX12_compares_40 rfl rfl rfl ?_
    refine me_bipush (v := (61 : Int32)) (q := 43) C dX12_compares_41 (by decide) rfl ?_
    refine me_icmp_ne (q2 := 59) (q := 46) C dX12_compares_43 (by decide) rfl (fun c8 => ?_) (fun c8 => ?_)
    · have hf := mm_if_t c8 hf
      refine me_iload_n (q := 60) C dX12_compares_59 rfl rfl rfl ?_
      refine me_bipush (v := (60 : Int32)) (q := 62) C dX12_compares_60 (by decide) rfl ?_
      obtain ⟨q9, eq9, hf⟩ := mm_jn_some hf
      have Hq9 : ∀ (_u : Unit), q9 _u = some (r, h1) → mm_E X g3 0 0 71 [some (vR (some a0)), some (vI v2), some (vI v6)] [] := by
        intro _u hf
        subst eq9
        refine me_aload_n (q := 72) C dX12_compares_71 rfl rfl rfl ?_
        refine me_dup (q := 73) C dX12_compares_72 rfl rfl ?_
        refine me_getI (q := 76) C dX12_compares_73 mf_X12_308 rfl rfl k5 rfl ?_
        refine me_iload_n (q := 77) C dX12_compares_76 rfl rfl rfl ?_
        obtain ⟨q11, eq11, hf⟩ := mm_jn_some hf
        have Hq11 : ∀ (v10 : Int32), q11 v10 = some (r, h1) → mm_E X g3 0 0 85 [none, some (vI v2), some (vI v6)] [vI v10, vI (mm_i g3 a0 18), vR (some a0)] := by
          intro v10 hf
          subst eq11
          refine me_iadd (q := 86) C dX12_compares_85 rfl ?_
          obtain ⟨g12, eg12, hf⟩ := mm_lt_some hf
          refine me_putI (q := 89) C eg12 dX12_compares_86 mf_X12_308 mp_X12_13_18 rfl (by decide) rfl k5 rfl ?_
          refine me_iload_n (q := 90) C dX12_compares_89 rfl rfl rfl ?_
          refine me_bipush (v := (60 : Int32)) (q := 92) C dX12_compares_90 (by decide) rfl ?_
          refine me_icmp_ne (q2 := 109) (q := 95) C dX12_compares_92 (by decide) rfl (fun c13 => ?_) (fun c13 => ?_)
          · have hf := mm_if_t c13 hf
            refine me_iload_n (q := 110) C dX12_compares_109 rfl rfl rfl ?_
            refine me_if_eq (q2 := 118) (q := 113) C dX12_compares_110 (by decide) rfl (fun c14 => ?_) (fun c14 => ?_)
            · have hf := mm_if_t c14 hf
              refine me_bipush (v := (11 : Int32)) (q := 120) C dX12_compares_118 (by decide) rfl ?_
              exact me_iret C hE (Nat.le_of_ble_eq_true rfl) (Nat.le_of_ble_eq_true rfl) rfl dX12_compares_120 (mm_ri hf)
            · have hf := mm_if_f c14 hf
              refine me_bipush (v := (10 : Int32)) (q := 115) C dX12_compares_113 (by decide) rfl ?_
              refine me_goto (q := 120) C dX12_compares_115 (by decide) ?_
              exact me_iret C hE (Nat.le_of_ble_eq_true rfl) (Nat.le_of_ble_eq_true rfl) rfl dX12_compares_120 (mm_ri hf)
          · have hf := mm_if_f c13 hf
            refine me_iload_n (q := 96) C dX12_compares_95 rfl rfl rfl ?_
            refine me_if_eq (q2 := 104) (q := 99) C dX12_compares_96 (by decide) rfl (fun c15 => ?_) (fun c15 => ?_)
            · have hf := mm_if_t c15 hf
              refine me_bipush (v := (7 : Int32)) (q := 106) C dX12_compares_104 (by decide) rfl ?_
              refine me_goto (q := 120) C dX12_compares_106 (by decide) ?_
              exact me_iret C hE (Nat.le_of_ble_eq_true rfl) (Nat.le_of_ble_eq_true rfl) rfl dX12_compares_120 (mm_ri hf)
            · have hf := mm_if_f c15 hf
              refine me_bipush (v := (8 : Int32)) (q := 101) C dX12_compares_99 (by decide) rfl ?_
              refine me_goto (q := 120) C dX12_compares_101 (by decide) ?_
              exact me_iret C hE (Nat.le_of_ble_eq_true rfl) (Nat.le_of_ble_eq_true rfl) rfl dX12_compares_120 (mm_ri hf)
        refine me_if_eq (q2 := 84) (q := 80) C dX12_compares_77 (by decide) rfl (fun c16 => ?_) (fun c16 => ?_)
        · have hf := mm_if_t c16 hf
          refine me_iconst (v := (1 : Int32)) (q := 85) C dX12_compares_84 (by decide) rfl ?_
          refine me_mask [false, true, true] (lv2 := [none, some (vI v2), some (vI v6)]) rfl ?_
          exact Hq11 _ hf
        · have hf := mm_if_f c16 hf
          refine me_iconst (v := (2 : Int32)) (q := 81) C dX12_compares_80 (by decide) rfl ?_
          refine me_goto (q := 85) C dX12_compares_81 (by decide) ?_
          refine me_mask [false, true, true] (lv2 := [none, some (vI v2), some (vI v6)]) rfl ?_
          exact Hq11 _ hf
      refine me_icmp_eq (q2 := 71) (q := 65) C dX12_compares_62 (by decide) rfl (fun c17 => ?_) (fun c17 => ?_)
      · have hf := mm_if_t c17 hf
        exact Hq9 () hf
      · have hf := mm_if_f c17 hf
        refine me_iload_n (q := 66) C dX12_compares_65 rfl rfl rfl ?_
        refine me_bipush (v := (62 : Int32)) (q := 68) C dX12_compares_66 (by decide) rfl ?_
        refine me_icmp_ne (q2 := 121) (q := 71) C dX12_compares_68 (by decide) rfl (fun c18 => ?_) (fun c18 => ?_)
        · have hf := mm_if_t c18 hf
          refine me_iconst (v := (-1 : Int32)) (q := 122) C dX12_compares_121 (by decide) rfl ?_
          exact me_iret C hE (Nat.le_of_ble_eq_true rfl) (Nat.le_of_ble_eq_true rfl) rfl dX12_compares_122 (mm_ri hf)
        · have hf := mm_if_f c18 hf
          exact Hq9 () hf
    · have hf := mm_if_f c8 hf
      refine me_aload_n (q := 47) C dX12_compares_46 rfl rfl rfl ?_
      refine me_dup (q := 48) C dX12_compares_47 rfl rfl ?_
      refine me_getI (q := 51) C dX12_compares_48 mf_X12_308 rfl rfl k5 rfl ?_
      refine me_iconst (v := (1 : Int32)) (q := 52) C dX12_compares_51 (by decide) rfl ?_
      refine me_iadd (q := 53) C dX12_compares_52 rfl ?_
      obtain ⟨g19, eg19, hf⟩ := mm_lt_some hf
      refine me_putI (q := 56) C eg19 dX12_compares_53 mf_X12_308 mp_X12_13_18 rfl (by decide) rfl k5 rfl ?_
      refine me_bipush (v := (9 : Int32)) (q := 58) C dX12_compares_56 (by decide) rfl ?_
      exact me_iret C hE (Nat.le_of_ble_eq_true rfl) (Nat.le_of_ble_eq_true rfl) rfl dX12_compares_58 (mm_ri hf)
  obtain ⟨q20, eq20, hf⟩ := mm_jn_some hf
  have Hq20 : ∀ (_u : Unit), q20 _u = some (r, h1) → mm_E X g3 0 0 38 [some (vR (some a0)), some (vI v2), none] [] := by
    intro _u hf
    subst eq20
    refine me_iconst (v := (0 : Int32)) (q := 39) C dX12_compares_38 (by decide) rfl ?_
    exact Hq7 _ hf
  refine me_icmp_ge (q2 := 38) (q := 18) C dX12_compares_15 (by decide) rfl (fun c21 => ?_) (fun c21 => ?_)
  · have hf := mm_if_t c21 hf
    exact Hq20 () hf
  · have hf := mm_if_f c21 hf
    refine me_aload_n (q := 19) C dX12_compares_18 rfl rfl rfl ?_
    refine me_getR (q := 22) C dX12_compares_19 mf_X12_47 rfl rfl k5 rfl ?_
    refine me_aload_n (q := 23) C dX12_compares_22 rfl rfl rfl ?_
    refine me_getI (q := 26) C dX12_compares_23 mf_X12_308 rfl rfl k5 rfl ?_
    refine me_iconst (v := (1 : Int32)) (q := 27) C dX12_compares_26 (by decide) rfl ?_
    refine me_iadd (q := 28) C dX12_compares_27 rfl ?_
    obtain ⟨u22, eu22, hf⟩ := mm_rf_some hf
    obtain ⟨k23, hf⟩ := mm_ck_some hf
    obtain ⟨k24, hf⟩ := mm_ck_some hf
    refine me_bald (q := 29) C dX12_compares_28 eu22 k23 k24 rfl ?_
    refine me_bipush (v := (61 : Int32)) (q := 31) C dX12_compares_29 (by decide) rfl ?_
    refine me_icmp_ne (q2 := 38) (q := 34) C dX12_compares_31 (by decide) rfl (fun c25 => ?_) (fun c25 => ?_)
    · have hf := mm_if_t c25 hf
      exact Hq20 () hf
    · have hf := mm_if_f c25 hf
      refine me_iconst (v := (1 : Int32)) (q := 35) C dX12_compares_34 (by decide) rfl ?_
      refine me_goto (q := 39) C dX12_compares_35 (by decide) ?_
      exact Hq7 _ hf
set_option maxRecDepth 100000 in
set_option maxHeartbeats 4000000 in
theorem cX12_wantsFact_ok (l : Launch) {a0 : Nat} {h : mm_H} {r : Int32} {h1 : mm_H} (hf : fX12_wantsFact a0 h = some (r, h1)) : mm_M l yX12_wantsFact cX12_wantsFact 3 (some .int) 12 0 0 [vR (some a0)] h (some (vI r)) h1 := by
  refine mm_enter (lv := [some (vR (some a0)), none, none]) (by decide) rfl (Nat.le_of_ble_eq_true rfl) ?_
  intro X hl C hE
  subst hl
  unfold fX12_wantsFact at hf
  refine me_aload_n (q := 1) C dX12_wantsFact_0 rfl rfl rfl ?_
  obtain ⟨k1, hf⟩ := mm_ck_some hf
  obtain ⟨_, g2, e3, hf⟩ := mm_cl_some hf
  refine me_callV (q := 4) (c2 := 0) (s2 := 0) (st := []) C (cX12_blanks_ok _ e3) mt_X12_377 mv_X12_blanks rfl (by decide) dX12_wantsFact_1 rfl k1 rfl rfl rfl (Nat.le_of_ble_eq_true rfl) rfl (Nat.le_of_ble_eq_true rfl) rfl (Nat.le_of_ble_eq_true rfl) rfl rfl ?_
  refine me_aload_n (q := 5) C dX12_wantsFact_4 rfl rfl rfl ?_
  obtain ⟨k4, hf⟩ := mm_ck_some hf
  obtain ⟨v5, g6, e7, hf⟩ := mm_cl_some hf
  refine me_callV (q := 8) (c2 := 0) (s2 := 0) (st := []) C (cX12_wordEnd_ok _ e7) mt_X12_395 mv_X12_wordEnd rfl (by decide) dX12_wantsFact_5 rfl k4 rfl rfl rfl (Nat.le_of_ble_eq_true rfl) rfl (Nat.le_of_ble_eq_true rfl) rfl (Nat.le_of_ble_eq_true rfl) rfl rfl ?_
  refine me_istore_n (q := 9) (lv2 := [some (vR (some a0)), some (vI v5), none]) C dX12_wantsFact_8 rfl (Nat.le_of_ble_eq_true rfl) rfl rfl rfl ?_
  refine me_aload_n (q := 10) C dX12_wantsFact_9 rfl rfl rfl ?_
  refine me_ldc_wS (i := 5) (q := 13) C dX12_wantsFact_10 rfl rfl ?_
  refine me_iload_n (q := 14) C dX12_wantsFact_13 rfl rfl rfl ?_
  obtain ⟨k8, hf⟩ := mm_ck_some hf
  obtain ⟨v9, g10, e11, hf⟩ := mm_cl_some hf
  refine me_callV (q := 17) (c2 := 0) (s2 := 0) (st := []) C (cX12_is_ok _ e11) mt_X12_402 mv_X12_is rfl (by decide) dX12_wantsFact_14 rfl k8 rfl rfl rfl (Nat.le_of_ble_eq_true rfl) rfl (Nat.le_of_ble_eq_true rfl) rfl (Nat.le_of_ble_eq_true rfl) rfl rfl ?_
  refine me_istore_n (q := 18) (lv2 := [some (vR (some a0)), some (vI v5), some (vI v9)]) C dX12_wantsFact_17 rfl (Nat.le_of_ble_eq_true rfl) rfl rfl rfl ?_
  refine me_iload_n (q := 19) C dX12_wantsFact_18 rfl rfl rfl ?_
  obtain ⟨q13, eq13, hf⟩ := mm_jn_some hf
  have Hq13 : ∀ (g12 : mm_H), q13 g12 = some (r, h1) → mm_E X g12 0 0 31 [some (vR (some a0)), some (vI v5), some (vI v9)] [] := by
    intro g12 hf
    subst eq13
    refine me_aload_n (q := 32) C dX12_wantsFact_31 rfl rfl rfl ?_
    refine me_aload_n (q := 33) C dX12_wantsFact_32 rfl rfl rfl ?_
    obtain ⟨k14, hf⟩ := mm_ck_some hf
    refine me_getI (q := 36) C dX12_wantsFact_33 mf_X12_308 rfl rfl k14 rfl ?_
    obtain ⟨_, g15, e16, hf⟩ := mm_cl_some hf
    refine me_callV (q := 39) (c2 := 0) (s2 := 0) (st := []) C (cX12_deeper_ok _ e16) mt_X12_383 mv_X12_deeper rfl (by decide) dX12_wantsFact_36 rfl k14 rfl rfl rfl (Nat.le_of_ble_eq_true rfl) rfl (Nat.le_of_ble_eq_true rfl) rfl (Nat.le_of_ble_eq_true rfl) rfl rfl ?_
    refine me_aload_n (q := 40) C dX12_wantsFact_39 rfl rfl rfl ?_
    refine me_iload_n (q := 41) C dX12_wantsFact_40 rfl rfl rfl ?_
    obtain ⟨q18, eq18, hf⟩ := mm_jn_some hf
    have Hq18 : ∀ (v17 : Int32), q18 v17 = some (r, h1) → mm_E X g15 0 0 51 [some (vR (some a0)), some (vI v5), some (vI v9)] [vI v17, vR (some a0)] := by
      intro v17 hf
      subst eq18
      obtain ⟨k19, hf⟩ := mm_ck_some hf
      obtain ⟨_, g20, e21, hf⟩ := mm_cl_some hf
      refine me_callV (q := 54) (c2 := 0) (s2 := 0) (st := []) C (cX12_opens_ok _ e21) mt_X12_389 mv_X12_opens rfl (by decide) dX12_wantsFact_51 rfl k19 rfl rfl rfl (Nat.le_of_ble_eq_true rfl) rfl (Nat.le_of_ble_eq_true rfl) rfl (Nat.le_of_ble_eq_true rfl) rfl rfl ?_
      refine me_aload_n (q := 55) C dX12_wantsFact_54 rfl rfl rfl ?_
      refine me_iload_n (q := 56) C dX12_wantsFact_55 rfl rfl rfl ?_
      refine me_if_eq (q2 := 63) (q := 59) C dX12_wantsFact_56 (by decide) rfl (fun c22 => ?_) (fun c22 => ?_)
      · have hf := mm_if_t c22 hf
        refine me_aload_n (q := 64) C dX12_wantsFact_63 rfl rfl rfl ?_
        obtain ⟨k23, hf⟩ := mm_ck_some hf
        refine me_getI (q := 67) C dX12_wantsFact_64 mf_X12_308 rfl rfl k23 rfl ?_
        refine me_iconst (v := (1 : Int32)) (q := 68) C dX12_wantsFact_67 (by decide) rfl ?_
        refine me_iadd (q := 69) C dX12_wantsFact_68 rfl ?_
        obtain ⟨g24, eg24, hf⟩ := mm_lt_some hf
        refine me_putI (q := 72) C eg24 dX12_wantsFact_69 mf_X12_308 mp_X12_13_18 rfl (by decide) rfl k23 rfl ?_
        refine me_iconst (v := (0 : Int32)) (q := 73) C dX12_wantsFact_72 (by decide) rfl ?_
        exact me_iret C hE (Nat.le_of_ble_eq_true rfl) (Nat.le_of_ble_eq_true rfl) rfl dX12_wantsFact_73 (mm_ri hf)
      · have hf := mm_if_f c22 hf
        refine me_iload_n (q := 60) C dX12_wantsFact_59 rfl rfl rfl ?_
        refine me_goto (q := 69) C dX12_wantsFact_60 (by decide) ?_
        obtain ⟨k25, hf⟩ := mm_ck_some hf
        obtain ⟨g26, eg26, hf⟩ := mm_lt_some hf
        refine me_putI (q := 72) C eg26 dX12_wantsFact_69 mf_X12_308 mp_X12_13_18 rfl (by decide) rfl k25 rfl ?_
        refine me_iconst (v := (0 : Int32)) (q := 73) C dX12_wantsFact_72 (by decide) rfl ?_
        exact me_iret C hE (Nat.le_of_ble_eq_true rfl) (Nat.le_of_ble_eq_true rfl) rfl dX12_wantsFact_73 (mm_ri hf)
    refine me_if_eq (q2 := 49) (q := 44) C dX12_wantsFact_41 (by decide) rfl (fun c27 => ?_) (fun c27 => ?_)
    · have hf := mm_if_t c27 hf
      refine me_bipush (v := (16 : Int32)) (q := 51) C dX12_wantsFact_49 (by decide) rfl ?_
      exact Hq18 _ hf
    · have hf := mm_if_f c27 hf
      refine me_bipush (v := (14 : Int32)) (q := 46) C dX12_wantsFact_44 (by decide) rfl ?_
      refine me_goto (q := 51) C dX12_wantsFact_46 (by decide) ?_
      exact Hq18 _ hf
  refine me_if_ne (q2 := 31) (q := 22) C dX12_wantsFact_19 (by decide) rfl (fun c28 => ?_) (fun c28 => ?_)
  · have hf := mm_if_t c28 hf
    exact Hq13 _ hf
  · have hf := mm_if_f c28 hf
    refine me_aload_n (q := 23) C dX12_wantsFact_22 rfl rfl rfl ?_
    obtain ⟨k29, hf⟩ := mm_ck_some hf
    obtain ⟨v30, g31, e32, hf⟩ := mm_cl_some hf
    refine me_callV (q := 26) (c2 := 0) (s2 := 0) (st := []) C (cX12_sign_ok _ e32) mt_X12_380 mv_X12_sign rfl (by decide) dX12_wantsFact_23 rfl k29 rfl rfl rfl (Nat.le_of_ble_eq_true rfl) rfl (Nat.le_of_ble_eq_true rfl) rfl (Nat.le_of_ble_eq_true rfl) rfl rfl ?_
    refine me_bipush (v := (91 : Int32)) (q := 28) C dX12_wantsFact_26 (by decide) rfl ?_
    refine me_icmp_ne (q2 := 74) (q := 31) C dX12_wantsFact_28 (by decide) rfl (fun c33 => ?_) (fun c33 => ?_)
    · have hf := mm_if_t c33 hf
      refine me_iconst (v := (1 : Int32)) (q := 75) C dX12_wantsFact_74 (by decide) rfl ?_
      exact me_iret C hE (Nat.le_of_ble_eq_true rfl) (Nat.le_of_ble_eq_true rfl) rfl dX12_wantsFact_75 (mm_ri hf)
    · have hf := mm_if_f c33 hf
      exact Hq13 _ hf
set_option maxRecDepth 100000 in
set_option maxHeartbeats 4000000 in
theorem cX12_hasValue_ok (l : Launch) {a0 : Nat} {h : mm_H} {r : Int32} {h1 : mm_H} (hf : fX12_hasValue a0 h = some (r, h1)) : mm_M l yX12_hasValue cX12_hasValue 4 (some .int) 6 0 0 [vR (some a0)] h (some (vI r)) h1 := by
  refine mm_enter (lv := [some (vR (some a0)), none, none, none]) (by decide) rfl (Nat.le_of_ble_eq_true rfl) ?_
  intro X hl C hE
  subst hl
  unfold fX12_hasValue at hf
  refine me_aload_n (q := 1) C dX12_hasValue_0 rfl rfl rfl ?_
  obtain ⟨k1, hf⟩ := mm_ck_some hf
  obtain ⟨_, g2, e3, hf⟩ := mm_cl_some hf
  refine me_callV (q := 4) (c2 := 0) (s2 := 0) (st := []) C (cX12_blanks_ok _ e3) mt_X12_377 mv_X12_blanks rfl (by decide) dX12_hasValue_1 rfl k1 rfl rfl rfl (Nat.le_of_ble_eq_true rfl) rfl (Nat.le_of_ble_eq_true rfl) rfl (Nat.le_of_ble_eq_true rfl) rfl rfl ?_
  refine me_aload_n (q := 5) C dX12_hasValue_4 rfl rfl rfl ?_
  obtain ⟨k4, hf⟩ := mm_ck_some hf
  obtain ⟨v5, g6, e7, hf⟩ := mm_cl_some hf
  refine me_callV (q := 8) (c2 := 0) (s2 := 0) (st := []) C (cX12_sign_ok _ e7) mt_X12_380 mv_X12_sign rfl (by decide) dX12_hasValue_5 rfl k4 rfl rfl rfl (Nat.le_of_ble_eq_true rfl) rfl (Nat.le_of_ble_eq_true rfl) rfl (Nat.le_of_ble_eq_true rfl) rfl rfl ?_
  refine me_istore_n (q := 9) (lv2 := [some (vR (some a0)), some (vI v5), none, none]) C dX12_hasValue_8 rfl (Nat.le_of_ble_eq_true rfl) rfl rfl rfl ?_
  refine me_iload_n (q := 10) C dX12_hasValue_9 rfl rfl rfl ?_
  refine me_bipush (v := (42 : Int32)) (q := 12) C dX12_hasValue_10 (by decide) rfl ?_
  obtain ⟨q8, eq8, hf⟩ := mm_jn_some hf
  have Hq8 : ∀ (_u : Unit), q8 _u = some (r, h1) → mm_E X g6 0 0 27 [some (vR (some a0)), some (vI v5), none, none] [] := by
    intro _u hf
    subst eq8
    refine me_aload_n (q := 28) C dX12_hasValue_27 rfl rfl rfl ?_
    refine me_iload_n (q := 29) C dX12_hasValue_28 rfl rfl rfl ?_
    refine me_bipush (v := (42 : Int32)) (q := 31) C dX12_hasValue_29 (by decide) rfl ?_
    obtain ⟨q10, eq10, hf⟩ := mm_jn_some hf
    have Hq10 : ∀ (v9 : Int32), q10 v9 = some (r, h1) → mm_E X g6 0 0 39 [some (vR (some a0)), some (vI v5), none, none] [vI v9, vR (some a0)] := by
      intro v9 hf
      subst eq10
      obtain ⟨k11, hf⟩ := mm_ck_some hf
      obtain ⟨_, g12, e13, hf⟩ := mm_cl_some hf
      refine me_callV (q := 42) (c2 := 0) (s2 := 0) (st := []) C (cX12_sums_ok _ e13) mt_X12_408 mv_X12_sums rfl (by decide) dX12_hasValue_39 rfl k11 rfl rfl rfl (Nat.le_of_ble_eq_true rfl) rfl (Nat.le_of_ble_eq_true rfl) rfl (Nat.le_of_ble_eq_true rfl) rfl rfl ?_
      refine me_aload_n (q := 43) C dX12_hasValue_42 rfl rfl rfl ?_
      refine me_iload_n (q := 44) C dX12_hasValue_43 rfl rfl rfl ?_
      refine me_bipush (v := (42 : Int32)) (q := 46) C dX12_hasValue_44 (by decide) rfl ?_
      obtain ⟨q15, eq15, hf⟩ := mm_jn_some hf
      have Hq15 : ∀ (v14 : Int32), q15 v14 = some (r, h1) → mm_E X g12 0 0 64 [some (vR (some a0)), none, none, none] [vI v14, vR (some a0)] := by
        intro v14 hf
        subst eq15
        obtain ⟨k16, hf⟩ := mm_ck_some hf
        obtain ⟨_, g17, e18, hf⟩ := mm_cl_some hf
        refine me_callV (q := 67) (c2 := 0) (s2 := 0) (st := []) C (cX12_opens_ok _ e18) mt_X12_389 mv_X12_opens rfl (by decide) dX12_hasValue_64 rfl k16 rfl rfl rfl (Nat.le_of_ble_eq_true rfl) rfl (Nat.le_of_ble_eq_true rfl) rfl (Nat.le_of_ble_eq_true rfl) rfl rfl ?_
        refine me_aload_n (q := 68) C dX12_hasValue_67 rfl rfl rfl ?_
        refine me_dup (q := 69) C dX12_hasValue_68 rfl rfl ?_
        obtain ⟨k19, hf⟩ := mm_ck_some hf
        refine me_getI (q := 72) C dX12_hasValue_69 mf_X12_308 rfl rfl k19 rfl ?_
        refine me_iconst (v := (1 : Int32)) (q := 73) C dX12_hasValue_72 (by decide) rfl ?_
        refine me_iadd (q := 74) C dX12_hasValue_73 rfl ?_
        obtain ⟨g20, eg20, hf⟩ := mm_lt_some hf
        refine me_putI (q := 77) C eg20 dX12_hasValue_74 mf_X12_308 mp_X12_13_18 rfl (by decide) rfl k19 rfl ?_
        refine me_iconst (v := (1 : Int32)) (q := 78) C dX12_hasValue_77 (by decide) rfl ?_
        exact me_iret C hE (Nat.le_of_ble_eq_true rfl) (Nat.le_of_ble_eq_true rfl) rfl dX12_hasValue_78 (mm_ri hf)
      refine me_icmp_ne (q2 := 53) (q := 49) C dX12_hasValue_46 (by decide) rfl (fun c21 => ?_) (fun c21 => ?_)
      · have hf := mm_if_t c21 hf
        refine me_iload_n (q := 54) C dX12_hasValue_53 rfl rfl rfl ?_
        refine me_bipush (v := (43 : Int32)) (q := 56) C dX12_hasValue_54 (by decide) rfl ?_
        refine me_icmp_ne (q2 := 63) (q := 59) C dX12_hasValue_56 (by decide) rfl (fun c22 => ?_) (fun c22 => ?_)
        · have hf := mm_if_t c22 hf
          refine me_iconst (v := (4 : Int32)) (q := 64) C dX12_hasValue_63 (by decide) rfl ?_
          refine me_mask [true, false, false, false] (lv2 := [some (vR (some a0)), none, none, none]) rfl ?_
          exact Hq15 _ hf
        · have hf := mm_if_f c22 hf
          refine me_iconst (v := (3 : Int32)) (q := 60) C dX12_hasValue_59 (by decide) rfl ?_
          refine me_goto (q := 64) C dX12_hasValue_60 (by decide) ?_
          refine me_mask [true, false, false, false] (lv2 := [some (vR (some a0)), none, none, none]) rfl ?_
          exact Hq15 _ hf
      · have hf := mm_if_f c21 hf
        refine me_iconst (v := (5 : Int32)) (q := 50) C dX12_hasValue_49 (by decide) rfl ?_
        refine me_goto (q := 64) C dX12_hasValue_50 (by decide) ?_
        refine me_mask [true, false, false, false] (lv2 := [some (vR (some a0)), none, none, none]) rfl ?_
        exact Hq15 _ hf
    refine me_icmp_ne (q2 := 38) (q := 34) C dX12_hasValue_31 (by decide) rfl (fun c23 => ?_) (fun c23 => ?_)
    · have hf := mm_if_t c23 hf
      refine me_iconst (v := (0 : Int32)) (q := 39) C dX12_hasValue_38 (by decide) rfl ?_
      exact Hq10 _ hf
    · have hf := mm_if_f c23 hf
      refine me_iconst (v := (1 : Int32)) (q := 35) C dX12_hasValue_34 (by decide) rfl ?_
      refine me_goto (q := 39) C dX12_hasValue_35 (by decide) ?_
      exact Hq10 _ hf
  refine me_icmp_eq (q2 := 27) (q := 15) C dX12_hasValue_12 (by decide) rfl (fun c24 => ?_) (fun c24 => ?_)
  · have hf := mm_if_t c24 hf
    exact Hq8 () hf
  · have hf := mm_if_f c24 hf
    refine me_iload_n (q := 16) C dX12_hasValue_15 rfl rfl rfl ?_
    refine me_bipush (v := (43 : Int32)) (q := 18) C dX12_hasValue_16 (by decide) rfl ?_
    refine me_icmp_eq (q2 := 27) (q := 21) C dX12_hasValue_18 (by decide) rfl (fun c25 => ?_) (fun c25 => ?_)
    · have hf := mm_if_t c25 hf
      exact Hq8 () hf
    · have hf := mm_if_f c25 hf
      refine me_iload_n (q := 22) C dX12_hasValue_21 rfl rfl rfl ?_
      refine me_bipush (v := (45 : Int32)) (q := 24) C dX12_hasValue_22 (by decide) rfl ?_
      refine me_icmp_ne (q2 := 79) (q := 27) C dX12_hasValue_24 (by decide) rfl (fun c26 => ?_) (fun c26 => ?_)
      · have hf := mm_if_t c26 hf
        refine me_aload_n (q := 80) C dX12_hasValue_79 rfl rfl rfl ?_
        refine me_iconst (v := (0 : Int32)) (q := 81) C dX12_hasValue_80 (by decide) rfl ?_
        obtain ⟨k27, hf⟩ := mm_ck_some hf
        obtain ⟨_, g28, e29, hf⟩ := mm_cl_some hf
        refine me_callV (q := 84) (c2 := 0) (s2 := 0) (st := []) C (cX12_sums_ok _ e29) mt_X12_408 mv_X12_sums rfl (by decide) dX12_hasValue_81 rfl k27 rfl rfl rfl (Nat.le_of_ble_eq_true rfl) rfl (Nat.le_of_ble_eq_true rfl) rfl (Nat.le_of_ble_eq_true rfl) rfl rfl ?_
        refine me_iload_n (q := 85) C dX12_hasValue_84 rfl rfl rfl ?_
        refine me_bipush (v := (41 : Int32)) (q := 87) C dX12_hasValue_85 (by decide) rfl ?_
        obtain ⟨q31, eq31, hf⟩ := mm_jn_some hf
        have Hq31 : ∀ (g30 : mm_H), q31 g30 = some (r, h1) → mm_E X g30 0 0 131 [some (vR (some a0)), none, none, none] [] := by
          intro g30 hf
          subst eq31
          refine me_aload_n (q := 132) C dX12_hasValue_131 rfl rfl rfl ?_
          obtain ⟨k32, hf⟩ := mm_ck_some hf
          refine me_getI (q := 135) C dX12_hasValue_132 mf_X12_308 rfl rfl k32 rfl ?_
          obtain ⟨v33, ev33, hf⟩ := mm_lt_some hf
          refine me_topI ev33 ?_
          refine me_istore_n (q := 136) (lv2 := [some (vR (some a0)), none, some (vI v33), none]) C dX12_hasValue_135 rfl (Nat.le_of_ble_eq_true rfl) rfl rfl rfl ?_
          refine me_aload_n (q := 137) C dX12_hasValue_136 rfl rfl rfl ?_
          obtain ⟨v34, g35, e36, hf⟩ := mm_cl_some hf
          refine me_callV (q := 140) (c2 := 0) (s2 := 0) (st := []) C (cX12_top_ok _ e36) mt_X12_368 mv_X12_top rfl (by decide) dX12_hasValue_137 rfl k32 rfl rfl rfl (Nat.le_of_ble_eq_true rfl) rfl (Nat.le_of_ble_eq_true rfl) rfl (Nat.le_of_ble_eq_true rfl) rfl rfl ?_
          refine me_bipush (v := (15 : Int32)) (q := 142) C dX12_hasValue_140 (by decide) rfl ?_
          refine me_icmp_ne (q2 := 153) (q := 145) C dX12_hasValue_142 (by decide) rfl (fun c37 => ?_) (fun c37 => ?_)
          · have hf := mm_if_t c37 hf
            refine me_aload_n (q := 154) C dX12_hasValue_153 rfl rfl rfl ?_
            obtain ⟨k38, hf⟩ := mm_ck_some hf
            obtain ⟨v39, g40, e41, hf⟩ := mm_cl_some hf
            refine me_callV (q := 157) (c2 := 0) (s2 := 0) (st := []) C (cX12_top_ok _ e41) mt_X12_368 mv_X12_top rfl (by decide) dX12_hasValue_154 rfl k38 rfl rfl rfl (Nat.le_of_ble_eq_true rfl) rfl (Nat.le_of_ble_eq_true rfl) rfl (Nat.le_of_ble_eq_true rfl) rfl rfl ?_
            obtain ⟨v42, g43, e44, hf⟩ := mm_cl_some hf
            refine me_callS (q := 160) (c2 := 0) (s2 := 0) (st := []) C (cX12_isSign_ok _ e44) mt_X12_412 ms_X12_isSign dX12_hasValue_157 rfl rfl rfl (Nat.le_of_ble_eq_true rfl) rfl (Nat.le_of_ble_eq_true rfl) rfl (Nat.le_of_ble_eq_true rfl) rfl rfl ?_
            refine me_if_ne (q2 := 194) (q := 163) C dX12_hasValue_160 (by decide) rfl (fun c45 => ?_) (fun c45 => ?_)
            · have hf := mm_if_t c45 hf
              refine me_aload_n (q := 195) C dX12_hasValue_194 rfl rfl rfl ?_
              refine me_dup (q := 196) C dX12_hasValue_195 rfl rfl ?_
              obtain ⟨k46, hf⟩ := mm_ck_some hf
              refine me_getI (q := 199) C dX12_hasValue_196 mf_X12_362 rfl rfl k46 rfl ?_
              refine me_iconst (v := (1 : Int32)) (q := 200) C dX12_hasValue_199 (by decide) rfl ?_
              refine me_isub (q := 201) C dX12_hasValue_200 rfl ?_
              obtain ⟨g47, eg47, hf⟩ := mm_lt_some hf
              refine me_putI (q := 204) C eg47 dX12_hasValue_201 mf_X12_362 mp_X12_13_34 rfl (by decide) rfl k46 rfl ?_
              refine me_aload_n (q := 205) C dX12_hasValue_204 rfl rfl rfl ?_
              refine me_aload_n (q := 206) C dX12_hasValue_205 rfl rfl rfl ?_
              refine me_getR (q := 209) C dX12_hasValue_206 mf_X12_78 rfl rfl (mm_kI eg47 k46) rfl ?_
              refine me_aload_n (q := 210) C dX12_hasValue_209 rfl rfl rfl ?_
              refine me_getI (q := 213) C dX12_hasValue_210 mf_X12_362 rfl rfl (mm_kI eg47 k46) rfl ?_
              obtain ⟨u48, eu48, hf⟩ := mm_rf_some hf
              obtain ⟨k49, hf⟩ := mm_ck_some hf
              obtain ⟨k50, hf⟩ := mm_ck_some hf
              refine me_iald (q := 214) C dX12_hasValue_213 eu48 k49 k50 rfl ?_
              refine me_iconst (v := (0 : Int32)) (q := 215) C dX12_hasValue_214 (by decide) rfl ?_
              obtain ⟨_, g51, e52, hf⟩ := mm_cl_some hf
              refine me_callV (q := 218) (c2 := 0) (s2 := 0) (st := []) C (cX12_emits_ok _ e52) mt_X12_371 mv_X12_emits rfl (by decide) dX12_hasValue_215 rfl (mm_kI eg47 k46) rfl rfl rfl (Nat.le_of_ble_eq_true rfl) rfl (Nat.le_of_ble_eq_true rfl) rfl (Nat.le_of_ble_eq_true rfl) rfl rfl ?_
              refine me_iconst (v := (3 : Int32)) (q := 219) C dX12_hasValue_218 (by decide) rfl ?_
              exact me_iret C hE (Nat.le_of_ble_eq_true rfl) (Nat.le_of_ble_eq_true rfl) rfl dX12_hasValue_219 (mm_ri hf)
            · have hf := mm_if_f c45 hf
              refine me_aload_n (q := 164) C dX12_hasValue_163 rfl rfl rfl ?_
              obtain ⟨k53, hf⟩ := mm_ck_some hf
              obtain ⟨v54, g55, e56, hf⟩ := mm_cl_some hf
              refine me_callV (q := 167) (c2 := 0) (s2 := 0) (st := []) C (cX12_compares_ok _ e56) mt_X12_415 mv_X12_compares rfl (by decide) dX12_hasValue_164 rfl k53 rfl rfl rfl (Nat.le_of_ble_eq_true rfl) rfl (Nat.le_of_ble_eq_true rfl) rfl (Nat.le_of_ble_eq_true rfl) rfl rfl ?_
              refine me_istore_n (q := 168) (lv2 := [some (vR (some a0)), none, some (vI v33), some (vI v54)]) C dX12_hasValue_167 rfl (Nat.le_of_ble_eq_true rfl) rfl rfl rfl ?_
              refine me_iload_n (q := 169) C dX12_hasValue_168 rfl rfl rfl ?_
              refine me_iconst (v := (-1 : Int32)) (q := 170) C dX12_hasValue_169 (by decide) rfl ?_
              refine me_icmp_ne (q2 := 182) (q := 173) C dX12_hasValue_170 (by decide) rfl (fun c57 => ?_) (fun c57 => ?_)
              · have hf := mm_if_t c57 hf
                refine me_aload_n (q := 183) C dX12_hasValue_182 rfl rfl rfl ?_
                refine me_iload_n (q := 184) C dX12_hasValue_183 rfl rfl rfl ?_
                obtain ⟨k58, hf⟩ := mm_ck_some hf
                obtain ⟨_, g59, e60, hf⟩ := mm_cl_some hf
                refine me_callV (q := 187) (c2 := 0) (s2 := 0) (st := []) C (cX12_counts_ok _ e60) mt_X12_386 mv_X12_counts rfl (by decide) dX12_hasValue_184 rfl k58 rfl rfl rfl (Nat.le_of_ble_eq_true rfl) rfl (Nat.le_of_ble_eq_true rfl) rfl (Nat.le_of_ble_eq_true rfl) rfl rfl ?_
                refine me_aload_n (q := 188) C dX12_hasValue_187 rfl rfl rfl ?_
                refine me_iload_n (q := 189) C dX12_hasValue_188 rfl rfl rfl ?_
                obtain ⟨k61, hf⟩ := mm_ck_some hf
                obtain ⟨_, g62, e63, hf⟩ := mm_cl_some hf
                refine me_callV (q := 192) (c2 := 0) (s2 := 0) (st := []) C (cX12_opens_ok _ e63) mt_X12_389 mv_X12_opens rfl (by decide) dX12_hasValue_189 rfl k61 rfl rfl rfl (Nat.le_of_ble_eq_true rfl) rfl (Nat.le_of_ble_eq_true rfl) rfl (Nat.le_of_ble_eq_true rfl) rfl rfl ?_
                refine me_iconst (v := (1 : Int32)) (q := 193) C dX12_hasValue_192 (by decide) rfl ?_
                exact me_iret C hE (Nat.le_of_ble_eq_true rfl) (Nat.le_of_ble_eq_true rfl) rfl dX12_hasValue_193 (mm_ri hf)
              · have hf := mm_if_f c57 hf
                refine me_aload_n (q := 174) C dX12_hasValue_173 rfl rfl rfl ?_
                refine me_iconst (v := (0 : Int32)) (q := 175) C dX12_hasValue_174 (by decide) rfl ?_
                refine me_iload_n (q := 176) C dX12_hasValue_175 rfl rfl rfl ?_
                obtain ⟨k64, hf⟩ := mm_ck_some hf
                obtain ⟨_, g65, e66, hf⟩ := mm_cl_some hf
                refine me_callV (q := 179) (c2 := 0) (s2 := 0) (st := []) C (cX12_fails_ok _ e66) mt_X12_352 mv_X12_fails rfl (by decide) dX12_hasValue_176 rfl k64 rfl rfl rfl (Nat.le_of_ble_eq_true rfl) rfl (Nat.le_of_ble_eq_true rfl) rfl (Nat.le_of_ble_eq_true rfl) rfl rfl ?_
                refine me_goto (q := 192) C dX12_hasValue_179 (by decide) ?_
                refine me_iconst (v := (1 : Int32)) (q := 193) C dX12_hasValue_192 (by decide) rfl ?_
                exact me_iret C hE (Nat.le_of_ble_eq_true rfl) (Nat.le_of_ble_eq_true rfl) rfl dX12_hasValue_193 (mm_ri hf)
          · have hf := mm_if_f c37 hf
            refine me_aload_n (q := 146) C dX12_hasValue_145 rfl rfl rfl ?_
            refine me_iconst (v := (0 : Int32)) (q := 147) C dX12_hasValue_146 (by decide) rfl ?_
            refine me_iload_n (q := 148) C dX12_hasValue_147 rfl rfl rfl ?_
            obtain ⟨k67, hf⟩ := mm_ck_some hf
            obtain ⟨_, g68, e69, hf⟩ := mm_cl_some hf
            refine me_callV (q := 151) (c2 := 0) (s2 := 0) (st := []) C (cX12_fails_ok _ e69) mt_X12_352 mv_X12_fails rfl (by decide) dX12_hasValue_148 rfl k67 rfl rfl rfl (Nat.le_of_ble_eq_true rfl) rfl (Nat.le_of_ble_eq_true rfl) rfl (Nat.le_of_ble_eq_true rfl) rfl rfl ?_
            refine me_iconst (v := (4 : Int32)) (q := 152) C dX12_hasValue_151 (by decide) rfl ?_
            exact me_iret C hE (Nat.le_of_ble_eq_true rfl) (Nat.le_of_ble_eq_true rfl) rfl dX12_hasValue_152 (mm_ri hf)
        refine me_icmp_ne (q2 := 131) (q := 90) C dX12_hasValue_87 (by decide) rfl (fun c70 => ?_) (fun c70 => ?_)
        · have hf := mm_if_t c70 hf
          refine me_mask [true, false, false, false] (lv2 := [some (vR (some a0)), none, none, none]) rfl ?_
          exact Hq31 _ hf
        · have hf := mm_if_f c70 hf
          refine me_aload_n (q := 91) C dX12_hasValue_90 rfl rfl rfl ?_
          obtain ⟨k71, hf⟩ := mm_ck_some hf
          obtain ⟨v72, g73, e74, hf⟩ := mm_cl_some hf
          refine me_callV (q := 94) (c2 := 0) (s2 := 0) (st := []) C (cX12_top_ok _ e74) mt_X12_368 mv_X12_top rfl (by decide) dX12_hasValue_91 rfl k71 rfl rfl rfl (Nat.le_of_ble_eq_true rfl) rfl (Nat.le_of_ble_eq_true rfl) rfl (Nat.le_of_ble_eq_true rfl) rfl rfl ?_
          refine me_bipush (v := (15 : Int32)) (q := 96) C dX12_hasValue_94 (by decide) rfl ?_
          refine me_icmp_ne (q2 := 131) (q := 99) C dX12_hasValue_96 (by decide) rfl (fun c75 => ?_) (fun c75 => ?_)
          · have hf := mm_if_t c75 hf
            refine me_mask [true, false, false, false] (lv2 := [some (vR (some a0)), none, none, none]) rfl ?_
            exact Hq31 _ hf
          · have hf := mm_if_f c75 hf
            refine me_aload_n (q := 100) C dX12_hasValue_99 rfl rfl rfl ?_
            refine me_dup (q := 101) C dX12_hasValue_100 rfl rfl ?_
            obtain ⟨k76, hf⟩ := mm_ck_some hf
            refine me_getI (q := 104) C dX12_hasValue_101 mf_X12_362 rfl rfl k76 rfl ?_
            refine me_iconst (v := (1 : Int32)) (q := 105) C dX12_hasValue_104 (by decide) rfl ?_
            refine me_isub (q := 106) C dX12_hasValue_105 rfl ?_
            obtain ⟨g77, eg77, hf⟩ := mm_lt_some hf
            refine me_putI (q := 109) C eg77 dX12_hasValue_106 mf_X12_362 mp_X12_13_34 rfl (by decide) rfl k76 rfl ?_
            refine me_aload_n (q := 110) C dX12_hasValue_109 rfl rfl rfl ?_
            refine me_dup (q := 111) C dX12_hasValue_110 rfl rfl ?_
            refine me_getI (q := 114) C dX12_hasValue_111 mf_X12_365 rfl rfl (mm_kI eg77 k76) rfl ?_
            refine me_iconst (v := (1 : Int32)) (q := 115) C dX12_hasValue_114 (by decide) rfl ?_
            refine me_isub (q := 116) C dX12_hasValue_115 rfl ?_
            obtain ⟨g78, eg78, hf⟩ := mm_lt_some hf
            refine me_putI (q := 119) C eg78 dX12_hasValue_116 mf_X12_365 mp_X12_13_21 rfl (by decide) rfl (mm_kI eg77 k76) rfl ?_
            refine me_aload_n (q := 120) C dX12_hasValue_119 rfl rfl rfl ?_
            refine me_dup (q := 121) C dX12_hasValue_120 rfl rfl ?_
            refine me_getI (q := 124) C dX12_hasValue_121 mf_X12_308 rfl rfl (mm_kI eg78 (mm_kI eg77 k76)) rfl ?_
            refine me_iconst (v := (1 : Int32)) (q := 125) C dX12_hasValue_124 (by decide) rfl ?_
            refine me_iadd (q := 126) C dX12_hasValue_125 rfl ?_
            obtain ⟨g79, eg79, hf⟩ := mm_lt_some hf
            refine me_putI (q := 129) C eg79 dX12_hasValue_126 mf_X12_308 mp_X12_13_18 rfl (by decide) rfl (mm_kI eg78 (mm_kI eg77 k76)) rfl ?_
            refine me_iconst (v := (2 : Int32)) (q := 130) C dX12_hasValue_129 (by decide) rfl ?_
            exact me_iret C hE (Nat.le_of_ble_eq_true rfl) (Nat.le_of_ble_eq_true rfl) rfl dX12_hasValue_130 (mm_ri hf)
      · have hf := mm_if_f c26 hf
        exact Hq8 () hf
set_option maxRecDepth 100000 in
set_option maxHeartbeats 4000000 in
theorem cX12_ands_L0 {X : mm_X} (C : mm_C X cX12_ands yX12_ands 4 0 0) {r : Unit} {h1 : mm_H} (hE : mm_End X 0 0 none none h1) {b0 : Nat} {b1 : Int32} (K49 : mm_H → Option (Unit × mm_H)) : ∀ (n : Nat) (h : mm_H), fX12_ands_L0 b0 b1 K49 n h = some (r, h1) → (∀ (h : mm_H), K49 h = some (r, h1) → mm_E X h 0 0 49 [none, none] []) → mm_E X h 0 0 0 [some (vR (some b0)), some (vI b1)] [] := by
  intro n
  induction n with
  | zero =>
    intro h hf
    exact absurd (show (none : Option (Unit × mm_H)) = some (r, h1) from hf) (by simp)
  | succ n ih =>
    intro h hf hk49
    have hf : fX12_ands_L0_b b0 b1 K49 (fX12_ands_L0 b0 b1 K49 n) h = some (r, h1) := hf
    unfold fX12_ands_L0_b at hf
    refine me_aload_n (q := 1) C dX12_ands_0 rfl rfl rfl ?_
    obtain ⟨k1, hf⟩ := mm_ck_some hf
    obtain ⟨v2, g3, e4, hf⟩ := mm_cl_some hf
    refine me_callV (q := 4) (c2 := 0) (s2 := 0) (st := []) C (cX12_top_ok _ e4) mt_X12_368 mv_X12_top rfl (by decide) dX12_ands_1 rfl k1 rfl rfl rfl (Nat.le_of_ble_eq_true rfl) rfl (Nat.le_of_ble_eq_true rfl) rfl (Nat.le_of_ble_eq_true rfl) rfl rfl ?_
    refine me_bipush (v := (12 : Int32)) (q := 6) C dX12_ands_4 (by decide) rfl ?_
    obtain ⟨q6, eq6, hf⟩ := mm_jn_some hf
    have Hq6 : ∀ (g5 : mm_H), q6 g5 = some (r, h1) → mm_E X g5 0 0 22 [some (vR (some b0)), some (vI b1)] [] := by
      intro g5 hf
      subst eq6
      refine me_aload_n (q := 23) C dX12_ands_22 rfl rfl rfl ?_
      refine me_dup (q := 24) C dX12_ands_23 rfl rfl ?_
      obtain ⟨k7, hf⟩ := mm_ck_some hf
      refine me_getI (q := 27) C dX12_ands_24 mf_X12_362 rfl rfl k7 rfl ?_
      refine me_iconst (v := (1 : Int32)) (q := 28) C dX12_ands_27 (by decide) rfl ?_
      refine me_isub (q := 29) C dX12_ands_28 rfl ?_
      obtain ⟨g8, eg8, hf⟩ := mm_lt_some hf
      refine me_putI (q := 32) C eg8 dX12_ands_29 mf_X12_362 mp_X12_13_34 rfl (by decide) rfl k7 rfl ?_
      refine me_aload_n (q := 33) C dX12_ands_32 rfl rfl rfl ?_
      refine me_aload_n (q := 34) C dX12_ands_33 rfl rfl rfl ?_
      refine me_getR (q := 37) C dX12_ands_34 mf_X12_78 rfl rfl (mm_kI eg8 k7) rfl ?_
      refine me_aload_n (q := 38) C dX12_ands_37 rfl rfl rfl ?_
      refine me_getI (q := 41) C dX12_ands_38 mf_X12_362 rfl rfl (mm_kI eg8 k7) rfl ?_
      obtain ⟨u9, eu9, hf⟩ := mm_rf_some hf
      obtain ⟨k10, hf⟩ := mm_ck_some hf
      obtain ⟨k11, hf⟩ := mm_ck_some hf
      refine me_iald (q := 42) C dX12_ands_41 eu9 k10 k11 rfl ?_
      refine me_iconst (v := (0 : Int32)) (q := 43) C dX12_ands_42 (by decide) rfl ?_
      obtain ⟨_, g12, e13, hf⟩ := mm_cl_some hf
      refine me_callV (q := 46) (c2 := 0) (s2 := 0) (st := []) C (cX12_emits_ok _ e13) mt_X12_371 mv_X12_emits rfl (by decide) dX12_ands_43 rfl (mm_kI eg8 k7) rfl rfl rfl (Nat.le_of_ble_eq_true rfl) rfl (Nat.le_of_ble_eq_true rfl) rfl (Nat.le_of_ble_eq_true rfl) rfl rfl ?_
      refine me_goto (q := 0) C dX12_ands_46 (by decide) ?_
      exact ih _ hf hk49
    refine me_icmp_eq (q2 := 22) (q := 9) C dX12_ands_6 (by decide) rfl (fun c14 => ?_) (fun c14 => ?_)
    · have hf := mm_if_t c14 hf
      exact Hq6 _ hf
    · have hf := mm_if_f c14 hf
      refine me_iload_n (q := 10) C dX12_ands_9 rfl rfl rfl ?_
      refine me_if_eq (q2 := 49) (q := 13) C dX12_ands_10 (by decide) rfl (fun c15 => ?_) (fun c15 => ?_)
      · have hf := mm_if_t c15 hf
        refine me_mask [false, false] (lv2 := [none, none]) rfl ?_
        exact hk49 _ hf
      · have hf := mm_if_f c15 hf
        refine me_aload_n (q := 14) C dX12_ands_13 rfl rfl rfl ?_
        obtain ⟨k16, hf⟩ := mm_ck_some hf
        obtain ⟨v17, g18, e19, hf⟩ := mm_cl_some hf
        refine me_callV (q := 17) (c2 := 0) (s2 := 0) (st := []) C (cX12_top_ok _ e19) mt_X12_368 mv_X12_top rfl (by decide) dX12_ands_14 rfl k16 rfl rfl rfl (Nat.le_of_ble_eq_true rfl) rfl (Nat.le_of_ble_eq_true rfl) rfl (Nat.le_of_ble_eq_true rfl) rfl rfl ?_
        refine me_bipush (v := (13 : Int32)) (q := 19) C dX12_ands_17 (by decide) rfl ?_
        refine me_icmp_ne (q2 := 49) (q := 22) C dX12_ands_19 (by decide) rfl (fun c20 => ?_) (fun c20 => ?_)
        · have hf := mm_if_t c20 hf
          refine me_mask [false, false] (lv2 := [none, none]) rfl ?_
          exact hk49 _ hf
        · have hf := mm_if_f c20 hf
          exact Hq6 _ hf
set_option maxRecDepth 100000 in
set_option maxHeartbeats 4000000 in
theorem cX12_ands_ok (l : Launch) {a0 : Nat} {a1 : Int32} {h : mm_H} {r : Unit} {h1 : mm_H} (hf : fX12_ands a0 a1 h = some (r, h1)) : mm_M l yX12_ands cX12_ands 2 none 4 0 0 [vR (some a0), vI a1] h none h1 := by
  refine mm_enter (lv := [some (vR (some a0)), some (vI a1)]) (by decide) rfl (Nat.le_of_ble_eq_true rfl) ?_
  intro X hl C hE
  subst hl
  unfold fX12_ands at hf
  refine cX12_ands_L0 C hE _ _ _ hf ?_
  · intro g21 hf
    exact me_vret C hE (Nat.le_of_ble_eq_true rfl) (Nat.le_of_ble_eq_true rfl) rfl dX12_ands_49 (mm_ru hf)
set_option maxRecDepth 100000 in
set_option maxHeartbeats 4000000 in
theorem cX12_hasFact_L0 {X : mm_X} (C : mm_C X cX12_hasFact yX12_hasFact 12 0 0) {r : Int32} {h1 : mm_H} (hE : mm_End X 0 0 (some .int) (some (vI r)) h1) {b0 : Nat} (K39 : mm_H → Option (Int32 × mm_H)) : ∀ (n : Nat) (h : mm_H), fX12_hasFact_L0 b0 K39 n h = some (r, h1) → (∀ (h : mm_H), K39 h = some (r, h1) → mm_E X h 0 0 39 [some (vR (some b0)), none, none] []) → mm_E X h 0 0 0 [some (vR (some b0)), none, none] [] := by
  intro n
  induction n with
  | zero =>
    intro h hf
    exact absurd (show (none : Option (Int32 × mm_H)) = some (r, h1) from hf) (by simp)
  | succ n ih =>
    intro h hf hk39
    have hf : fX12_hasFact_L0_b b0 K39 (fX12_hasFact_L0 b0 K39 n) h = some (r, h1) := hf
    unfold fX12_hasFact_L0_b at hf
    refine me_aload_n (q := 1) C dX12_hasFact_0 rfl rfl rfl ?_
    obtain ⟨k1, hf⟩ := mm_ck_some hf
    obtain ⟨v2, g3, e4, hf⟩ := mm_cl_some hf
    refine me_callV (q := 4) (c2 := 0) (s2 := 0) (st := []) C (cX12_top_ok _ e4) mt_X12_368 mv_X12_top rfl (by decide) dX12_hasFact_1 rfl k1 rfl rfl rfl (Nat.le_of_ble_eq_true rfl) rfl (Nat.le_of_ble_eq_true rfl) rfl (Nat.le_of_ble_eq_true rfl) rfl rfl ?_
    refine me_bipush (v := (14 : Int32)) (q := 6) C dX12_hasFact_4 (by decide) rfl ?_
    refine me_icmp_ne (q2 := 39) (q := 9) C dX12_hasFact_6 (by decide) rfl (fun c5 => ?_) (fun c5 => ?_)
    · have hf := mm_if_t c5 hf
      exact hk39 _ hf
    · have hf := mm_if_f c5 hf
      refine me_aload_n (q := 10) C dX12_hasFact_9 rfl rfl rfl ?_
      refine me_dup (q := 11) C dX12_hasFact_10 rfl rfl ?_
      obtain ⟨k6, hf⟩ := mm_ck_some hf
      refine me_getI (q := 14) C dX12_hasFact_11 mf_X12_362 rfl rfl k6 rfl ?_
      refine me_iconst (v := (1 : Int32)) (q := 15) C dX12_hasFact_14 (by decide) rfl ?_
      refine me_isub (q := 16) C dX12_hasFact_15 rfl ?_
      obtain ⟨g7, eg7, hf⟩ := mm_lt_some hf
      refine me_putI (q := 19) C eg7 dX12_hasFact_16 mf_X12_362 mp_X12_13_34 rfl (by decide) rfl k6 rfl ?_
      refine me_aload_n (q := 20) C dX12_hasFact_19 rfl rfl rfl ?_
      refine me_dup (q := 21) C dX12_hasFact_20 rfl rfl ?_
      refine me_getI (q := 24) C dX12_hasFact_21 mf_X12_365 rfl rfl (mm_kI eg7 k6) rfl ?_
      refine me_iconst (v := (1 : Int32)) (q := 25) C dX12_hasFact_24 (by decide) rfl ?_
      refine me_isub (q := 26) C dX12_hasFact_25 rfl ?_
      obtain ⟨g8, eg8, hf⟩ := mm_lt_some hf
      refine me_putI (q := 29) C eg8 dX12_hasFact_26 mf_X12_365 mp_X12_13_21 rfl (by decide) rfl (mm_kI eg7 k6) rfl ?_
      refine me_aload_n (q := 30) C dX12_hasFact_29 rfl rfl rfl ?_
      refine me_bipush (v := (14 : Int32)) (q := 32) C dX12_hasFact_30 (by decide) rfl ?_
      refine me_iconst (v := (0 : Int32)) (q := 33) C dX12_hasFact_32 (by decide) rfl ?_
      obtain ⟨_, g9, e10, hf⟩ := mm_cl_some hf
      refine me_callV (q := 36) (c2 := 0) (s2 := 0) (st := []) C (cX12_emits_ok _ e10) mt_X12_371 mv_X12_emits rfl (by decide) dX12_hasFact_33 rfl (mm_kI eg8 (mm_kI eg7 k6)) rfl rfl rfl (Nat.le_of_ble_eq_true rfl) rfl (Nat.le_of_ble_eq_true rfl) rfl (Nat.le_of_ble_eq_true rfl) rfl rfl ?_
      refine me_goto (q := 0) C dX12_hasFact_36 (by decide) ?_
      exact ih _ hf hk39
set_option maxRecDepth 100000 in
set_option maxHeartbeats 4000000 in
theorem cX12_hasFact_ok (l : Launch) {a0 : Nat} {h : mm_H} {r : Int32} {h1 : mm_H} (hf : fX12_hasFact a0 h = some (r, h1)) : mm_M l yX12_hasFact cX12_hasFact 3 (some .int) 12 0 0 [vR (some a0)] h (some (vI r)) h1 := by
  refine mm_enter (lv := [some (vR (some a0)), none, none]) (by decide) rfl (Nat.le_of_ble_eq_true rfl) ?_
  intro X hl C hE
  subst hl
  unfold fX12_hasFact at hf
  refine cX12_hasFact_L0 C hE _ _ _ hf ?_
  · intro g11 hf
    refine me_aload_n (q := 40) C dX12_hasFact_39 rfl rfl rfl ?_
    obtain ⟨k12, hf⟩ := mm_ck_some hf
    obtain ⟨_, g13, e14, hf⟩ := mm_cl_some hf
    refine me_callV (q := 43) (c2 := 0) (s2 := 0) (st := []) C (cX12_blanks_ok _ e14) mt_X12_377 mv_X12_blanks rfl (by decide) dX12_hasFact_40 rfl k12 rfl rfl rfl (Nat.le_of_ble_eq_true rfl) rfl (Nat.le_of_ble_eq_true rfl) rfl (Nat.le_of_ble_eq_true rfl) rfl rfl ?_
    refine me_aload_n (q := 44) C dX12_hasFact_43 rfl rfl rfl ?_
    obtain ⟨k15, hf⟩ := mm_ck_some hf
    obtain ⟨v16, g17, e18, hf⟩ := mm_cl_some hf
    refine me_callV (q := 47) (c2 := 0) (s2 := 0) (st := []) C (cX12_wordEnd_ok _ e18) mt_X12_395 mv_X12_wordEnd rfl (by decide) dX12_hasFact_44 rfl k15 rfl rfl rfl (Nat.le_of_ble_eq_true rfl) rfl (Nat.le_of_ble_eq_true rfl) rfl (Nat.le_of_ble_eq_true rfl) rfl rfl ?_
    refine me_istore_n (q := 48) (lv2 := [some (vR (some a0)), some (vI v16), none]) C dX12_hasFact_47 rfl (Nat.le_of_ble_eq_true rfl) rfl rfl rfl ?_
    refine me_aload_n (q := 49) C dX12_hasFact_48 rfl rfl rfl ?_
    refine me_ldc_wS (i := 20) (q := 52) C dX12_hasFact_49 rfl rfl ?_
    refine me_iload_n (q := 53) C dX12_hasFact_52 rfl rfl rfl ?_
    obtain ⟨k19, hf⟩ := mm_ck_some hf
    obtain ⟨v20, g21, e22, hf⟩ := mm_cl_some hf
    refine me_callV (q := 56) (c2 := 0) (s2 := 0) (st := []) C (cX12_is_ok _ e22) mt_X12_402 mv_X12_is rfl (by decide) dX12_hasFact_53 rfl k19 rfl rfl rfl (Nat.le_of_ble_eq_true rfl) rfl (Nat.le_of_ble_eq_true rfl) rfl (Nat.le_of_ble_eq_true rfl) rfl rfl ?_
    refine me_istore_n (q := 57) (lv2 := [some (vR (some a0)), some (vI v16), some (vI v20)]) C dX12_hasFact_56 rfl (Nat.le_of_ble_eq_true rfl) rfl rfl rfl ?_
    refine me_iload_n (q := 58) C dX12_hasFact_57 rfl rfl rfl ?_
    obtain ⟨q24, eq24, hf⟩ := mm_jn_some hf
    have Hq24 : ∀ (g23 : mm_H), q24 g23 = some (r, h1) → mm_E X g23 0 0 72 [some (vR (some a0)), some (vI v16), some (vI v20)] [] := by
      intro g23 hf
      subst eq24
      refine me_aload_n (q := 73) C dX12_hasFact_72 rfl rfl rfl ?_
      refine me_iload_n (q := 74) C dX12_hasFact_73 rfl rfl rfl ?_
      obtain ⟨q26, eq26, hf⟩ := mm_jn_some hf
      have Hq26 : ∀ (v25 : Int32), q26 v25 = some (r, h1) → mm_E X g23 0 0 82 [some (vR (some a0)), some (vI v16), some (vI v20)] [vI v25, vR (some a0)] := by
        intro v25 hf
        subst eq26
        obtain ⟨k27, hf⟩ := mm_ck_some hf
        obtain ⟨_, g28, e29, hf⟩ := mm_cl_some hf
        refine me_callV (q := 85) (c2 := 0) (s2 := 0) (st := []) C (cX12_ands_ok _ e29) mt_X12_422 mv_X12_ands rfl (by decide) dX12_hasFact_82 rfl k27 rfl rfl rfl (Nat.le_of_ble_eq_true rfl) rfl (Nat.le_of_ble_eq_true rfl) rfl (Nat.le_of_ble_eq_true rfl) rfl rfl ?_
        refine me_aload_n (q := 86) C dX12_hasFact_85 rfl rfl rfl ?_
        refine me_iload_n (q := 87) C dX12_hasFact_86 rfl rfl rfl ?_
        obtain ⟨q31, eq31, hf⟩ := mm_jn_some hf
        have Hq31 : ∀ (v30 : Int32), q31 v30 = some (r, h1) → mm_E X g28 0 0 97 [some (vR (some a0)), some (vI v16), none] [vI v30, vR (some a0)] := by
          intro v30 hf
          subst eq31
          obtain ⟨k32, hf⟩ := mm_ck_some hf
          obtain ⟨_, g33, e34, hf⟩ := mm_cl_some hf
          refine me_callV (q := 100) (c2 := 0) (s2 := 0) (st := []) C (cX12_opens_ok _ e34) mt_X12_389 mv_X12_opens rfl (by decide) dX12_hasFact_97 rfl k32 rfl rfl rfl (Nat.le_of_ble_eq_true rfl) rfl (Nat.le_of_ble_eq_true rfl) rfl (Nat.le_of_ble_eq_true rfl) rfl rfl ?_
          refine me_aload_n (q := 101) C dX12_hasFact_100 rfl rfl rfl ?_
          refine me_iload_n (q := 102) C dX12_hasFact_101 rfl rfl rfl ?_
          obtain ⟨k35, hf⟩ := mm_ck_some hf
          obtain ⟨g36, eg36, hf⟩ := mm_lt_some hf
          refine me_putI (q := 105) C eg36 dX12_hasFact_102 mf_X12_308 mp_X12_13_18 rfl (by decide) rfl k35 rfl ?_
          refine me_iconst (v := (0 : Int32)) (q := 106) C dX12_hasFact_105 (by decide) rfl ?_
          exact me_iret C hE (Nat.le_of_ble_eq_true rfl) (Nat.le_of_ble_eq_true rfl) rfl dX12_hasFact_106 (mm_ri hf)
        refine me_if_eq (q2 := 95) (q := 90) C dX12_hasFact_87 (by decide) rfl (fun c37 => ?_) (fun c37 => ?_)
        · have hf := mm_if_t c37 hf
          refine me_bipush (v := (13 : Int32)) (q := 97) C dX12_hasFact_95 (by decide) rfl ?_
          refine me_mask [true, true, false] (lv2 := [some (vR (some a0)), some (vI v16), none]) rfl ?_
          exact Hq31 _ hf
        · have hf := mm_if_f c37 hf
          refine me_bipush (v := (12 : Int32)) (q := 92) C dX12_hasFact_90 (by decide) rfl ?_
          refine me_goto (q := 97) C dX12_hasFact_92 (by decide) ?_
          refine me_mask [true, true, false] (lv2 := [some (vR (some a0)), some (vI v16), none]) rfl ?_
          exact Hq31 _ hf
      refine me_if_ne (q2 := 81) (q := 77) C dX12_hasFact_74 (by decide) rfl (fun c38 => ?_) (fun c38 => ?_)
      · have hf := mm_if_t c38 hf
        refine me_iconst (v := (0 : Int32)) (q := 82) C dX12_hasFact_81 (by decide) rfl ?_
        exact Hq26 _ hf
      · have hf := mm_if_f c38 hf
        refine me_iconst (v := (1 : Int32)) (q := 78) C dX12_hasFact_77 (by decide) rfl ?_
        refine me_goto (q := 82) C dX12_hasFact_78 (by decide) ?_
        exact Hq26 _ hf
    refine me_if_ne (q2 := 72) (q := 61) C dX12_hasFact_58 (by decide) rfl (fun c39 => ?_) (fun c39 => ?_)
    · have hf := mm_if_t c39 hf
      exact Hq24 _ hf
    · have hf := mm_if_f c39 hf
      refine me_aload_n (q := 62) C dX12_hasFact_61 rfl rfl rfl ?_
      refine me_ldc_wS (i := 21) (q := 65) C dX12_hasFact_62 rfl rfl ?_
      refine me_iload_n (q := 66) C dX12_hasFact_65 rfl rfl rfl ?_
      obtain ⟨k40, hf⟩ := mm_ck_some hf
      obtain ⟨v41, g42, e43, hf⟩ := mm_cl_some hf
      refine me_callV (q := 69) (c2 := 0) (s2 := 0) (st := []) C (cX12_is_ok _ e43) mt_X12_402 mv_X12_is rfl (by decide) dX12_hasFact_66 rfl k40 rfl rfl rfl (Nat.le_of_ble_eq_true rfl) rfl (Nat.le_of_ble_eq_true rfl) rfl (Nat.le_of_ble_eq_true rfl) rfl rfl ?_
      refine me_if_eq (q2 := 107) (q := 72) C dX12_hasFact_69 (by decide) rfl (fun c44 => ?_) (fun c44 => ?_)
      · have hf := mm_if_t c44 hf
        refine me_aload_n (q := 108) C dX12_hasFact_107 rfl rfl rfl ?_
        refine me_iconst (v := (1 : Int32)) (q := 109) C dX12_hasFact_108 (by decide) rfl ?_
        obtain ⟨k45, hf⟩ := mm_ck_some hf
        obtain ⟨_, g46, e47, hf⟩ := mm_cl_some hf
        refine me_callV (q := 112) (c2 := 0) (s2 := 0) (st := []) C (cX12_ands_ok _ e47) mt_X12_422 mv_X12_ands rfl (by decide) dX12_hasFact_109 rfl k45 rfl rfl rfl (Nat.le_of_ble_eq_true rfl) rfl (Nat.le_of_ble_eq_true rfl) rfl (Nat.le_of_ble_eq_true rfl) rfl rfl ?_
        refine me_aload_n (q := 113) C dX12_hasFact_112 rfl rfl rfl ?_
        obtain ⟨k48, hf⟩ := mm_ck_some hf
        obtain ⟨v49, g50, e51, hf⟩ := mm_cl_some hf
        refine me_callV (q := 116) (c2 := 0) (s2 := 0) (st := []) C (cX12_sign_ok _ e51) mt_X12_380 mv_X12_sign rfl (by decide) dX12_hasFact_113 rfl k48 rfl rfl rfl (Nat.le_of_ble_eq_true rfl) rfl (Nat.le_of_ble_eq_true rfl) rfl (Nat.le_of_ble_eq_true rfl) rfl rfl ?_
        refine me_bipush (v := (93 : Int32)) (q := 118) C dX12_hasFact_116 (by decide) rfl ?_
        obtain ⟨q53, eq53, hf⟩ := mm_jn_some hf
        have Hq53 : ∀ (g52 : mm_H), q53 g52 = some (r, h1) → mm_E X g52 0 0 162 [some (vR (some a0)), none, none] [] := by
          intro g52 hf
          subst eq53
          refine me_aload_n (q := 163) C dX12_hasFact_162 rfl rfl rfl ?_
          obtain ⟨k54, hf⟩ := mm_ck_some hf
          refine me_getI (q := 166) C dX12_hasFact_163 mf_X12_362 rfl rfl k54 rfl ?_
          obtain ⟨q56, eq56, hf⟩ := mm_jn_some hf
          have Hq56 : ∀ (g55 : mm_H), q56 g55 = some (r, h1) → mm_E X g55 0 0 189 [some (vR (some a0)), none, none] [] := by
            intro g55 hf
            subst eq56
            refine me_aload_n (q := 190) C dX12_hasFact_189 rfl rfl rfl ?_
            refine me_iconst (v := (0 : Int32)) (q := 191) C dX12_hasFact_190 (by decide) rfl ?_
            refine me_aload_n (q := 192) C dX12_hasFact_191 rfl rfl rfl ?_
            obtain ⟨k57, hf⟩ := mm_ck_some hf
            refine me_getI (q := 195) C dX12_hasFact_192 mf_X12_308 rfl rfl k57 rfl ?_
            obtain ⟨_, g58, e59, hf⟩ := mm_cl_some hf
            refine me_callV (q := 198) (c2 := 0) (s2 := 0) (st := []) C (cX12_fails_ok _ e59) mt_X12_352 mv_X12_fails rfl (by decide) dX12_hasFact_195 rfl k57 rfl rfl rfl (Nat.le_of_ble_eq_true rfl) rfl (Nat.le_of_ble_eq_true rfl) rfl (Nat.le_of_ble_eq_true rfl) rfl rfl ?_
            refine me_iconst (v := (4 : Int32)) (q := 199) C dX12_hasFact_198 (by decide) rfl ?_
            exact me_iret C hE (Nat.le_of_ble_eq_true rfl) (Nat.le_of_ble_eq_true rfl) rfl dX12_hasFact_199 (mm_ri hf)
          refine me_if_gt (q2 := 189) (q := 169) C dX12_hasFact_166 (by decide) rfl (fun c60 => ?_) (fun c60 => ?_)
          · have hf := mm_if_t c60 hf
            exact Hq56 _ hf
          · have hf := mm_if_f c60 hf
            refine me_aload_n (q := 170) C dX12_hasFact_169 rfl rfl rfl ?_
            refine me_getI (q := 173) C dX12_hasFact_170 mf_X12_308 rfl rfl k54 rfl ?_
            refine me_aload_n (q := 174) C dX12_hasFact_173 rfl rfl rfl ?_
            refine me_getI (q := 177) C dX12_hasFact_174 mf_X12_298 rfl rfl k54 rfl ?_
            refine me_icmp_ge (q2 := 198) (q := 180) C dX12_hasFact_177 (by decide) rfl (fun c61 => ?_) (fun c61 => ?_)
            · have hf := mm_if_t c61 hf
              refine me_iconst (v := (4 : Int32)) (q := 199) C dX12_hasFact_198 (by decide) rfl ?_
              exact me_iret C hE (Nat.le_of_ble_eq_true rfl) (Nat.le_of_ble_eq_true rfl) rfl dX12_hasFact_199 (mm_ri hf)
            · have hf := mm_if_f c61 hf
              refine me_aload_n (q := 181) C dX12_hasFact_180 rfl rfl rfl ?_
              obtain ⟨v62, g63, e64, hf⟩ := mm_cl_some hf
              refine me_callV (q := 184) (c2 := 0) (s2 := 0) (st := []) C (cX12_sign_ok _ e64) mt_X12_380 mv_X12_sign rfl (by decide) dX12_hasFact_181 rfl k54 rfl rfl rfl (Nat.le_of_ble_eq_true rfl) rfl (Nat.le_of_ble_eq_true rfl) rfl (Nat.le_of_ble_eq_true rfl) rfl rfl ?_
              refine me_bipush (v := (59 : Int32)) (q := 186) C dX12_hasFact_184 (by decide) rfl ?_
              refine me_icmp_eq (q2 := 198) (q := 189) C dX12_hasFact_186 (by decide) rfl (fun c65 => ?_) (fun c65 => ?_)
              · have hf := mm_if_t c65 hf
                refine me_iconst (v := (4 : Int32)) (q := 199) C dX12_hasFact_198 (by decide) rfl ?_
                exact me_iret C hE (Nat.le_of_ble_eq_true rfl) (Nat.le_of_ble_eq_true rfl) rfl dX12_hasFact_199 (mm_ri hf)
              · have hf := mm_if_f c65 hf
                exact Hq56 _ hf
        refine me_icmp_ne (q2 := 162) (q := 121) C dX12_hasFact_118 (by decide) rfl (fun c66 => ?_) (fun c66 => ?_)
        · have hf := mm_if_t c66 hf
          refine me_mask [true, false, false] (lv2 := [some (vR (some a0)), none, none]) rfl ?_
          exact Hq53 _ hf
        · have hf := mm_if_f c66 hf
          refine me_aload_n (q := 122) C dX12_hasFact_121 rfl rfl rfl ?_
          obtain ⟨k67, hf⟩ := mm_ck_some hf
          obtain ⟨v68, g69, e70, hf⟩ := mm_cl_some hf
          refine me_callV (q := 125) (c2 := 0) (s2 := 0) (st := []) C (cX12_top_ok _ e70) mt_X12_368 mv_X12_top rfl (by decide) dX12_hasFact_122 rfl k67 rfl rfl rfl (Nat.le_of_ble_eq_true rfl) rfl (Nat.le_of_ble_eq_true rfl) rfl (Nat.le_of_ble_eq_true rfl) rfl rfl ?_
          refine me_bipush (v := (16 : Int32)) (q := 127) C dX12_hasFact_125 (by decide) rfl ?_
          refine me_icmp_ne (q2 := 162) (q := 130) C dX12_hasFact_127 (by decide) rfl (fun c71 => ?_) (fun c71 => ?_)
          · have hf := mm_if_t c71 hf
            refine me_mask [true, false, false] (lv2 := [some (vR (some a0)), none, none]) rfl ?_
            exact Hq53 _ hf
          · have hf := mm_if_f c71 hf
            refine me_aload_n (q := 131) C dX12_hasFact_130 rfl rfl rfl ?_
            refine me_dup (q := 132) C dX12_hasFact_131 rfl rfl ?_
            obtain ⟨k72, hf⟩ := mm_ck_some hf
            refine me_getI (q := 135) C dX12_hasFact_132 mf_X12_362 rfl rfl k72 rfl ?_
            refine me_iconst (v := (1 : Int32)) (q := 136) C dX12_hasFact_135 (by decide) rfl ?_
            refine me_isub (q := 137) C dX12_hasFact_136 rfl ?_
            obtain ⟨g73, eg73, hf⟩ := mm_lt_some hf
            refine me_putI (q := 140) C eg73 dX12_hasFact_137 mf_X12_362 mp_X12_13_34 rfl (by decide) rfl k72 rfl ?_
            refine me_aload_n (q := 141) C dX12_hasFact_140 rfl rfl rfl ?_
            refine me_dup (q := 142) C dX12_hasFact_141 rfl rfl ?_
            refine me_getI (q := 145) C dX12_hasFact_142 mf_X12_365 rfl rfl (mm_kI eg73 k72) rfl ?_
            refine me_iconst (v := (1 : Int32)) (q := 146) C dX12_hasFact_145 (by decide) rfl ?_
            refine me_isub (q := 147) C dX12_hasFact_146 rfl ?_
            obtain ⟨g74, eg74, hf⟩ := mm_lt_some hf
            refine me_putI (q := 150) C eg74 dX12_hasFact_147 mf_X12_365 mp_X12_13_21 rfl (by decide) rfl (mm_kI eg73 k72) rfl ?_
            refine me_aload_n (q := 151) C dX12_hasFact_150 rfl rfl rfl ?_
            refine me_dup (q := 152) C dX12_hasFact_151 rfl rfl ?_
            refine me_getI (q := 155) C dX12_hasFact_152 mf_X12_308 rfl rfl (mm_kI eg74 (mm_kI eg73 k72)) rfl ?_
            refine me_iconst (v := (1 : Int32)) (q := 156) C dX12_hasFact_155 (by decide) rfl ?_
            refine me_iadd (q := 157) C dX12_hasFact_156 rfl ?_
            obtain ⟨g75, eg75, hf⟩ := mm_lt_some hf
            refine me_putI (q := 160) C eg75 dX12_hasFact_157 mf_X12_308 mp_X12_13_18 rfl (by decide) rfl (mm_kI eg74 (mm_kI eg73 k72)) rfl ?_
            refine me_iconst (v := (3 : Int32)) (q := 161) C dX12_hasFact_160 (by decide) rfl ?_
            exact me_iret C hE (Nat.le_of_ble_eq_true rfl) (Nat.le_of_ble_eq_true rfl) rfl dX12_hasFact_161 (mm_ri hf)
      · have hf := mm_if_f c44 hf
        exact Hq24 _ hf
set_option maxRecDepth 100000 in
set_option maxHeartbeats 4000000 in
theorem cX12_verb_ok (l : Launch) {a0 : Nat} {h : mm_H} {r : Int32} {h1 : mm_H} (hf : fX12_verb a0 h = some (r, h1)) : mm_M l yX12_verb cX12_verb 3 (some .int) 12 0 0 [vR (some a0)] h (some (vI r)) h1 := by
  refine mm_enter (lv := [some (vR (some a0)), none, none]) (by decide) rfl (Nat.le_of_ble_eq_true rfl) ?_
  intro X hl C hE
  subst hl
  unfold fX12_verb at hf
  refine me_aload_n (q := 1) C dX12_verb_0 rfl rfl rfl ?_
  obtain ⟨k1, hf⟩ := mm_ck_some hf
  obtain ⟨_, g2, e3, hf⟩ := mm_cl_some hf
  refine me_callV (q := 4) (c2 := 0) (s2 := 0) (st := []) C (cX12_blanks_ok _ e3) mt_X12_377 mv_X12_blanks rfl (by decide) dX12_verb_1 rfl k1 rfl rfl rfl (Nat.le_of_ble_eq_true rfl) rfl (Nat.le_of_ble_eq_true rfl) rfl (Nat.le_of_ble_eq_true rfl) rfl rfl ?_
  refine me_aload_n (q := 5) C dX12_verb_4 rfl rfl rfl ?_
  obtain ⟨k4, hf⟩ := mm_ck_some hf
  obtain ⟨v5, g6, e7, hf⟩ := mm_cl_some hf
  refine me_callV (q := 8) (c2 := 0) (s2 := 0) (st := []) C (cX12_wordEnd_ok _ e7) mt_X12_395 mv_X12_wordEnd rfl (by decide) dX12_verb_5 rfl k4 rfl rfl rfl (Nat.le_of_ble_eq_true rfl) rfl (Nat.le_of_ble_eq_true rfl) rfl (Nat.le_of_ble_eq_true rfl) rfl rfl ?_
  refine me_istore_n (q := 9) (lv2 := [some (vR (some a0)), some (vI v5), none]) C dX12_verb_8 rfl (Nat.le_of_ble_eq_true rfl) rfl rfl rfl ?_
  refine me_aload_n (q := 10) C dX12_verb_9 rfl rfl rfl ?_
  refine me_ldc_wS (i := 1) (q := 13) C dX12_verb_10 rfl rfl ?_
  refine me_iload_n (q := 14) C dX12_verb_13 rfl rfl rfl ?_
  obtain ⟨k8, hf⟩ := mm_ck_some hf
  obtain ⟨v9, g10, e11, hf⟩ := mm_cl_some hf
  refine me_callV (q := 17) (c2 := 0) (s2 := 0) (st := []) C (cX12_is_ok _ e11) mt_X12_402 mv_X12_is rfl (by decide) dX12_verb_14 rfl k8 rfl rfl rfl (Nat.le_of_ble_eq_true rfl) rfl (Nat.le_of_ble_eq_true rfl) rfl (Nat.le_of_ble_eq_true rfl) rfl rfl ?_
  obtain ⟨q14, eq14, hf⟩ := mm_jn_some hf
  have Hq14 : ∀ (v12 : Int32) (g13 : mm_H), q14 v12 g13 = some (r, h1) → mm_E X g13 0 0 56 [some (vR (some a0)), some (vI v5), none] [vI v12] := by
    intro v12 g13 hf
    subst eq14
    refine me_istore_n (q := 57) (lv2 := [some (vR (some a0)), some (vI v5), some (vI v12)]) C dX12_verb_56 rfl (Nat.le_of_ble_eq_true rfl) rfl rfl rfl ?_
    refine me_iload_n (q := 58) C dX12_verb_57 rfl rfl rfl ?_
    refine me_iconst (v := (-1 : Int32)) (q := 59) C dX12_verb_58 (by decide) rfl ?_
    refine me_icmp_ne (q2 := 73) (q := 62) C dX12_verb_59 (by decide) rfl (fun c15 => ?_) (fun c15 => ?_)
    · have hf := mm_if_t c15 hf
      refine me_aload_n (q := 74) C dX12_verb_73 rfl rfl rfl ?_
      obtain ⟨k16, hf⟩ := mm_ck_some hf
      refine me_getR (q := 77) C dX12_verb_74 mf_X12_60 rfl rfl k16 rfl ?_
      refine me_aload_n (q := 78) C dX12_verb_77 rfl rfl rfl ?_
      refine me_getI (q := 81) C dX12_verb_78 mf_X12_356 rfl rfl k16 rfl ?_
      obtain ⟨u17, eu17, hf⟩ := mm_rf_some hf
      obtain ⟨k18, hf⟩ := mm_ck_some hf
      obtain ⟨k19, hf⟩ := mm_ck_some hf
      refine me_iald (q := 82) C dX12_verb_81 eu17 k18 k19 rfl ?_
      refine me_bipush (v := (10 : Int32)) (q := 84) C dX12_verb_82 (by decide) rfl ?_
      refine me_icmp_ne (q2 := 98) (q := 87) C dX12_verb_84 (by decide) rfl (fun c20 => ?_) (fun c20 => ?_)
      · have hf := mm_if_t c20 hf
        refine me_aload_n (q := 99) C dX12_verb_98 rfl rfl rfl ?_
        refine me_iload_n (q := 100) C dX12_verb_99 rfl rfl rfl ?_
        obtain ⟨g21, eg21, hf⟩ := mm_lt_some hf
        refine me_putI (q := 103) C eg21 dX12_verb_100 mf_X12_308 mp_X12_13_18 rfl (by decide) rfl k16 rfl ?_
        refine me_iload_n (q := 104) C dX12_verb_103 rfl rfl rfl ?_
        refine me_bipush (v := (10 : Int32)) (q := 106) C dX12_verb_104 (by decide) rfl ?_
        refine me_icmp_ne (q2 := 141) (q := 109) C dX12_verb_106 (by decide) rfl (fun c22 => ?_) (fun c22 => ?_)
        · have hf := mm_if_t c22 hf
          refine me_iload_n (q := 142) C dX12_verb_141 rfl rfl rfl ?_
          exact me_iret C hE (Nat.le_of_ble_eq_true rfl) (Nat.le_of_ble_eq_true rfl) rfl dX12_verb_142 (mm_ri hf)
        · have hf := mm_if_f c22 hf
          refine me_aload_n (q := 110) C dX12_verb_109 rfl rfl rfl ?_
          obtain ⟨_, g23, e24, hf⟩ := mm_cl_some hf
          refine me_callV (q := 113) (c2 := 0) (s2 := 0) (st := []) C (cX12_blanks_ok _ e24) mt_X12_377 mv_X12_blanks rfl (by decide) dX12_verb_110 rfl (mm_kI eg21 k16) rfl rfl rfl (Nat.le_of_ble_eq_true rfl) rfl (Nat.le_of_ble_eq_true rfl) rfl (Nat.le_of_ble_eq_true rfl) rfl rfl ?_
          refine me_aload_n (q := 114) C dX12_verb_113 rfl rfl rfl ?_
          obtain ⟨k25, hf⟩ := mm_ck_some hf
          obtain ⟨v26, g27, e28, hf⟩ := mm_cl_some hf
          refine me_callV (q := 117) (c2 := 0) (s2 := 0) (st := []) C (cX12_sign_ok _ e28) mt_X12_380 mv_X12_sign rfl (by decide) dX12_verb_114 rfl k25 rfl rfl rfl (Nat.le_of_ble_eq_true rfl) rfl (Nat.le_of_ble_eq_true rfl) rfl (Nat.le_of_ble_eq_true rfl) rfl rfl ?_
          obtain ⟨v29, g30, e31, hf⟩ := mm_cl_some hf
          refine me_callS (q := 120) (c2 := 0) (s2 := 0) (st := []) C (cX12_isDigit_ok _ e31) mt_X12_349 ms_X12_isDigit dX12_verb_117 rfl rfl rfl (Nat.le_of_ble_eq_true rfl) rfl (Nat.le_of_ble_eq_true rfl) rfl (Nat.le_of_ble_eq_true rfl) rfl rfl ?_
          refine me_if_ne (q2 := 134) (q := 123) C dX12_verb_120 (by decide) rfl (fun c32 => ?_) (fun c32 => ?_)
          · have hf := mm_if_t c32 hf
            refine me_iload_n (q := 135) C dX12_verb_134 rfl rfl rfl ?_
            refine me_aload_n (q := 136) C dX12_verb_135 rfl rfl rfl ?_
            obtain ⟨k33, hf⟩ := mm_ck_some hf
            obtain ⟨v34, g35, e36, hf⟩ := mm_cl_some hf
            refine me_callV (q := 139) (c2 := 0) (s2 := 0) (st := [vI v12]) C (cX12_number_ok _ e36) mt_X12_392 mv_X12_number rfl (by decide) dX12_verb_136 rfl k33 rfl rfl rfl (Nat.le_of_ble_eq_true rfl) rfl (Nat.le_of_ble_eq_true rfl) rfl (Nat.le_of_ble_eq_true rfl) rfl rfl ?_
            refine me_iadd (q := 140) C dX12_verb_139 rfl ?_
            obtain ⟨v37, ev37, hf⟩ := mm_lt_some hf
            refine me_topI ev37 ?_
            refine me_istore_n (q := 141) (lv2 := [some (vR (some a0)), some (vI v5), some (vI v37)]) C dX12_verb_140 rfl (Nat.le_of_ble_eq_true rfl) rfl rfl rfl ?_
            refine me_iload_n (q := 142) C dX12_verb_141 rfl rfl rfl ?_
            exact me_iret C hE (Nat.le_of_ble_eq_true rfl) (Nat.le_of_ble_eq_true rfl) rfl dX12_verb_142 (mm_ri hf)
          · have hf := mm_if_f c32 hf
            refine me_aload_n (q := 124) C dX12_verb_123 rfl rfl rfl ?_
            refine me_iconst (v := (0 : Int32)) (q := 125) C dX12_verb_124 (by decide) rfl ?_
            refine me_aload_n (q := 126) C dX12_verb_125 rfl rfl rfl ?_
            obtain ⟨k38, hf⟩ := mm_ck_some hf
            refine me_getI (q := 129) C dX12_verb_126 mf_X12_308 rfl rfl k38 rfl ?_
            obtain ⟨_, g39, e40, hf⟩ := mm_cl_some hf
            refine me_callV (q := 132) (c2 := 0) (s2 := 0) (st := []) C (cX12_fails_ok _ e40) mt_X12_352 mv_X12_fails rfl (by decide) dX12_verb_129 rfl k38 rfl rfl rfl (Nat.le_of_ble_eq_true rfl) rfl (Nat.le_of_ble_eq_true rfl) rfl (Nat.le_of_ble_eq_true rfl) rfl rfl ?_
            refine me_iconst (v := (-1 : Int32)) (q := 133) C dX12_verb_132 (by decide) rfl ?_
            exact me_iret C hE (Nat.le_of_ble_eq_true rfl) (Nat.le_of_ble_eq_true rfl) rfl dX12_verb_133 (mm_ri hf)
      · have hf := mm_if_f c20 hf
        refine me_aload_n (q := 88) C dX12_verb_87 rfl rfl rfl ?_
        refine me_iconst (v := (4 : Int32)) (q := 89) C dX12_verb_88 (by decide) rfl ?_
        refine me_aload_n (q := 90) C dX12_verb_89 rfl rfl rfl ?_
        refine me_getI (q := 93) C dX12_verb_90 mf_X12_308 rfl rfl k16 rfl ?_
        obtain ⟨_, g41, e42, hf⟩ := mm_cl_some hf
        refine me_callV (q := 96) (c2 := 0) (s2 := 0) (st := []) C (cX12_fails_ok _ e42) mt_X12_352 mv_X12_fails rfl (by decide) dX12_verb_93 rfl k16 rfl rfl rfl (Nat.le_of_ble_eq_true rfl) rfl (Nat.le_of_ble_eq_true rfl) rfl (Nat.le_of_ble_eq_true rfl) rfl rfl ?_
        refine me_iconst (v := (-1 : Int32)) (q := 97) C dX12_verb_96 (by decide) rfl ?_
        exact me_iret C hE (Nat.le_of_ble_eq_true rfl) (Nat.le_of_ble_eq_true rfl) rfl dX12_verb_97 (mm_ri hf)
    · have hf := mm_if_f c15 hf
      refine me_aload_n (q := 63) C dX12_verb_62 rfl rfl rfl ?_
      refine me_iconst (v := (0 : Int32)) (q := 64) C dX12_verb_63 (by decide) rfl ?_
      refine me_aload_n (q := 65) C dX12_verb_64 rfl rfl rfl ?_
      obtain ⟨k43, hf⟩ := mm_ck_some hf
      refine me_getI (q := 68) C dX12_verb_65 mf_X12_308 rfl rfl k43 rfl ?_
      obtain ⟨_, g44, e45, hf⟩ := mm_cl_some hf
      refine me_callV (q := 71) (c2 := 0) (s2 := 0) (st := []) C (cX12_fails_ok _ e45) mt_X12_352 mv_X12_fails rfl (by decide) dX12_verb_68 rfl k43 rfl rfl rfl (Nat.le_of_ble_eq_true rfl) rfl (Nat.le_of_ble_eq_true rfl) rfl (Nat.le_of_ble_eq_true rfl) rfl rfl ?_
      refine me_iconst (v := (-1 : Int32)) (q := 72) C dX12_verb_71 (by decide) rfl ?_
      exact me_iret C hE (Nat.le_of_ble_eq_true rfl) (Nat.le_of_ble_eq_true rfl) rfl dX12_verb_72 (mm_ri hf)
  refine me_if_eq (q2 := 24) (q := 20) C dX12_verb_17 (by decide) rfl (fun c46 => ?_) (fun c46 => ?_)
  · have hf := mm_if_t c46 hf
    refine me_aload_n (q := 25) C dX12_verb_24 rfl rfl rfl ?_
    refine me_ldc_wS (i := 2) (q := 28) C dX12_verb_25 rfl rfl ?_
    refine me_iload_n (q := 29) C dX12_verb_28 rfl rfl rfl ?_
    obtain ⟨k47, hf⟩ := mm_ck_some hf
    obtain ⟨v48, g49, e50, hf⟩ := mm_cl_some hf
    refine me_callV (q := 32) (c2 := 0) (s2 := 0) (st := []) C (cX12_is_ok _ e50) mt_X12_402 mv_X12_is rfl (by decide) dX12_verb_29 rfl k47 rfl rfl rfl (Nat.le_of_ble_eq_true rfl) rfl (Nat.le_of_ble_eq_true rfl) rfl (Nat.le_of_ble_eq_true rfl) rfl rfl ?_
    refine me_if_eq (q2 := 39) (q := 35) C dX12_verb_32 (by decide) rfl (fun c51 => ?_) (fun c51 => ?_)
    · have hf := mm_if_t c51 hf
      refine me_aload_n (q := 40) C dX12_verb_39 rfl rfl rfl ?_
      refine me_ldc_wS (i := 3) (q := 43) C dX12_verb_40 rfl rfl ?_
      refine me_iload_n (q := 44) C dX12_verb_43 rfl rfl rfl ?_
      obtain ⟨k52, hf⟩ := mm_ck_some hf
      obtain ⟨v53, g54, e55, hf⟩ := mm_cl_some hf
      refine me_callV (q := 47) (c2 := 0) (s2 := 0) (st := []) C (cX12_is_ok _ e55) mt_X12_402 mv_X12_is rfl (by decide) dX12_verb_44 rfl k52 rfl rfl rfl (Nat.le_of_ble_eq_true rfl) rfl (Nat.le_of_ble_eq_true rfl) rfl (Nat.le_of_ble_eq_true rfl) rfl rfl ?_
      refine me_if_eq (q2 := 55) (q := 50) C dX12_verb_47 (by decide) rfl (fun c56 => ?_) (fun c56 => ?_)
      · have hf := mm_if_t c56 hf
        refine me_iconst (v := (-1 : Int32)) (q := 56) C dX12_verb_55 (by decide) rfl ?_
        exact Hq14 _ _ hf
      · have hf := mm_if_f c56 hf
        refine me_bipush (v := (10 : Int32)) (q := 52) C dX12_verb_50 (by decide) rfl ?_
        refine me_goto (q := 56) C dX12_verb_52 (by decide) ?_
        exact Hq14 _ _ hf
    · have hf := mm_if_f c51 hf
      refine me_iconst (v := (1 : Int32)) (q := 36) C dX12_verb_35 (by decide) rfl ?_
      refine me_goto (q := 56) C dX12_verb_36 (by decide) ?_
      exact Hq14 _ _ hf
  · have hf := mm_if_f c46 hf
    refine me_iconst (v := (0 : Int32)) (q := 21) C dX12_verb_20 (by decide) rfl ?_
    refine me_goto (q := 56) C dX12_verb_21 (by decide) ?_
    exact Hq14 _ _ hf
set_option maxRecDepth 100000 in
set_option maxHeartbeats 4000000 in
theorem cX12_clause_L96 {X : mm_X} (C : mm_C X cX12_clause yX12_clause 14 0 0) {r : Unit} {h1 : mm_H} (hE : mm_End X 0 0 none none h1) {b0 : Nat} {b1 : Int32} (K180 : mm_H → Option (Unit × mm_H)) : ∀ (n : Nat) (x4 : Int32) (h : mm_H), fX12_clause_L96 b0 b1 K180 n x4 h = some (r, h1) → (∀ (h : mm_H), K180 h = some (r, h1) → mm_E X h 0 0 180 [some (vR (some b0)), some (vI b1), none, none, none] []) → mm_E X h 0 0 96 [some (vR (some b0)), some (vI b1), none, none, some (vI x4)] [] := by
  intro n
  induction n with
  | zero =>
    intro x4 h hf
    exact absurd (show (none : Option (Unit × mm_H)) = some (r, h1) from hf) (by simp)
  | succ n ih =>
    intro x4 h hf hk180
    have hf : fX12_clause_L96_b b0 b1 K180 (fX12_clause_L96 b0 b1 K180 n) x4 h = some (r, h1) := hf
    unfold fX12_clause_L96_b at hf
    refine me_iload (q := 98) C dX12_clause_96 rfl rfl ?_
    refine me_iconst (v := (4 : Int32)) (q := 99) C dX12_clause_98 (by decide) rfl ?_
    refine me_icmp_eq (q2 := 180) (q := 102) C dX12_clause_99 (by decide) rfl (fun c34 => ?_) (fun c34 => ?_)
    · have hf := mm_if_t c34 hf
      refine me_mask [true, true, false, false, false] (lv2 := [some (vR (some b0)), some (vI b1), none, none, none]) rfl ?_
      exact hk180 _ hf
    · have hf := mm_if_f c34 hf
      refine me_aload_n (q := 103) C dX12_clause_102 rfl rfl rfl ?_
      obtain ⟨k35, hf⟩ := mm_ck_some hf
      refine me_getI (q := 106) C dX12_clause_103 mf_X12_305 rfl rfl k35 rfl ?_
      refine me_if_ne (q2 := 180) (q := 109) C dX12_clause_106 (by decide) rfl (fun c36 => ?_) (fun c36 => ?_)
      · have hf := mm_if_t c36 hf
        refine me_mask [true, true, false, false, false] (lv2 := [some (vR (some b0)), some (vI b1), none, none, none]) rfl ?_
        exact hk180 _ hf
      · have hf := mm_if_f c36 hf
        refine me_iload (q := 111) C dX12_clause_109 rfl rfl ?_
        by_cases c37 : x4 = 0
        · have hf := mm_if_t c37 hf
          refine me_tabIn (q := 136) C dX12_clause_111 (by rw [c37]; decide) (by rw [c37]; decide) (by rw [c37]; rfl) (by decide) ?_
          refine me_aload_n (q := 137) C dX12_clause_136 rfl rfl rfl ?_
          obtain ⟨v38, g39, e40, hf⟩ := mm_cl_some hf
          refine me_callV (q := 140) (c2 := 0) (s2 := 0) (st := []) C (cX12_wantsFact_ok _ e40) mt_X12_435 mv_X12_wantsFact rfl (by decide) dX12_clause_137 rfl k35 rfl rfl rfl (Nat.le_of_ble_eq_true rfl) rfl (Nat.le_of_ble_eq_true rfl) rfl (Nat.le_of_ble_eq_true rfl) rfl rfl ?_
          refine me_istore (q := 142) (lv2 := [some (vR (some b0)), some (vI b1), none, none, some (vI v38)]) C dX12_clause_140 (Nat.le_of_ble_eq_true rfl) rfl rfl rfl ?_
          refine me_goto (q := 96) C dX12_clause_142 (by decide) ?_
          exact ih _ _ hf hk180
        have hf := mm_if_f c37 hf
        by_cases c41 : x4 = 1
        · have hf := mm_if_t c41 hf
          refine me_tabIn (q := 145) C dX12_clause_111 (by rw [c41]; decide) (by rw [c41]; decide) (by rw [c41]; rfl) (by decide) ?_
          refine me_aload_n (q := 146) C dX12_clause_145 rfl rfl rfl ?_
          obtain ⟨v42, g43, e44, hf⟩ := mm_cl_some hf
          refine me_callV (q := 149) (c2 := 0) (s2 := 0) (st := []) C (cX12_value_ok _ e44) mt_X12_438 mv_X12_value rfl (by decide) dX12_clause_146 rfl k35 rfl rfl rfl (Nat.le_of_ble_eq_true rfl) rfl (Nat.le_of_ble_eq_true rfl) rfl (Nat.le_of_ble_eq_true rfl) rfl rfl ?_
          obtain ⟨q46, eq46, hf⟩ := mm_jn_some hf
          have Hq46 : ∀ (v45 : Int32), q46 v45 = some (r, h1) → mm_E X g43 0 0 157 [some (vR (some b0)), some (vI b1), none, none, none] [vI v45] := by
            intro v45 hf
            subst eq46
            refine me_istore (q := 159) (lv2 := [some (vR (some b0)), some (vI b1), none, none, some (vI v45)]) C dX12_clause_157 (Nat.le_of_ble_eq_true rfl) rfl rfl rfl ?_
            refine me_goto (q := 96) C dX12_clause_159 (by decide) ?_
            exact ih _ _ hf hk180
          refine me_if_eq (q2 := 156) (q := 152) C dX12_clause_149 (by decide) rfl (fun c47 => ?_) (fun c47 => ?_)
          · have hf := mm_if_t c47 hf
            refine me_iconst (v := (1 : Int32)) (q := 157) C dX12_clause_156 (by decide) rfl ?_
            refine me_mask [true, true, false, false, false] (lv2 := [some (vR (some b0)), some (vI b1), none, none, none]) rfl ?_
            exact Hq46 _ hf
          · have hf := mm_if_f c47 hf
            refine me_iconst (v := (2 : Int32)) (q := 153) C dX12_clause_152 (by decide) rfl ?_
            refine me_goto (q := 157) C dX12_clause_153 (by decide) ?_
            refine me_mask [true, true, false, false, false] (lv2 := [some (vR (some b0)), some (vI b1), none, none, none]) rfl ?_
            exact Hq46 _ hf
        have hf := mm_if_f c41 hf
        by_cases c48 : x4 = 2
        · have hf := mm_if_t c48 hf
          refine me_tabIn (q := 162) C dX12_clause_111 (by rw [c48]; decide) (by rw [c48]; decide) (by rw [c48]; rfl) (by decide) ?_
          refine me_aload_n (q := 163) C dX12_clause_162 rfl rfl rfl ?_
          obtain ⟨v49, g50, e51, hf⟩ := mm_cl_some hf
          refine me_callV (q := 166) (c2 := 0) (s2 := 0) (st := []) C (cX12_hasValue_ok _ e51) mt_X12_442 mv_X12_hasValue rfl (by decide) dX12_clause_163 rfl k35 rfl rfl rfl (Nat.le_of_ble_eq_true rfl) rfl (Nat.le_of_ble_eq_true rfl) rfl (Nat.le_of_ble_eq_true rfl) rfl rfl ?_
          refine me_istore (q := 168) (lv2 := [some (vR (some b0)), some (vI b1), none, none, some (vI v49)]) C dX12_clause_166 (Nat.le_of_ble_eq_true rfl) rfl rfl rfl ?_
          refine me_goto (q := 96) C dX12_clause_168 (by decide) ?_
          exact ih _ _ hf hk180
        have hf := mm_if_f c48 hf
        refine me_tabOut (q := 171) C dX12_clause_111 ?_ (by decide) ?_
        · by_cases hz : x4.toInt < 0 ∨ 2 < x4.toInt
          · exact hz
          · exfalso
            have hw : x4.toInt = 0 ∨ x4.toInt = 1 ∨ x4.toInt = 2 := by omega
            rcases hw with hw | hw | hw
            · exact c37 (mm_sw hw)
            · exact c41 (mm_sw hw)
            · exact c48 (mm_sw hw)
        · refine me_aload_n (q := 172) C dX12_clause_171 rfl rfl rfl ?_
          obtain ⟨v52, g53, e54, hf⟩ := mm_cl_some hf
          refine me_callV (q := 175) (c2 := 0) (s2 := 0) (st := []) C (cX12_hasFact_ok _ e54) mt_X12_445 mv_X12_hasFact rfl (by decide) dX12_clause_172 rfl k35 rfl rfl rfl (Nat.le_of_ble_eq_true rfl) rfl (Nat.le_of_ble_eq_true rfl) rfl (Nat.le_of_ble_eq_true rfl) rfl rfl ?_
          refine me_istore (q := 177) (lv2 := [some (vR (some b0)), some (vI b1), none, none, some (vI v52)]) C dX12_clause_175 (Nat.le_of_ble_eq_true rfl) rfl rfl rfl ?_
          refine me_goto (q := 96) C dX12_clause_177 (by decide) ?_
          exact ih _ _ hf hk180
set_option maxRecDepth 100000 in
set_option maxHeartbeats 4000000 in
theorem cX12_clause_ok (l : Launch) {a0 : Nat} {h : mm_H} {r : Unit} {h1 : mm_H} (hf : fX12_clause a0 h = some (r, h1)) : mm_M l yX12_clause cX12_clause 5 none 14 0 0 [vR (some a0)] h none h1 := by
  refine mm_enter (lv := [some (vR (some a0)), none, none, none, none]) (by decide) rfl (Nat.le_of_ble_eq_true rfl) ?_
  intro X hl C hE
  subst hl
  unfold fX12_clause at hf
  refine me_bipush (v := (10 : Int32)) (q := 2) C dX12_clause_0 (by decide) rfl ?_
  refine me_aload_n (q := 3) C dX12_clause_2 rfl rfl rfl ?_
  obtain ⟨k1, hf⟩ := mm_ck_some hf
  refine me_getI (q := 6) C dX12_clause_3 mf_X12_356 rfl rfl k1 rfl ?_
  refine me_imul (q := 7) C dX12_clause_6 rfl ?_
  refine me_aload_n (q := 8) C dX12_clause_7 rfl rfl rfl ?_
  refine me_getR (q := 11) C dX12_clause_8 mf_X12_60 rfl rfl k1 rfl ?_
  refine me_aload_n (q := 12) C dX12_clause_11 rfl rfl rfl ?_
  refine me_getI (q := 15) C dX12_clause_12 mf_X12_356 rfl rfl k1 rfl ?_
  obtain ⟨u2, eu2, hf⟩ := mm_rf_some hf
  obtain ⟨k3, hf⟩ := mm_ck_some hf
  obtain ⟨k4, hf⟩ := mm_ck_some hf
  refine me_iald (q := 16) C dX12_clause_15 eu2 k3 k4 rfl ?_
  refine me_iadd (q := 17) C dX12_clause_16 rfl ?_
  obtain ⟨v5, ev5, hf⟩ := mm_lt_some hf
  refine me_topI ev5 ?_
  refine me_istore_n (q := 18) (lv2 := [some (vR (some a0)), some (vI v5), none, none, none]) C dX12_clause_17 rfl (Nat.le_of_ble_eq_true rfl) rfl rfl rfl ?_
  refine me_aload_n (q := 19) C dX12_clause_18 rfl rfl rfl ?_
  obtain ⟨v6, g7, e8, hf⟩ := mm_cl_some hf
  refine me_callV (q := 22) (c2 := 0) (s2 := 0) (st := []) C (cX12_verb_ok _ e8) mt_X12_430 mv_X12_verb rfl (by decide) dX12_clause_19 rfl k1 rfl rfl rfl (Nat.le_of_ble_eq_true rfl) rfl (Nat.le_of_ble_eq_true rfl) rfl (Nat.le_of_ble_eq_true rfl) rfl rfl ?_
  refine me_istore_n (q := 23) (lv2 := [some (vR (some a0)), some (vI v5), some (vI v6), none, none]) C dX12_clause_22 rfl (Nat.le_of_ble_eq_true rfl) rfl rfl rfl ?_
  refine me_aload_n (q := 24) C dX12_clause_23 rfl rfl rfl ?_
  obtain ⟨k9, hf⟩ := mm_ck_some hf
  refine me_getI (q := 27) C dX12_clause_24 mf_X12_305 rfl rfl k9 rfl ?_
  refine me_if_le (q2 := 31) (q := 30) C dX12_clause_27 (by decide) rfl (fun c10 => ?_) (fun c10 => ?_)
  · have hf := mm_if_t c10 hf
    refine me_aload_n (q := 32) C dX12_clause_31 rfl rfl rfl ?_
    obtain ⟨_, g11, e12, hf⟩ := mm_cl_some hf
    refine me_callV (q := 35) (c2 := 0) (s2 := 0) (st := []) C (cX12_blanks_ok _ e12) mt_X12_377 mv_X12_blanks rfl (by decide) dX12_clause_32 rfl k9 rfl rfl rfl (Nat.le_of_ble_eq_true rfl) rfl (Nat.le_of_ble_eq_true rfl) rfl (Nat.le_of_ble_eq_true rfl) rfl rfl ?_
    refine me_aload_n (q := 36) C dX12_clause_35 rfl rfl rfl ?_
    obtain ⟨k13, hf⟩ := mm_ck_some hf
    obtain ⟨v14, g15, e16, hf⟩ := mm_cl_some hf
    refine me_callV (q := 39) (c2 := 0) (s2 := 0) (st := []) C (cX12_wordEnd_ok _ e16) mt_X12_395 mv_X12_wordEnd rfl (by decide) dX12_clause_36 rfl k13 rfl rfl rfl (Nat.le_of_ble_eq_true rfl) rfl (Nat.le_of_ble_eq_true rfl) rfl (Nat.le_of_ble_eq_true rfl) rfl rfl ?_
    refine me_istore_n (q := 40) (lv2 := [some (vR (some a0)), some (vI v5), some (vI v6), some (vI v14), none]) C dX12_clause_39 rfl (Nat.le_of_ble_eq_true rfl) rfl rfl rfl ?_
    refine me_aload_n (q := 41) C dX12_clause_40 rfl rfl rfl ?_
    refine me_ldc_wS (i := 4) (q := 44) C dX12_clause_41 rfl rfl ?_
    refine me_iload_n (q := 45) C dX12_clause_44 rfl rfl rfl ?_
    obtain ⟨k17, hf⟩ := mm_ck_some hf
    obtain ⟨v18, g19, e20, hf⟩ := mm_cl_some hf
    refine me_callV (q := 48) (c2 := 0) (s2 := 0) (st := []) C (cX12_is_ok _ e20) mt_X12_402 mv_X12_is rfl (by decide) dX12_clause_45 rfl k17 rfl rfl rfl (Nat.le_of_ble_eq_true rfl) rfl (Nat.le_of_ble_eq_true rfl) rfl (Nat.le_of_ble_eq_true rfl) rfl rfl ?_
    refine me_if_ne (q2 := 61) (q := 51) C dX12_clause_48 (by decide) rfl (fun c21 => ?_) (fun c21 => ?_)
    · have hf := mm_if_t c21 hf
      refine me_aload_n (q := 62) C dX12_clause_61 rfl rfl rfl ?_
      refine me_iload_n (q := 63) C dX12_clause_62 rfl rfl rfl ?_
      obtain ⟨k22, hf⟩ := mm_ck_some hf
      obtain ⟨g23, eg23, hf⟩ := mm_lt_some hf
      refine me_putI (q := 66) C eg23 dX12_clause_63 mf_X12_308 mp_X12_13_18 rfl (by decide) rfl k22 rfl ?_
      refine me_aload_n (q := 67) C dX12_clause_66 rfl rfl rfl ?_
      refine me_getR (q := 70) C dX12_clause_67 mf_X12_63 rfl rfl (mm_kI eg23 k22) rfl ?_
      refine me_iload_n (q := 71) C dX12_clause_70 rfl rfl rfl ?_
      refine me_iload_n (q := 72) C dX12_clause_71 rfl rfl rfl ?_
      obtain ⟨u24, eu24, hf⟩ := mm_rf_some hf
      obtain ⟨k25, hf⟩ := mm_ck_some hf
      obtain ⟨k26, hf⟩ := mm_ck_some hf
      obtain ⟨g27, eg27, hf⟩ := mm_lt_some hf
      refine me_iastH (q := 73) C eg27 dX12_clause_72 eu24 k25 k26 rfl ?_
      refine me_aload_n (q := 74) C dX12_clause_73 rfl rfl rfl ?_
      refine me_getR (q := 77) C dX12_clause_74 mf_X12_66 rfl rfl (mm_kI eg27 (mm_kI eg23 k22)) rfl ?_
      refine me_iload_n (q := 78) C dX12_clause_77 rfl rfl rfl ?_
      refine me_aload_n (q := 79) C dX12_clause_78 rfl rfl rfl ?_
      refine me_getI (q := 82) C dX12_clause_79 mf_X12_359 rfl rfl (mm_kI eg27 (mm_kI eg23 k22)) rfl ?_
      obtain ⟨u28, eu28, hf⟩ := mm_rf_some hf
      obtain ⟨k29, hf⟩ := mm_ck_some hf
      obtain ⟨k30, hf⟩ := mm_ck_some hf
      obtain ⟨g31, eg31, hf⟩ := mm_lt_some hf
      refine me_iastH (q := 83) C eg31 dX12_clause_82 eu28 k29 k30 rfl ?_
      refine me_aload_n (q := 84) C dX12_clause_83 rfl rfl rfl ?_
      refine me_iconst (v := (0 : Int32)) (q := 85) C dX12_clause_84 (by decide) rfl ?_
      obtain ⟨g32, eg32, hf⟩ := mm_lt_some hf
      refine me_putI (q := 88) C eg32 dX12_clause_85 mf_X12_362 mp_X12_13_34 rfl (by decide) rfl (mm_kI eg31 (mm_kI eg27 (mm_kI eg23 k22))) rfl ?_
      refine me_aload_n (q := 89) C dX12_clause_88 rfl rfl rfl ?_
      refine me_iconst (v := (0 : Int32)) (q := 90) C dX12_clause_89 (by decide) rfl ?_
      obtain ⟨g33, eg33, hf⟩ := mm_lt_some hf
      refine me_putI (q := 93) C eg33 dX12_clause_90 mf_X12_365 mp_X12_13_21 rfl (by decide) rfl (mm_kI eg32 (mm_kI eg31 (mm_kI eg27 (mm_kI eg23 k22)))) rfl ?_
      refine me_iconst (v := (0 : Int32)) (q := 94) C dX12_clause_93 (by decide) rfl ?_
      refine me_istore (q := 96) (lv2 := [some (vR (some a0)), some (vI v5), some (vI v6), some (vI v14), some (vI (0 : Int32))]) C dX12_clause_94 (Nat.le_of_ble_eq_true rfl) rfl rfl rfl ?_
      refine me_mask [true, true, false, false, true] (lv2 := [some (vR (some a0)), some (vI v5), none, none, some (vI (0 : Int32))]) rfl ?_
      refine cX12_clause_L96 C hE _ _ _ _ hf ?_
      · intro g55 hf
        refine me_aload_n (q := 181) C dX12_clause_180 rfl rfl rfl ?_
        obtain ⟨k56, hf⟩ := mm_ck_some hf
        refine me_getR (q := 184) C dX12_clause_181 mf_X12_69 rfl rfl k56 rfl ?_
        refine me_iload_n (q := 185) C dX12_clause_184 rfl rfl rfl ?_
        refine me_aload_n (q := 186) C dX12_clause_185 rfl rfl rfl ?_
        refine me_getI (q := 189) C dX12_clause_186 mf_X12_359 rfl rfl k56 rfl ?_
        obtain ⟨u57, eu57, hf⟩ := mm_rf_some hf
        obtain ⟨k58, hf⟩ := mm_ck_some hf
        obtain ⟨k59, hf⟩ := mm_ck_some hf
        obtain ⟨g60, eg60, hf⟩ := mm_lt_some hf
        refine me_iastH (q := 190) C eg60 dX12_clause_189 eu57 k58 k59 rfl ?_
        refine me_aload_n (q := 191) C dX12_clause_190 rfl rfl rfl ?_
        refine me_getR (q := 194) C dX12_clause_191 mf_X12_60 rfl rfl (mm_kI eg60 k56) rfl ?_
        refine me_aload_n (q := 195) C dX12_clause_194 rfl rfl rfl ?_
        refine me_getI (q := 198) C dX12_clause_195 mf_X12_356 rfl rfl (mm_kI eg60 k56) rfl ?_
        refine me_dup2_11 (q := 199) C dX12_clause_198 rfl rfl rfl ?_
        obtain ⟨u61, eu61, hf⟩ := mm_rf_some hf
        obtain ⟨k62, hf⟩ := mm_ck_some hf
        obtain ⟨k63, hf⟩ := mm_ck_some hf
        refine me_iald (q := 200) C dX12_clause_199 eu61 k62 k63 rfl ?_
        refine me_iconst (v := (1 : Int32)) (q := 201) C dX12_clause_200 (by decide) rfl ?_
        refine me_iadd (q := 202) C dX12_clause_201 rfl ?_
        obtain ⟨k64, hf⟩ := mm_ck_some hf
        obtain ⟨g65, eg65, hf⟩ := mm_lt_some hf
        refine me_iastH (q := 203) C eg65 dX12_clause_202 eu61 k62 k64 rfl ?_
        exact me_vret C hE (Nat.le_of_ble_eq_true rfl) (Nat.le_of_ble_eq_true rfl) rfl dX12_clause_203 (mm_ru hf)
    · have hf := mm_if_f c21 hf
      refine me_aload_n (q := 52) C dX12_clause_51 rfl rfl rfl ?_
      refine me_iconst (v := (0 : Int32)) (q := 53) C dX12_clause_52 (by decide) rfl ?_
      refine me_aload_n (q := 54) C dX12_clause_53 rfl rfl rfl ?_
      obtain ⟨k66, hf⟩ := mm_ck_some hf
      refine me_getI (q := 57) C dX12_clause_54 mf_X12_308 rfl rfl k66 rfl ?_
      obtain ⟨_, g67, e68, hf⟩ := mm_cl_some hf
      refine me_callV (q := 60) (c2 := 0) (s2 := 0) (st := []) C (cX12_fails_ok _ e68) mt_X12_352 mv_X12_fails rfl (by decide) dX12_clause_57 rfl k66 rfl rfl rfl (Nat.le_of_ble_eq_true rfl) rfl (Nat.le_of_ble_eq_true rfl) rfl (Nat.le_of_ble_eq_true rfl) rfl rfl ?_
      exact me_vret C hE (Nat.le_of_ble_eq_true rfl) (Nat.le_of_ble_eq_true rfl) rfl dX12_clause_60 (mm_ru hf)
  · have hf := mm_if_f c10 hf
    exact me_vret C hE (Nat.le_of_ble_eq_true rfl) (Nat.le_of_ble_eq_true rfl) rfl dX12_clause_30 (mm_ru hf)
set_option maxRecDepth 100000 in
set_option maxHeartbeats 4000000 in
theorem cX12_law_L71 {X : mm_X} (C : mm_C X cX12_law yX12_law 16 0 0) {r : Int32} {h1 : mm_H} (hE : mm_End X 0 0 (some .int) (some (vI r)) h1) {b0 : Nat} {b1 : Int32} {b2 : Int32} (K123 : mm_H → Option (Int32 × mm_H)) : ∀ (n : Nat) (x3 : Int32) (h : mm_H), fX12_law_L71 b0 b1 b2 K123 n x3 h = some (r, h1) → (∀ (h : mm_H), K123 h = some (r, h1) → mm_E X h 0 0 123 [some (vR (some b0)), some (vI b1), some (vI b2), none] []) → mm_E X h 0 0 71 [some (vR (some b0)), some (vI b1), some (vI b2), some (vI x3)] [] := by
  intro n
  induction n with
  | zero =>
    intro x3 h hf
    exact absurd (show (none : Option (Int32 × mm_H)) = some (r, h1) from hf) (by simp)
  | succ n ih =>
    intro x3 h hf hk123
    have hf : fX12_law_L71_b b0 b1 b2 K123 (fX12_law_L71 b0 b1 b2 K123 n) x3 h = some (r, h1) := hf
    unfold fX12_law_L71_b at hf
    refine me_iload_n (q := 72) C dX12_law_71 rfl rfl rfl ?_
    refine me_if_eq (q2 := 123) (q := 75) C dX12_law_72 (by decide) rfl (fun c18 => ?_) (fun c18 => ?_)
    · have hf := mm_if_t c18 hf
      refine me_mask [true, true, true, false] (lv2 := [some (vR (some b0)), some (vI b1), some (vI b2), none]) rfl ?_
      exact hk123 _ hf
    · have hf := mm_if_f c18 hf
      refine me_aload_n (q := 76) C dX12_law_75 rfl rfl rfl ?_
      obtain ⟨k19, hf⟩ := mm_ck_some hf
      refine me_getI (q := 79) C dX12_law_76 mf_X12_305 rfl rfl k19 rfl ?_
      refine me_if_ne (q2 := 123) (q := 82) C dX12_law_79 (by decide) rfl (fun c20 => ?_) (fun c20 => ?_)
      · have hf := mm_if_t c20 hf
        refine me_mask [true, true, true, false] (lv2 := [some (vR (some b0)), some (vI b1), some (vI b2), none]) rfl ?_
        exact hk123 _ hf
      · have hf := mm_if_f c20 hf
        refine me_aload_n (q := 83) C dX12_law_82 rfl rfl rfl ?_
        obtain ⟨_, g21, e22, hf⟩ := mm_cl_some hf
        refine me_callV (q := 86) (c2 := 0) (s2 := 0) (st := []) C (cX12_clause_ok _ e22) mt_X12_448 mv_X12_clause rfl (by decide) dX12_law_83 rfl k19 rfl rfl rfl (Nat.le_of_ble_eq_true rfl) rfl (Nat.le_of_ble_eq_true rfl) rfl (Nat.le_of_ble_eq_true rfl) rfl rfl ?_
        refine me_aload_n (q := 87) C dX12_law_86 rfl rfl rfl ?_
        obtain ⟨k23, hf⟩ := mm_ck_some hf
        refine me_getI (q := 90) C dX12_law_87 mf_X12_305 rfl rfl k23 rfl ?_
        obtain ⟨q25, eq25, hf⟩ := mm_jn_some hf
        have Hq25 : ∀ (v24 : Int32), q25 v24 = some (r, h1) → mm_E X g21 0 0 109 [some (vR (some b0)), some (vI b1), some (vI b2), none] [vI v24] := by
          intro v24 hf
          subst eq25
          refine me_istore_n (q := 110) (lv2 := [some (vR (some b0)), some (vI b1), some (vI b2), some (vI v24)]) C dX12_law_109 rfl (Nat.le_of_ble_eq_true rfl) rfl rfl rfl ?_
          refine me_aload_n (q := 111) C dX12_law_110 rfl rfl rfl ?_
          refine me_dup (q := 112) C dX12_law_111 rfl rfl ?_
          refine me_getI (q := 115) C dX12_law_112 mf_X12_308 rfl rfl k23 rfl ?_
          refine me_iconst (v := (1 : Int32)) (q := 116) C dX12_law_115 (by decide) rfl ?_
          refine me_iadd (q := 117) C dX12_law_116 rfl ?_
          obtain ⟨g26, eg26, hf⟩ := mm_lt_some hf
          refine me_putI (q := 120) C eg26 dX12_law_117 mf_X12_308 mp_X12_13_18 rfl (by decide) rfl k23 rfl ?_
          refine me_goto (q := 71) C dX12_law_120 (by decide) ?_
          exact ih _ _ hf hk123
        obtain ⟨q27, eq27, hf⟩ := mm_jn_some hf
        have Hq27 : ∀ (_u : Unit), q27 _u = some (r, h1) → mm_E X g21 0 0 108 [some (vR (some b0)), some (vI b1), some (vI b2), none] [] := by
          intro _u hf
          subst eq27
          refine me_iconst (v := (0 : Int32)) (q := 109) C dX12_law_108 (by decide) rfl ?_
          exact Hq25 _ hf
        refine me_if_ne (q2 := 108) (q := 93) C dX12_law_90 (by decide) rfl (fun c28 => ?_) (fun c28 => ?_)
        · have hf := mm_if_t c28 hf
          refine me_mask [true, true, true, false] (lv2 := [some (vR (some b0)), some (vI b1), some (vI b2), none]) rfl ?_
          exact Hq27 () hf
        · have hf := mm_if_f c28 hf
          refine me_aload_n (q := 94) C dX12_law_93 rfl rfl rfl ?_
          refine me_getI (q := 97) C dX12_law_94 mf_X12_308 rfl rfl k23 rfl ?_
          refine me_aload_n (q := 98) C dX12_law_97 rfl rfl rfl ?_
          refine me_getI (q := 101) C dX12_law_98 mf_X12_298 rfl rfl k23 rfl ?_
          refine me_icmp_ge (q2 := 108) (q := 104) C dX12_law_101 (by decide) rfl (fun c29 => ?_) (fun c29 => ?_)
          · have hf := mm_if_t c29 hf
            refine me_mask [true, true, true, false] (lv2 := [some (vR (some b0)), some (vI b1), some (vI b2), none]) rfl ?_
            exact Hq27 () hf
          · have hf := mm_if_f c29 hf
            refine me_iconst (v := (1 : Int32)) (q := 105) C dX12_law_104 (by decide) rfl ?_
            refine me_goto (q := 109) C dX12_law_105 (by decide) ?_
            refine me_mask [true, true, true, false] (lv2 := [some (vR (some b0)), some (vI b1), some (vI b2), none]) rfl ?_
            exact Hq25 _ hf
set_option maxRecDepth 100000 in
set_option maxHeartbeats 4000000 in
theorem cX12_law_ok (l : Launch) {a0 : Nat} {a1 : Int32} {a2 : Int32} {h : mm_H} {r : Int32} {h1 : mm_H} (hf : fX12_law a0 a1 a2 h = some (r, h1)) : mm_M l yX12_law cX12_law 4 (some .int) 16 0 0 [vR (some a0), vI a1, vI a2] h (some (vI r)) h1 := by
  refine mm_enter (lv := [some (vR (some a0)), some (vI a1), some (vI a2), none]) (by decide) rfl (Nat.le_of_ble_eq_true rfl) ?_
  intro X hl C hE
  subst hl
  unfold fX12_law at hf
  refine me_aload_n (q := 1) C dX12_law_0 rfl rfl rfl ?_
  obtain ⟨k1, hf⟩ := mm_ck_some hf
  refine me_getI (q := 4) C dX12_law_1 mf_X12_356 rfl rfl k1 rfl ?_
  refine me_bipush (v := (30 : Int32)) (q := 6) C dX12_law_4 (by decide) rfl ?_
  refine me_icmp_eq (q2 := 37) (q := 9) C dX12_law_6 (by decide) rfl (fun c2 => ?_) (fun c2 => ?_)
  · have hf := mm_if_t c2 hf
    refine me_iconst (v := (-1 : Int32)) (q := 38) C dX12_law_37 (by decide) rfl ?_
    exact me_iret C hE (Nat.le_of_ble_eq_true rfl) (Nat.le_of_ble_eq_true rfl) rfl dX12_law_38 (mm_ri hf)
  · have hf := mm_if_f c2 hf
    refine me_iload_n (q := 10) C dX12_law_9 rfl rfl rfl ?_
    refine me_iconst (v := (0 : Int32)) (q := 11) C dX12_law_10 (by decide) rfl ?_
    refine me_iconst (v := (2 : Int32)) (q := 12) C dX12_law_11 (by decide) rfl ?_
    obtain ⟨v3, g4, e5, hf⟩ := mm_cl_some hf
    refine me_callS (q := 15) (c2 := 0) (s2 := 0) (st := []) C (cX12_in_ok _ e5) mt_X12_269 ms_X12_in dX12_law_12 rfl rfl rfl (Nat.le_of_ble_eq_true rfl) rfl (Nat.le_of_ble_eq_true rfl) rfl (Nat.le_of_ble_eq_true rfl) rfl rfl ?_
    refine me_if_eq (q2 := 37) (q := 18) C dX12_law_15 (by decide) rfl (fun c6 => ?_) (fun c6 => ?_)
    · have hf := mm_if_t c6 hf
      refine me_iconst (v := (-1 : Int32)) (q := 38) C dX12_law_37 (by decide) rfl ?_
      exact me_iret C hE (Nat.le_of_ble_eq_true rfl) (Nat.le_of_ble_eq_true rfl) rfl dX12_law_38 (mm_ri hf)
    · have hf := mm_if_f c6 hf
      refine me_iload_n (q := 19) C dX12_law_18 rfl rfl rfl ?_
      refine me_iconst (v := (1 : Int32)) (q := 20) C dX12_law_19 (by decide) rfl ?_
      obtain ⟨q8, eq8, hf⟩ := mm_jn_some hf
      have Hq8 : ∀ (g7 : mm_H), q8 g7 = some (r, h1) → mm_E X g7 0 0 39 [some (vR (some a0)), some (vI a1), some (vI a2), none] [] := by
        intro g7 hf
        subst eq8
        refine me_aload_n (q := 40) C dX12_law_39 rfl rfl rfl ?_
        refine me_iconst (v := (0 : Int32)) (q := 41) C dX12_law_40 (by decide) rfl ?_
        obtain ⟨k9, hf⟩ := mm_ck_some hf
        obtain ⟨g10, eg10, hf⟩ := mm_lt_some hf
        refine me_putI (q := 44) C eg10 dX12_law_41 mf_X12_308 mp_X12_13_18 rfl (by decide) rfl k9 rfl ?_
        refine me_aload_n (q := 45) C dX12_law_44 rfl rfl rfl ?_
        refine me_iconst (v := (0 : Int32)) (q := 46) C dX12_law_45 (by decide) rfl ?_
        obtain ⟨g11, eg11, hf⟩ := mm_lt_some hf
        refine me_putI (q := 49) C eg11 dX12_law_46 mf_X12_305 mp_X12_13_20 rfl (by decide) rfl (mm_kI eg10 k9) rfl ?_
        refine me_aload_n (q := 50) C dX12_law_49 rfl rfl rfl ?_
        refine me_iconst (v := (0 : Int32)) (q := 51) C dX12_law_50 (by decide) rfl ?_
        obtain ⟨g12, eg12, hf⟩ := mm_lt_some hf
        refine me_putI (q := 54) C eg12 dX12_law_51 mf_X12_374 mp_X12_13_22 rfl (by decide) rfl (mm_kI eg11 (mm_kI eg10 k9)) rfl ?_
        refine me_aload_n (q := 55) C dX12_law_54 rfl rfl rfl ?_
        refine me_iconst (v := (0 : Int32)) (q := 56) C dX12_law_55 (by decide) rfl ?_
        obtain ⟨g13, eg13, hf⟩ := mm_lt_some hf
        refine me_putI (q := 59) C eg13 dX12_law_56 mf_X12_359 mp_X12_13_33 rfl (by decide) rfl (mm_kI eg12 (mm_kI eg11 (mm_kI eg10 k9))) rfl ?_
        refine me_aload_n (q := 60) C dX12_law_59 rfl rfl rfl ?_
        refine me_getR (q := 63) C dX12_law_60 mf_X12_60 rfl rfl (mm_kI eg13 (mm_kI eg12 (mm_kI eg11 (mm_kI eg10 k9)))) rfl ?_
        refine me_aload_n (q := 64) C dX12_law_63 rfl rfl rfl ?_
        refine me_getI (q := 67) C dX12_law_64 mf_X12_356 rfl rfl (mm_kI eg13 (mm_kI eg12 (mm_kI eg11 (mm_kI eg10 k9)))) rfl ?_
        refine me_iconst (v := (0 : Int32)) (q := 68) C dX12_law_67 (by decide) rfl ?_
        obtain ⟨u14, eu14, hf⟩ := mm_rf_some hf
        obtain ⟨k15, hf⟩ := mm_ck_some hf
        obtain ⟨k16, hf⟩ := mm_ck_some hf
        obtain ⟨g17, eg17, hf⟩ := mm_lt_some hf
        refine me_iastH (q := 69) C eg17 dX12_law_68 eu14 k15 k16 rfl ?_
        refine me_iconst (v := (1 : Int32)) (q := 70) C dX12_law_69 (by decide) rfl ?_
        refine me_istore_n (q := 71) (lv2 := [some (vR (some a0)), some (vI a1), some (vI a2), some (vI (1 : Int32))]) C dX12_law_70 rfl (Nat.le_of_ble_eq_true rfl) rfl rfl rfl ?_
        refine cX12_law_L71 C hE _ _ _ _ hf ?_
        · intro g30 hf
          refine me_aload_n (q := 124) C dX12_law_123 rfl rfl rfl ?_
          refine me_iconst (v := (0 : Int32)) (q := 125) C dX12_law_124 (by decide) rfl ?_
          obtain ⟨k31, hf⟩ := mm_ck_some hf
          obtain ⟨g32, eg32, hf⟩ := mm_lt_some hf
          refine me_putI (q := 128) C eg32 dX12_law_125 mf_X12_298 mp_X12_13_17 rfl (by decide) rfl k31 rfl ?_
          refine me_aload_n (q := 129) C dX12_law_128 rfl rfl rfl ?_
          refine me_getI (q := 132) C dX12_law_129 mf_X12_305 rfl rfl (mm_kI eg32 k31) rfl ?_
          refine me_if_le (q2 := 153) (q := 135) C dX12_law_132 (by decide) rfl (fun c33 => ?_) (fun c33 => ?_)
          · have hf := mm_if_t c33 hf
            refine me_aload_n (q := 154) C dX12_law_153 rfl rfl rfl ?_
            refine me_getR (q := 157) C dX12_law_154 mf_X12_51 rfl rfl (mm_kI eg32 k31) rfl ?_
            refine me_aload_n (q := 158) C dX12_law_157 rfl rfl rfl ?_
            refine me_getI (q := 161) C dX12_law_158 mf_X12_356 rfl rfl (mm_kI eg32 k31) rfl ?_
            refine me_iload_n (q := 162) C dX12_law_161 rfl rfl rfl ?_
            obtain ⟨u34, eu34, hf⟩ := mm_rf_some hf
            obtain ⟨k35, hf⟩ := mm_ck_some hf
            obtain ⟨k36, hf⟩ := mm_ck_some hf
            obtain ⟨g37, eg37, hf⟩ := mm_lt_some hf
            refine me_iastH (q := 163) C eg37 dX12_law_162 eu34 k35 k36 rfl ?_
            refine me_aload_n (q := 164) C dX12_law_163 rfl rfl rfl ?_
            refine me_getR (q := 167) C dX12_law_164 mf_X12_57 rfl rfl (mm_kI eg37 (mm_kI eg32 k31)) rfl ?_
            refine me_aload_n (q := 168) C dX12_law_167 rfl rfl rfl ?_
            refine me_getI (q := 171) C dX12_law_168 mf_X12_356 rfl rfl (mm_kI eg37 (mm_kI eg32 k31)) rfl ?_
            refine me_aload_n (q := 172) C dX12_law_171 rfl rfl rfl ?_
            refine me_getI (q := 175) C dX12_law_172 mf_X12_273 rfl rfl (mm_kI eg37 (mm_kI eg32 k31)) rfl ?_
            obtain ⟨u38, eu38, hf⟩ := mm_rf_some hf
            obtain ⟨k39, hf⟩ := mm_ck_some hf
            obtain ⟨k40, hf⟩ := mm_ck_some hf
            obtain ⟨g41, eg41, hf⟩ := mm_lt_some hf
            refine me_iastH (q := 176) C eg41 dX12_law_175 eu38 k39 k40 rfl ?_
            refine me_aload_n (q := 177) C dX12_law_176 rfl rfl rfl ?_
            refine me_getR (q := 180) C dX12_law_177 mf_X12_54 rfl rfl (mm_kI eg41 (mm_kI eg37 (mm_kI eg32 k31))) rfl ?_
            refine me_aload_n (q := 181) C dX12_law_180 rfl rfl rfl ?_
            refine me_getI (q := 184) C dX12_law_181 mf_X12_356 rfl rfl (mm_kI eg41 (mm_kI eg37 (mm_kI eg32 k31))) rfl ?_
            refine me_iload_n (q := 185) C dX12_law_184 rfl rfl rfl ?_
            obtain ⟨q43, eq43, hf⟩ := mm_jn_some hf
            have Hq43 : ∀ (v42 : Int32), q43 v42 = some (r, h1) → mm_E X g41 0 0 205 [some (vR (some a0)), none, none, none] [vI v42, vI (mm_i g41 a0 23), vR (mm_r g41 a0 25)] := by
              intro v42 hf
              subst eq43
              obtain ⟨u44, eu44, hf⟩ := mm_rf_some hf
              obtain ⟨k45, hf⟩ := mm_ck_some hf
              obtain ⟨k46, hf⟩ := mm_ck_some hf
              obtain ⟨g47, eg47, hf⟩ := mm_lt_some hf
              refine me_iastH (q := 206) C eg47 dX12_law_205 eu44 k45 k46 rfl ?_
              refine me_aload_n (q := 207) C dX12_law_206 rfl rfl rfl ?_
              refine me_dup (q := 208) C dX12_law_207 rfl rfl ?_
              refine me_getI (q := 211) C dX12_law_208 mf_X12_356 rfl rfl (mm_kI eg47 (mm_kI eg41 (mm_kI eg37 (mm_kI eg32 k31)))) rfl ?_
              refine me_iconst (v := (1 : Int32)) (q := 212) C dX12_law_211 (by decide) rfl ?_
              refine me_iadd (q := 213) C dX12_law_212 rfl ?_
              obtain ⟨g48, eg48, hf⟩ := mm_lt_some hf
              refine me_putI (q := 216) C eg48 dX12_law_213 mf_X12_356 mp_X12_13_23 rfl (by decide) rfl (mm_kI eg47 (mm_kI eg41 (mm_kI eg37 (mm_kI eg32 k31)))) rfl ?_
              refine me_aload_n (q := 217) C dX12_law_216 rfl rfl rfl ?_
              refine me_getI (q := 220) C dX12_law_217 mf_X12_356 rfl rfl (mm_kI eg48 (mm_kI eg47 (mm_kI eg41 (mm_kI eg37 (mm_kI eg32 k31))))) rfl ?_
              refine me_iconst (v := (1 : Int32)) (q := 221) C dX12_law_220 (by decide) rfl ?_
              refine me_isub (q := 222) C dX12_law_221 rfl ?_
              exact me_iret C hE (Nat.le_of_ble_eq_true rfl) (Nat.le_of_ble_eq_true rfl) rfl dX12_law_222 (mm_ri hf)
            refine me_if_ne (q2 := 195) (q := 188) C dX12_law_185 (by decide) rfl (fun c49 => ?_) (fun c49 => ?_)
            · have hf := mm_if_t c49 hf
              refine me_iload_n (q := 196) C dX12_law_195 rfl rfl rfl ?_
              refine me_iconst (v := (1 : Int32)) (q := 197) C dX12_law_196 (by decide) rfl ?_
              refine me_icmp_ne (q2 := 204) (q := 200) C dX12_law_197 (by decide) rfl (fun c50 => ?_) (fun c50 => ?_)
              · have hf := mm_if_t c50 hf
                refine me_iconst (v := (-1 : Int32)) (q := 205) C dX12_law_204 (by decide) rfl ?_
                refine me_mask [true, false, false, false] (lv2 := [some (vR (some a0)), none, none, none]) rfl ?_
                exact Hq43 _ hf
              · have hf := mm_if_f c50 hf
                refine me_iload_n (q := 201) C dX12_law_200 rfl rfl rfl ?_
                refine me_goto (q := 205) C dX12_law_201 (by decide) ?_
                refine me_mask [true, false, false, false] (lv2 := [some (vR (some a0)), none, none, none]) rfl ?_
                exact Hq43 _ hf
            · have hf := mm_if_f c49 hf
              refine me_aload_n (q := 189) C dX12_law_188 rfl rfl rfl ?_
              refine me_getI (q := 192) C dX12_law_189 mf_X12_273 rfl rfl (mm_kI eg41 (mm_kI eg37 (mm_kI eg32 k31))) rfl ?_
              refine me_goto (q := 205) C dX12_law_192 (by decide) ?_
              refine me_mask [true, false, false, false] (lv2 := [some (vR (some a0)), none, none, none]) rfl ?_
              exact Hq43 _ hf
          · have hf := mm_if_f c33 hf
            refine me_aload_n (q := 136) C dX12_law_135 rfl rfl rfl ?_
            refine me_getR (q := 139) C dX12_law_136 mf_X12_60 rfl rfl (mm_kI eg32 k31) rfl ?_
            refine me_aload_n (q := 140) C dX12_law_139 rfl rfl rfl ?_
            refine me_getI (q := 143) C dX12_law_140 mf_X12_356 rfl rfl (mm_kI eg32 k31) rfl ?_
            refine me_iconst (v := (0 : Int32)) (q := 144) C dX12_law_143 (by decide) rfl ?_
            obtain ⟨u51, eu51, hf⟩ := mm_rf_some hf
            obtain ⟨k52, hf⟩ := mm_ck_some hf
            obtain ⟨k53, hf⟩ := mm_ck_some hf
            obtain ⟨g54, eg54, hf⟩ := mm_lt_some hf
            refine me_iastH (q := 145) C eg54 dX12_law_144 eu51 k52 k53 rfl ?_
            refine me_bipush (v := (-2 : Int32)) (q := 147) C dX12_law_145 (by decide) rfl ?_
            refine me_aload_n (q := 148) C dX12_law_147 rfl rfl rfl ?_
            refine me_getI (q := 151) C dX12_law_148 mf_X12_305 rfl rfl (mm_kI eg54 (mm_kI eg32 k31)) rfl ?_
            refine me_isub (q := 152) C dX12_law_151 rfl ?_
            exact me_iret C hE (Nat.le_of_ble_eq_true rfl) (Nat.le_of_ble_eq_true rfl) rfl dX12_law_152 (mm_ri hf)
      refine me_icmp_ne (q2 := 39) (q := 23) C dX12_law_20 (by decide) rfl (fun c55 => ?_) (fun c55 => ?_)
      · have hf := mm_if_t c55 hf
        exact Hq8 _ hf
      · have hf := mm_if_f c55 hf
        refine me_iload_n (q := 24) C dX12_law_23 rfl rfl rfl ?_
        refine me_aload_n (q := 25) C dX12_law_24 rfl rfl rfl ?_
        obtain ⟨k56, hf⟩ := mm_ck_some hf
        refine me_getI (q := 28) C dX12_law_25 mf_X12_273 rfl rfl k56 rfl ?_
        refine me_sipush (v := (3999 : Int32)) (q := 31) C dX12_law_28 (by decide) rfl ?_
        obtain ⟨v57, g58, e59, hf⟩ := mm_cl_some hf
        refine me_callS (q := 34) (c2 := 0) (s2 := 0) (st := []) C (cX12_in_ok _ e59) mt_X12_269 ms_X12_in dX12_law_31 rfl rfl rfl (Nat.le_of_ble_eq_true rfl) rfl (Nat.le_of_ble_eq_true rfl) rfl (Nat.le_of_ble_eq_true rfl) rfl rfl ?_
        refine me_if_ne (q2 := 39) (q := 37) C dX12_law_34 (by decide) rfl (fun c60 => ?_) (fun c60 => ?_)
        · have hf := mm_if_t c60 hf
          exact Hq8 _ hf
        · have hf := mm_if_f c60 hf
          refine me_iconst (v := (-1 : Int32)) (q := 38) C dX12_law_37 (by decide) rfl ?_
          exact me_iret C hE (Nat.le_of_ble_eq_true rfl) (Nat.le_of_ble_eq_true rfl) rfl dX12_law_38 (mm_ri hf)
set_option maxRecDepth 100000 in
set_option maxHeartbeats 4000000 in
theorem cX12_read_ok (l : Launch) {a0 : Nat} {a1 : Int32} {h : mm_H} {r : Int32} {h1 : mm_H} (hf : fX12_read a0 a1 h = some (r, h1)) : mm_M l yX12_read cX12_read 2 (some .boolean) 4 0 0 [vR (some a0), vI a1] h (some (vI r)) h1 := by
  refine mm_enter (lv := [some (vR (some a0)), some (vI a1)]) (by decide) rfl (Nat.le_of_ble_eq_true rfl) ?_
  intro X hl C hE
  subst hl
  unfold fX12_read at hf
  refine me_iload_n (q := 1) C dX12_read_0 rfl rfl rfl ?_
  refine me_iconst (v := (0 : Int32)) (q := 2) C dX12_read_1 (by decide) rfl ?_
  refine me_aload_n (q := 3) C dX12_read_2 rfl rfl rfl ?_
  obtain ⟨k1, hf⟩ := mm_ck_some hf
  refine me_getI (q := 6) C dX12_read_3 mf_X12_356 rfl rfl k1 rfl ?_
  refine me_iconst (v := (1 : Int32)) (q := 7) C dX12_read_6 (by decide) rfl ?_
  refine me_isub (q := 8) C dX12_read_7 rfl ?_
  obtain ⟨v2, g3, e4, hf⟩ := mm_cl_some hf
  refine me_callS (q := 11) (c2 := 0) (s2 := 0) (st := []) C (cX12_in_ok _ e4) mt_X12_269 ms_X12_in dX12_read_8 rfl rfl rfl (Nat.le_of_ble_eq_true rfl) rfl (Nat.le_of_ble_eq_true rfl) rfl (Nat.le_of_ble_eq_true rfl) rfl rfl ?_
  refine me_if_eq (q2 := 34) (q := 14) C dX12_read_11 (by decide) rfl (fun c5 => ?_) (fun c5 => ?_)
  · have hf := mm_if_t c5 hf
    refine me_iconst (v := (0 : Int32)) (q := 35) C dX12_read_34 (by decide) rfl ?_
    exact me_zret C hE (Nat.le_of_ble_eq_true rfl) (Nat.le_of_ble_eq_true rfl) rfl (Or.inl rfl) dX12_read_35 (mm_ri hf)
  · have hf := mm_if_f c5 hf
    refine me_aload_n (q := 15) C dX12_read_14 rfl rfl rfl ?_
    obtain ⟨k6, hf⟩ := mm_ck_some hf
    refine me_getR (q := 18) C dX12_read_15 mf_X12_51 rfl rfl k6 rfl ?_
    refine me_iload_n (q := 19) C dX12_read_18 rfl rfl rfl ?_
    obtain ⟨u7, eu7, hf⟩ := mm_rf_some hf
    obtain ⟨k8, hf⟩ := mm_ck_some hf
    obtain ⟨k9, hf⟩ := mm_ck_some hf
    refine me_iald (q := 20) C dX12_read_19 eu7 k8 k9 rfl ?_
    refine me_iconst (v := (2 : Int32)) (q := 21) C dX12_read_20 (by decide) rfl ?_
    refine me_icmp_ne (q2 := 34) (q := 24) C dX12_read_21 (by decide) rfl (fun c10 => ?_) (fun c10 => ?_)
    · have hf := mm_if_t c10 hf
      refine me_iconst (v := (0 : Int32)) (q := 35) C dX12_read_34 (by decide) rfl ?_
      exact me_zret C hE (Nat.le_of_ble_eq_true rfl) (Nat.le_of_ble_eq_true rfl) rfl (Or.inl rfl) dX12_read_35 (mm_ri hf)
    · have hf := mm_if_f c10 hf
      refine me_aload_n (q := 25) C dX12_read_24 rfl rfl rfl ?_
      refine me_getR (q := 28) C dX12_read_25 mf_X12_54 rfl rfl k6 rfl ?_
      refine me_iload_n (q := 29) C dX12_read_28 rfl rfl rfl ?_
      obtain ⟨u11, eu11, hf⟩ := mm_rf_some hf
      obtain ⟨k12, hf⟩ := mm_ck_some hf
      obtain ⟨k13, hf⟩ := mm_ck_some hf
      refine me_iald (q := 30) C dX12_read_29 eu11 k12 k13 rfl ?_
      refine me_iconst (v := (-1 : Int32)) (q := 31) C dX12_read_30 (by decide) rfl ?_
      refine me_icmp_eq (q2 := 36) (q := 34) C dX12_read_31 (by decide) rfl (fun c14 => ?_) (fun c14 => ?_)
      · have hf := mm_if_t c14 hf
        refine me_aload_n (q := 37) C dX12_read_36 rfl rfl rfl ?_
        refine me_getR (q := 40) C dX12_read_37 mf_X12_54 rfl rfl k6 rfl ?_
        refine me_iload_n (q := 41) C dX12_read_40 rfl rfl rfl ?_
        refine me_aload_n (q := 42) C dX12_read_41 rfl rfl rfl ?_
        refine me_getI (q := 45) C dX12_read_42 mf_X12_273 rfl rfl k6 rfl ?_
        obtain ⟨k15, hf⟩ := mm_ck_some hf
        obtain ⟨g16, eg16, hf⟩ := mm_lt_some hf
        refine me_iastH (q := 46) C eg16 dX12_read_45 eu11 k12 k15 rfl ?_
        refine me_iconst (v := (1 : Int32)) (q := 47) C dX12_read_46 (by decide) rfl ?_
        exact me_zret C hE (Nat.le_of_ble_eq_true rfl) (Nat.le_of_ble_eq_true rfl) rfl (Or.inr rfl) dX12_read_47 (mm_ri hf)
      · have hf := mm_if_f c14 hf
        refine me_iconst (v := (0 : Int32)) (q := 35) C dX12_read_34 (by decide) rfl ?_
        exact me_zret C hE (Nat.le_of_ble_eq_true rfl) (Nat.le_of_ble_eq_true rfl) rfl (Or.inl rfl) dX12_read_35 (mm_ri hf)
set_option maxRecDepth 100000 in
set_option maxHeartbeats 4000000 in
theorem cX12_laws_ok (l : Launch) {a0 : Nat} {a1 : Int32} {a2 : Int32} {h : mm_H} {r : Int32} {h1 : mm_H} (hf : fX12_laws a0 a1 a2 h = some (r, h1)) : mm_M l yX12_laws cX12_laws 3 (some .int) 4 0 0 [vR (some a0), vI a1, vI a2] h (some (vI r)) h1 := by
  refine mm_enter (lv := [some (vR (some a0)), some (vI a1), some (vI a2)]) (by decide) rfl (Nat.le_of_ble_eq_true rfl) ?_
  intro X hl C hE
  subst hl
  unfold fX12_laws at hf
  refine me_iload_n (q := 1) C dX12_laws_0 rfl rfl rfl ?_
  refine me_iconst (v := (0 : Int32)) (q := 2) C dX12_laws_1 (by decide) rfl ?_
  refine me_aload_n (q := 3) C dX12_laws_2 rfl rfl rfl ?_
  obtain ⟨k1, hf⟩ := mm_ck_some hf
  refine me_getI (q := 6) C dX12_laws_3 mf_X12_356 rfl rfl k1 rfl ?_
  refine me_iconst (v := (1 : Int32)) (q := 7) C dX12_laws_6 (by decide) rfl ?_
  refine me_isub (q := 8) C dX12_laws_7 rfl ?_
  obtain ⟨v2, g3, e4, hf⟩ := mm_cl_some hf
  refine me_callS (q := 11) (c2 := 0) (s2 := 0) (st := []) C (cX12_in_ok _ e4) mt_X12_269 ms_X12_in dX12_laws_8 rfl rfl rfl (Nat.le_of_ble_eq_true rfl) rfl (Nat.le_of_ble_eq_true rfl) rfl (Nat.le_of_ble_eq_true rfl) rfl rfl ?_
  refine me_if_ne (q2 := 16) (q := 14) C dX12_laws_11 (by decide) rfl (fun c5 => ?_) (fun c5 => ?_)
  · have hf := mm_if_t c5 hf
    refine me_iload_n (q := 17) C dX12_laws_16 rfl rfl rfl ?_
    by_cases c6 : a2 = 0
    · have hf := mm_if_t c6 hf
      refine me_tabIn (q := 48) C dX12_laws_17 (by rw [c6]; decide) (by rw [c6]; decide) (by rw [c6]; rfl) (by decide) ?_
      refine me_aload_n (q := 49) C dX12_laws_48 rfl rfl rfl ?_
      obtain ⟨k7, hf⟩ := mm_ck_some hf
      refine me_getR (q := 52) C dX12_laws_49 mf_X12_51 rfl rfl k7 rfl ?_
      refine me_iload_n (q := 53) C dX12_laws_52 rfl rfl rfl ?_
      obtain ⟨u8, eu8, hf⟩ := mm_rf_some hf
      obtain ⟨k9, hf⟩ := mm_ck_some hf
      obtain ⟨k10, hf⟩ := mm_ck_some hf
      refine me_iald (q := 54) C dX12_laws_53 eu8 k9 k10 rfl ?_
      exact me_iret C hE (Nat.le_of_ble_eq_true rfl) (Nat.le_of_ble_eq_true rfl) rfl dX12_laws_54 (mm_ri hf)
    have hf := mm_if_f c6 hf
    by_cases c11 : a2 = 1
    · have hf := mm_if_t c11 hf
      refine me_tabIn (q := 55) C dX12_laws_17 (by rw [c11]; decide) (by rw [c11]; decide) (by rw [c11]; rfl) (by decide) ?_
      refine me_aload_n (q := 56) C dX12_laws_55 rfl rfl rfl ?_
      obtain ⟨k12, hf⟩ := mm_ck_some hf
      refine me_getR (q := 59) C dX12_laws_56 mf_X12_60 rfl rfl k12 rfl ?_
      refine me_iload_n (q := 60) C dX12_laws_59 rfl rfl rfl ?_
      obtain ⟨u13, eu13, hf⟩ := mm_rf_some hf
      obtain ⟨k14, hf⟩ := mm_ck_some hf
      obtain ⟨k15, hf⟩ := mm_ck_some hf
      refine me_iald (q := 61) C dX12_laws_60 eu13 k14 k15 rfl ?_
      exact me_iret C hE (Nat.le_of_ble_eq_true rfl) (Nat.le_of_ble_eq_true rfl) rfl dX12_laws_61 (mm_ri hf)
    have hf := mm_if_f c11 hf
    by_cases c16 : a2 = 2
    · have hf := mm_if_t c16 hf
      refine me_tabIn (q := 62) C dX12_laws_17 (by rw [c16]; decide) (by rw [c16]; decide) (by rw [c16]; rfl) (by decide) ?_
      refine me_aload_n (q := 63) C dX12_laws_62 rfl rfl rfl ?_
      obtain ⟨k17, hf⟩ := mm_ck_some hf
      refine me_getR (q := 66) C dX12_laws_63 mf_X12_54 rfl rfl k17 rfl ?_
      refine me_iload_n (q := 67) C dX12_laws_66 rfl rfl rfl ?_
      obtain ⟨u18, eu18, hf⟩ := mm_rf_some hf
      obtain ⟨k19, hf⟩ := mm_ck_some hf
      obtain ⟨k20, hf⟩ := mm_ck_some hf
      refine me_iald (q := 68) C dX12_laws_67 eu18 k19 k20 rfl ?_
      exact me_iret C hE (Nat.le_of_ble_eq_true rfl) (Nat.le_of_ble_eq_true rfl) rfl dX12_laws_68 (mm_ri hf)
    have hf := mm_if_f c16 hf
    by_cases c21 : a2 = 3
    · have hf := mm_if_t c21 hf
      refine me_tabIn (q := 69) C dX12_laws_17 (by rw [c21]; decide) (by rw [c21]; decide) (by rw [c21]; rfl) (by decide) ?_
      refine me_aload_n (q := 70) C dX12_laws_69 rfl rfl rfl ?_
      obtain ⟨k22, hf⟩ := mm_ck_some hf
      refine me_getR (q := 73) C dX12_laws_70 mf_X12_57 rfl rfl k22 rfl ?_
      refine me_iload_n (q := 74) C dX12_laws_73 rfl rfl rfl ?_
      obtain ⟨u23, eu23, hf⟩ := mm_rf_some hf
      obtain ⟨k24, hf⟩ := mm_ck_some hf
      obtain ⟨k25, hf⟩ := mm_ck_some hf
      refine me_iald (q := 75) C dX12_laws_74 eu23 k24 k25 rfl ?_
      exact me_iret C hE (Nat.le_of_ble_eq_true rfl) (Nat.le_of_ble_eq_true rfl) rfl dX12_laws_75 (mm_ri hf)
    have hf := mm_if_f c21 hf
    refine me_tabOut (q := 76) C dX12_laws_17 ?_ (by decide) ?_
    · by_cases hz : a2.toInt < 0 ∨ 3 < a2.toInt
      · exact hz
      · exfalso
        have hw : a2.toInt = 0 ∨ a2.toInt = 1 ∨ a2.toInt = 2 ∨ a2.toInt = 3 := by omega
        rcases hw with hw | hw | hw | hw
        · exact c6 (mm_sw hw)
        · exact c11 (mm_sw hw)
        · exact c16 (mm_sw hw)
        · exact c21 (mm_sw hw)
    · refine me_iconst (v := (-1 : Int32)) (q := 77) C dX12_laws_76 (by decide) rfl ?_
      exact me_iret C hE (Nat.le_of_ble_eq_true rfl) (Nat.le_of_ble_eq_true rfl) rfl dX12_laws_77 (mm_ri hf)
  · have hf := mm_if_f c5 hf
    refine me_iconst (v := (-1 : Int32)) (q := 15) C dX12_laws_14 (by decide) rfl ?_
    exact me_iret C hE (Nat.le_of_ble_eq_true rfl) (Nat.le_of_ble_eq_true rfl) rfl dX12_laws_15 (mm_ri hf)
set_option maxRecDepth 100000 in
set_option maxHeartbeats 4000000 in
theorem cX12_inForce_L5 {X : mm_X} (C : mm_C X cX12_inForce yX12_inForce 2 0 0) {r : Int32} {h1 : mm_H} (hE : mm_End X 0 0 (some .int) (some (vI r)) h1) {b0 : Nat} {b1 : Int32} {b2 : Int32} (K77 : Int32 → mm_H → Option (Int32 × mm_H)) : ∀ (n : Nat) (x3 : Int32) (x4 : Int32) (h : mm_H), fX12_inForce_L5 b0 b1 b2 K77 n x3 x4 h = some (r, h1) → (∀ (y3 : Int32) (h : mm_H), K77 y3 h = some (r, h1) → mm_E X h 0 0 77 [none, none, none, some (vI y3), none] []) → mm_E X h 0 0 5 [some (vR (some b0)), some (vI b1), some (vI b2), some (vI x3), some (vI x4)] [] := by
  intro n
  induction n with
  | zero =>
    intro x3 x4 h hf
    exact absurd (show (none : Option (Int32 × mm_H)) = some (r, h1) from hf) (by simp)
  | succ n ih =>
    intro x3 x4 h hf hk77
    have hf : fX12_inForce_L5_b b0 b1 b2 K77 (fX12_inForce_L5 b0 b1 b2 K77 n) x3 x4 h = some (r, h1) := hf
    unfold fX12_inForce_L5_b at hf
    refine me_iload (q := 7) C dX12_inForce_5 rfl rfl ?_
    refine me_aload_n (q := 8) C dX12_inForce_7 rfl rfl rfl ?_
    obtain ⟨k1, hf⟩ := mm_ck_some hf
    refine me_getI (q := 11) C dX12_inForce_8 mf_X12_356 rfl rfl k1 rfl ?_
    refine me_icmp_ge (q2 := 77) (q := 14) C dX12_inForce_11 (by decide) rfl (fun c2 => ?_) (fun c2 => ?_)
    · have hf := mm_if_t c2 hf
      refine me_mask [false, false, false, true, false] (lv2 := [none, none, none, some (vI x3), none]) rfl ?_
      exact hk77 _ _ hf
    · have hf := mm_if_f c2 hf
      refine me_aload_n (q := 15) C dX12_inForce_14 rfl rfl rfl ?_
      refine me_getR (q := 18) C dX12_inForce_15 mf_X12_51 rfl rfl k1 rfl ?_
      refine me_iload (q := 20) C dX12_inForce_18 rfl rfl ?_
      obtain ⟨u3, eu3, hf⟩ := mm_rf_some hf
      obtain ⟨k4, hf⟩ := mm_ck_some hf
      obtain ⟨k5, hf⟩ := mm_ck_some hf
      refine me_iald (q := 21) C dX12_inForce_20 eu3 k4 k5 rfl ?_
      refine me_iload_n (q := 22) C dX12_inForce_21 rfl rfl rfl ?_
      obtain ⟨q7, eq7, hf⟩ := mm_jn_some hf
      have Hq7 : ∀ (v6 : Int32), q7 v6 = some (r, h1) → mm_E X h 0 0 71 [some (vR (some b0)), some (vI b1), some (vI b2), some (vI v6), some (vI x4)] [] := by
        intro v6 hf
        subst eq7
        obtain ⟨v8, ev8, hf⟩ := mm_lt_some hf
        refine me_iinc (q := 74) (v := v8) (lv2 := [some (vR (some b0)), some (vI b1), some (vI b2), some (vI v6), some (vI v8)]) C dX12_inForce_71 rfl (by rw [ev8]; rfl) (Nat.le_of_ble_eq_true rfl) rfl rfl rfl ?_
        refine me_goto (q := 5) C dX12_inForce_74 (by decide) ?_
        exact ih _ _ _ hf hk77
      refine me_icmp_ne (q2 := 71) (q := 25) C dX12_inForce_22 (by decide) rfl (fun c9 => ?_) (fun c9 => ?_)
      · have hf := mm_if_t c9 hf
        exact Hq7 _ hf
      · have hf := mm_if_f c9 hf
        refine me_aload_n (q := 26) C dX12_inForce_25 rfl rfl rfl ?_
        refine me_getR (q := 29) C dX12_inForce_26 mf_X12_54 rfl rfl k1 rfl ?_
        refine me_iload (q := 31) C dX12_inForce_29 rfl rfl ?_
        obtain ⟨u10, eu10, hf⟩ := mm_rf_some hf
        obtain ⟨k11, hf⟩ := mm_ck_some hf
        obtain ⟨k12, hf⟩ := mm_ck_some hf
        refine me_iald (q := 32) C dX12_inForce_31 eu10 k11 k12 rfl ?_
        refine me_iconst (v := (-1 : Int32)) (q := 33) C dX12_inForce_32 (by decide) rfl ?_
        refine me_icmp_eq (q2 := 71) (q := 36) C dX12_inForce_33 (by decide) rfl (fun c13 => ?_) (fun c13 => ?_)
        · have hf := mm_if_t c13 hf
          exact Hq7 _ hf
        · have hf := mm_if_f c13 hf
          refine me_aload_n (q := 37) C dX12_inForce_36 rfl rfl rfl ?_
          refine me_getR (q := 40) C dX12_inForce_37 mf_X12_54 rfl rfl k1 rfl ?_
          refine me_iload (q := 42) C dX12_inForce_40 rfl rfl ?_
          obtain ⟨k14, hf⟩ := mm_ck_some hf
          refine me_iald (q := 43) C dX12_inForce_42 eu10 k11 k14 rfl ?_
          refine me_iload_n (q := 44) C dX12_inForce_43 rfl rfl rfl ?_
          refine me_icmp_gt (q2 := 71) (q := 47) C dX12_inForce_44 (by decide) rfl (fun c15 => ?_) (fun c15 => ?_)
          · have hf := mm_if_t c15 hf
            exact Hq7 _ hf
          · have hf := mm_if_f c15 hf
            refine me_iload_n (q := 48) C dX12_inForce_47 rfl rfl rfl ?_
            refine me_iconst (v := (-1 : Int32)) (q := 49) C dX12_inForce_48 (by decide) rfl ?_
            obtain ⟨q16, eq16, hf⟩ := mm_jn_some hf
            have Hq16 : ∀ (_u : Unit), q16 _u = some (r, h1) → mm_E X h 0 0 68 [some (vR (some b0)), some (vI b1), some (vI b2), none, some (vI x4)] [] := by
              intro _u hf
              subst eq16
              refine me_iload (q := 70) C dX12_inForce_68 rfl rfl ?_
              refine me_istore_n (q := 71) (lv2 := [some (vR (some b0)), some (vI b1), some (vI b2), some (vI x4), some (vI x4)]) C dX12_inForce_70 rfl (Nat.le_of_ble_eq_true rfl) rfl rfl rfl ?_
              exact Hq7 _ hf
            refine me_icmp_eq (q2 := 68) (q := 52) C dX12_inForce_49 (by decide) rfl (fun c17 => ?_) (fun c17 => ?_)
            · have hf := mm_if_t c17 hf
              refine me_mask [true, true, true, false, true] (lv2 := [some (vR (some b0)), some (vI b1), some (vI b2), none, some (vI x4)]) rfl ?_
              exact Hq16 () hf
            · have hf := mm_if_f c17 hf
              refine me_aload_n (q := 53) C dX12_inForce_52 rfl rfl rfl ?_
              refine me_getR (q := 56) C dX12_inForce_53 mf_X12_54 rfl rfl k1 rfl ?_
              refine me_iload (q := 58) C dX12_inForce_56 rfl rfl ?_
              obtain ⟨k18, hf⟩ := mm_ck_some hf
              refine me_iald (q := 59) C dX12_inForce_58 eu10 k11 k18 rfl ?_
              refine me_aload_n (q := 60) C dX12_inForce_59 rfl rfl rfl ?_
              refine me_getR (q := 63) C dX12_inForce_60 mf_X12_54 rfl rfl k1 rfl ?_
              refine me_iload_n (q := 64) C dX12_inForce_63 rfl rfl rfl ?_
              obtain ⟨k19, hf⟩ := mm_ck_some hf
              refine me_iald (q := 65) C dX12_inForce_64 eu10 k11 k19 rfl ?_
              refine me_icmp_lt (q2 := 71) (q := 68) C dX12_inForce_65 (by decide) rfl (fun c20 => ?_) (fun c20 => ?_)
              · have hf := mm_if_t c20 hf
                exact Hq7 _ hf
              · have hf := mm_if_f c20 hf
                refine me_mask [true, true, true, false, true] (lv2 := [some (vR (some b0)), some (vI b1), some (vI b2), none, some (vI x4)]) rfl ?_
                exact Hq16 () hf
set_option maxRecDepth 100000 in
set_option maxHeartbeats 4000000 in
theorem cX12_inForce_ok (l : Launch) {a0 : Nat} {a1 : Int32} {a2 : Int32} {h : mm_H} {r : Int32} {h1 : mm_H} (hf : fX12_inForce a0 a1 a2 h = some (r, h1)) : mm_M l yX12_inForce cX12_inForce 5 (some .int) 2 0 0 [vR (some a0), vI a1, vI a2] h (some (vI r)) h1 := by
  refine mm_enter (lv := [some (vR (some a0)), some (vI a1), some (vI a2), none, none]) (by decide) rfl (Nat.le_of_ble_eq_true rfl) ?_
  intro X hl C hE
  subst hl
  unfold fX12_inForce at hf
  refine me_iconst (v := (-1 : Int32)) (q := 1) C dX12_inForce_0 (by decide) rfl ?_
  refine me_istore_n (q := 2) (lv2 := [some (vR (some a0)), some (vI a1), some (vI a2), some (vI (-1 : Int32)), none]) C dX12_inForce_1 rfl (Nat.le_of_ble_eq_true rfl) rfl rfl rfl ?_
  refine me_iconst (v := (0 : Int32)) (q := 3) C dX12_inForce_2 (by decide) rfl ?_
  refine me_istore (q := 5) (lv2 := [some (vR (some a0)), some (vI a1), some (vI a2), some (vI (-1 : Int32)), some (vI (0 : Int32))]) C dX12_inForce_3 (Nat.le_of_ble_eq_true rfl) rfl rfl rfl ?_
  refine cX12_inForce_L5 C hE _ _ _ _ _ hf ?_
  · intro z21 g22 hf
    refine me_iload_n (q := 78) C dX12_inForce_77 rfl rfl rfl ?_
    exact me_iret C hE (Nat.le_of_ble_eq_true rfl) (Nat.le_of_ble_eq_true rfl) rfl dX12_inForce_78 (mm_ri hf)
set_option maxRecDepth 100000 in
set_option maxHeartbeats 4000000 in
theorem cX12_force_ok (l : Launch) {a0 : Nat} {a1 : Int32} {a2 : Int32} {h : mm_H} {r : Int32} {h1 : mm_H} (hf : fX12_force a0 a1 a2 h = some (r, h1)) : mm_M l yX12_force cX12_force 3 (some .int) 6 0 0 [vR (some a0), vI a1, vI a2] h (some (vI r)) h1 := by
  refine mm_enter (lv := [some (vR (some a0)), some (vI a1), some (vI a2)]) (by decide) rfl (Nat.le_of_ble_eq_true rfl) ?_
  intro X hl C hE
  subst hl
  unfold fX12_force at hf
  refine me_iload_n (q := 1) C dX12_force_0 rfl rfl rfl ?_
  refine me_iconst (v := (0 : Int32)) (q := 2) C dX12_force_1 (by decide) rfl ?_
  refine me_iconst (v := (2 : Int32)) (q := 3) C dX12_force_2 (by decide) rfl ?_
  obtain ⟨v1, g2, e3, hf⟩ := mm_cl_some hf
  refine me_callS (q := 6) (c2 := 0) (s2 := 0) (st := []) C (cX12_in_ok _ e3) mt_X12_269 ms_X12_in dX12_force_3 rfl rfl rfl (Nat.le_of_ble_eq_true rfl) rfl (Nat.le_of_ble_eq_true rfl) rfl (Nat.le_of_ble_eq_true rfl) rfl rfl ?_
  refine me_if_eq (q2 := 25) (q := 9) C dX12_force_6 (by decide) rfl (fun c4 => ?_) (fun c4 => ?_)
  · have hf := mm_if_t c4 hf
    refine me_iconst (v := (-1 : Int32)) (q := 26) C dX12_force_25 (by decide) rfl ?_
    exact me_iret C hE (Nat.le_of_ble_eq_true rfl) (Nat.le_of_ble_eq_true rfl) rfl dX12_force_26 (mm_ri hf)
  · have hf := mm_if_f c4 hf
    refine me_iload_n (q := 10) C dX12_force_9 rfl rfl rfl ?_
    obtain ⟨v5, g6, e7, hf⟩ := mm_cl_some hf
    refine me_callS (q := 13) (c2 := 0) (s2 := 0) (st := []) C (cX12_isDay_ok _ e7) mt_X12_451 ms_X12_isDay dX12_force_10 rfl rfl rfl (Nat.le_of_ble_eq_true rfl) rfl (Nat.le_of_ble_eq_true rfl) rfl (Nat.le_of_ble_eq_true rfl) rfl rfl ?_
    refine me_if_eq (q2 := 25) (q := 16) C dX12_force_13 (by decide) rfl (fun c8 => ?_) (fun c8 => ?_)
    · have hf := mm_if_t c8 hf
      refine me_iconst (v := (-1 : Int32)) (q := 26) C dX12_force_25 (by decide) rfl ?_
      exact me_iret C hE (Nat.le_of_ble_eq_true rfl) (Nat.le_of_ble_eq_true rfl) rfl dX12_force_26 (mm_ri hf)
    · have hf := mm_if_f c8 hf
      refine me_aload_n (q := 17) C dX12_force_16 rfl rfl rfl ?_
      refine me_iload_n (q := 18) C dX12_force_17 rfl rfl rfl ?_
      refine me_iload_n (q := 19) C dX12_force_18 rfl rfl rfl ?_
      obtain ⟨k9, hf⟩ := mm_ck_some hf
      obtain ⟨v10, g11, e12, hf⟩ := mm_cl_some hf
      refine me_callV (q := 22) (c2 := 0) (s2 := 0) (st := []) C (cX12_inForce_ok _ e12) mt_X12_454 mv_X12_inForce rfl (by decide) dX12_force_19 rfl k9 rfl rfl rfl (Nat.le_of_ble_eq_true rfl) rfl (Nat.le_of_ble_eq_true rfl) rfl (Nat.le_of_ble_eq_true rfl) rfl rfl ?_
      refine me_goto (q := 26) C dX12_force_22 (by decide) ?_
      exact me_iret C hE (Nat.le_of_ble_eq_true rfl) (Nat.le_of_ble_eq_true rfl) rfl dX12_force_26 (mm_ri hf)
set_option maxRecDepth 100000 in
set_option maxHeartbeats 4000000 in
theorem cX12_truth_ok (l : Launch) {a0 : Int32} {h : mm_H} {r : Int64} {h1 : mm_H} (hf : fX12_truth a0 h = some (r, h1)) : mm_M l yX12_truth cX12_truth 1 (some .long) 2 0 0 [vI a0] h (some (vJ r)) h1 := by
  refine mm_enter (lv := [some (vI a0)]) (by decide) rfl (Nat.le_of_ble_eq_true rfl) ?_
  intro X hl C hE
  subst hl
  unfold fX12_truth at hf
  refine me_iload_n (q := 1) C dX12_truth_0 rfl rfl rfl ?_
  refine me_if_eq (q2 := 8) (q := 4) C dX12_truth_1 (by decide) rfl (fun c1 => ?_) (fun c1 => ?_)
  · have hf := mm_if_t c1 hf
    refine me_lconst (v := (0 : Int64)) (q := 9) C dX12_truth_8 (by decide) rfl ?_
    exact me_lret C hE (Nat.le_of_ble_eq_true rfl) (Nat.le_of_ble_eq_true rfl) rfl dX12_truth_9 (mm_rj hf)
  · have hf := mm_if_f c1 hf
    refine me_lconst (v := (1 : Int64)) (q := 5) C dX12_truth_4 (by decide) rfl ?_
    refine me_goto (q := 9) C dX12_truth_5 (by decide) ?_
    exact me_lret C hE (Nat.le_of_ble_eq_true rfl) (Nat.le_of_ble_eq_true rfl) rfl dX12_truth_9 (mm_rj hf)
set_option maxRecDepth 100000 in
set_option maxHeartbeats 4000000 in
theorem cX12_joins_ok (l : Launch) {a0 : Int32} {a1 : Int64} {a3 : Int64} {h : mm_H} {r : Int64} {h1 : mm_H} (hf : fX12_joins a0 a1 a3 h = some (r, h1)) : mm_M l yX12_joins cX12_joins 5 (some .long) 4 0 0 [vI a0, vJ a1, vJ a3] h (some (vJ r)) h1 := by
  refine mm_enter (lv := [some (vI a0), some (vJ a1), none, some (vJ a3), none]) (by decide) rfl (Nat.le_of_ble_eq_true rfl) ?_
  intro X hl C hE
  subst hl
  unfold fX12_joins at hf
  refine me_iload_n (q := 1) C dX12_joins_0 rfl rfl rfl ?_
  by_cases c1 : a0 = 3
  · have hf := mm_if_t c1 hf
    refine me_tabIn (q := 56) C dX12_joins_1 (by rw [c1]; decide) (by rw [c1]; decide) (by rw [c1]; rfl) (by decide) ?_
    refine me_lload_n (q := 57) C dX12_joins_56 rfl rfl rfl ?_
    refine me_lload_n (q := 58) C dX12_joins_57 rfl rfl rfl ?_
    refine me_ladd (q := 59) C dX12_joins_58 rfl ?_
    exact me_lret C hE (Nat.le_of_ble_eq_true rfl) (Nat.le_of_ble_eq_true rfl) rfl dX12_joins_59 (mm_rj hf)
  have hf := mm_if_f c1 hf
  by_cases c2 : a0 = 4
  · have hf := mm_if_t c2 hf
    refine me_tabIn (q := 60) C dX12_joins_1 (by rw [c2]; decide) (by rw [c2]; decide) (by rw [c2]; rfl) (by decide) ?_
    refine me_lload_n (q := 61) C dX12_joins_60 rfl rfl rfl ?_
    refine me_lload_n (q := 62) C dX12_joins_61 rfl rfl rfl ?_
    refine me_lsub (q := 63) C dX12_joins_62 rfl ?_
    exact me_lret C hE (Nat.le_of_ble_eq_true rfl) (Nat.le_of_ble_eq_true rfl) rfl dX12_joins_63 (mm_rj hf)
  have hf := mm_if_f c2 hf
  by_cases c3 : a0 = 5
  · have hf := mm_if_t c3 hf
    refine me_tabIn (q := 64) C dX12_joins_1 (by rw [c3]; decide) (by rw [c3]; decide) (by rw [c3]; rfl) (by decide) ?_
    refine me_lload_n (q := 65) C dX12_joins_64 rfl rfl rfl ?_
    refine me_lload_n (q := 66) C dX12_joins_65 rfl rfl rfl ?_
    refine me_lmul (q := 67) C dX12_joins_66 rfl ?_
    exact me_lret C hE (Nat.le_of_ble_eq_true rfl) (Nat.le_of_ble_eq_true rfl) rfl dX12_joins_67 (mm_rj hf)
  have hf := mm_if_f c3 hf
  by_cases c4 : a0 = 6
  · have hf := mm_if_t c4 hf
    refine me_tabIn (q := 147) C dX12_joins_1 (by rw [c4]; decide) (by rw [c4]; decide) (by rw [c4]; rfl) (by decide) ?_
    refine me_lload_n (q := 148) C dX12_joins_147 rfl rfl rfl ?_
    refine me_lload_n (q := 149) C dX12_joins_148 rfl rfl rfl ?_
    refine me_lor (q := 150) C dX12_joins_149 rfl ?_
    exact me_lret C hE (Nat.le_of_ble_eq_true rfl) (Nat.le_of_ble_eq_true rfl) rfl dX12_joins_150 (mm_rj hf)
  have hf := mm_if_f c4 hf
  by_cases c5 : a0 = 7
  · have hf := mm_if_t c5 hf
    refine me_tabIn (q := 68) C dX12_joins_1 (by rw [c5]; decide) (by rw [c5]; decide) (by rw [c5]; rfl) (by decide) ?_
    refine me_lload_n (q := 69) C dX12_joins_68 rfl rfl rfl ?_
    refine me_lload_n (q := 70) C dX12_joins_69 rfl rfl rfl ?_
    refine me_lcmp (q := 71) C dX12_joins_70 rfl ?_
    refine me_if_ge (q2 := 78) (q := 74) C dX12_joins_71 (by decide) rfl (fun c6 => ?_) (fun c6 => ?_)
    · have hf := mm_if_t c6 hf
      refine me_iconst (v := (0 : Int32)) (q := 79) C dX12_joins_78 (by decide) rfl ?_
      obtain ⟨v7, g8, e9, hf⟩ := mm_cl_some hf
      refine me_callS (q := 82) (c2 := 0) (s2 := 0) (st := []) C (cX12_truth_ok _ e9) mt_X12_462 ms_X12_truth dX12_joins_79 rfl rfl rfl (Nat.le_of_ble_eq_true rfl) rfl (Nat.le_of_ble_eq_true rfl) rfl (Nat.le_of_ble_eq_true rfl) rfl rfl ?_
      exact me_lret C hE (Nat.le_of_ble_eq_true rfl) (Nat.le_of_ble_eq_true rfl) rfl dX12_joins_82 (mm_rj hf)
    · have hf := mm_if_f c6 hf
      refine me_iconst (v := (1 : Int32)) (q := 75) C dX12_joins_74 (by decide) rfl ?_
      refine me_goto (q := 79) C dX12_joins_75 (by decide) ?_
      obtain ⟨v10, g11, e12, hf⟩ := mm_cl_some hf
      refine me_callS (q := 82) (c2 := 0) (s2 := 0) (st := []) C (cX12_truth_ok _ e12) mt_X12_462 ms_X12_truth dX12_joins_79 rfl rfl rfl (Nat.le_of_ble_eq_true rfl) rfl (Nat.le_of_ble_eq_true rfl) rfl (Nat.le_of_ble_eq_true rfl) rfl rfl ?_
      exact me_lret C hE (Nat.le_of_ble_eq_true rfl) (Nat.le_of_ble_eq_true rfl) rfl dX12_joins_82 (mm_rj hf)
  have hf := mm_if_f c5 hf
  by_cases c13 : a0 = 8
  · have hf := mm_if_t c13 hf
    refine me_tabIn (q := 83) C dX12_joins_1 (by rw [c13]; decide) (by rw [c13]; decide) (by rw [c13]; rfl) (by decide) ?_
    refine me_lload_n (q := 84) C dX12_joins_83 rfl rfl rfl ?_
    refine me_lload_n (q := 85) C dX12_joins_84 rfl rfl rfl ?_
    refine me_lcmp (q := 86) C dX12_joins_85 rfl ?_
    refine me_if_gt (q2 := 93) (q := 89) C dX12_joins_86 (by decide) rfl (fun c14 => ?_) (fun c14 => ?_)
    · have hf := mm_if_t c14 hf
      refine me_iconst (v := (0 : Int32)) (q := 94) C dX12_joins_93 (by decide) rfl ?_
      obtain ⟨v15, g16, e17, hf⟩ := mm_cl_some hf
      refine me_callS (q := 97) (c2 := 0) (s2 := 0) (st := []) C (cX12_truth_ok _ e17) mt_X12_462 ms_X12_truth dX12_joins_94 rfl rfl rfl (Nat.le_of_ble_eq_true rfl) rfl (Nat.le_of_ble_eq_true rfl) rfl (Nat.le_of_ble_eq_true rfl) rfl rfl ?_
      exact me_lret C hE (Nat.le_of_ble_eq_true rfl) (Nat.le_of_ble_eq_true rfl) rfl dX12_joins_97 (mm_rj hf)
    · have hf := mm_if_f c14 hf
      refine me_iconst (v := (1 : Int32)) (q := 90) C dX12_joins_89 (by decide) rfl ?_
      refine me_goto (q := 94) C dX12_joins_90 (by decide) ?_
      obtain ⟨v18, g19, e20, hf⟩ := mm_cl_some hf
      refine me_callS (q := 97) (c2 := 0) (s2 := 0) (st := []) C (cX12_truth_ok _ e20) mt_X12_462 ms_X12_truth dX12_joins_94 rfl rfl rfl (Nat.le_of_ble_eq_true rfl) rfl (Nat.le_of_ble_eq_true rfl) rfl (Nat.le_of_ble_eq_true rfl) rfl rfl ?_
      exact me_lret C hE (Nat.le_of_ble_eq_true rfl) (Nat.le_of_ble_eq_true rfl) rfl dX12_joins_97 (mm_rj hf)
  have hf := mm_if_f c13 hf
  by_cases c21 : a0 = 9
  · have hf := mm_if_t c21 hf
    refine me_tabIn (q := 98) C dX12_joins_1 (by rw [c21]; decide) (by rw [c21]; decide) (by rw [c21]; rfl) (by decide) ?_
    refine me_lload_n (q := 99) C dX12_joins_98 rfl rfl rfl ?_
    refine me_lload_n (q := 100) C dX12_joins_99 rfl rfl rfl ?_
    refine me_lcmp (q := 101) C dX12_joins_100 rfl ?_
    refine me_if_ne (q2 := 108) (q := 104) C dX12_joins_101 (by decide) rfl (fun c22 => ?_) (fun c22 => ?_)
    · have hf := mm_if_t c22 hf
      refine me_iconst (v := (0 : Int32)) (q := 109) C dX12_joins_108 (by decide) rfl ?_
      obtain ⟨v23, g24, e25, hf⟩ := mm_cl_some hf
      refine me_callS (q := 112) (c2 := 0) (s2 := 0) (st := []) C (cX12_truth_ok _ e25) mt_X12_462 ms_X12_truth dX12_joins_109 rfl rfl rfl (Nat.le_of_ble_eq_true rfl) rfl (Nat.le_of_ble_eq_true rfl) rfl (Nat.le_of_ble_eq_true rfl) rfl rfl ?_
      exact me_lret C hE (Nat.le_of_ble_eq_true rfl) (Nat.le_of_ble_eq_true rfl) rfl dX12_joins_112 (mm_rj hf)
    · have hf := mm_if_f c22 hf
      refine me_iconst (v := (1 : Int32)) (q := 105) C dX12_joins_104 (by decide) rfl ?_
      refine me_goto (q := 109) C dX12_joins_105 (by decide) ?_
      obtain ⟨v26, g27, e28, hf⟩ := mm_cl_some hf
      refine me_callS (q := 112) (c2 := 0) (s2 := 0) (st := []) C (cX12_truth_ok _ e28) mt_X12_462 ms_X12_truth dX12_joins_109 rfl rfl rfl (Nat.le_of_ble_eq_true rfl) rfl (Nat.le_of_ble_eq_true rfl) rfl (Nat.le_of_ble_eq_true rfl) rfl rfl ?_
      exact me_lret C hE (Nat.le_of_ble_eq_true rfl) (Nat.le_of_ble_eq_true rfl) rfl dX12_joins_112 (mm_rj hf)
  have hf := mm_if_f c21 hf
  by_cases c29 : a0 = 10
  · have hf := mm_if_t c29 hf
    refine me_tabIn (q := 113) C dX12_joins_1 (by rw [c29]; decide) (by rw [c29]; decide) (by rw [c29]; rfl) (by decide) ?_
    refine me_lload_n (q := 114) C dX12_joins_113 rfl rfl rfl ?_
    refine me_lload_n (q := 115) C dX12_joins_114 rfl rfl rfl ?_
    refine me_lcmp (q := 116) C dX12_joins_115 rfl ?_
    refine me_if_lt (q2 := 123) (q := 119) C dX12_joins_116 (by decide) rfl (fun c30 => ?_) (fun c30 => ?_)
    · have hf := mm_if_t c30 hf
      refine me_iconst (v := (0 : Int32)) (q := 124) C dX12_joins_123 (by decide) rfl ?_
      obtain ⟨v31, g32, e33, hf⟩ := mm_cl_some hf
      refine me_callS (q := 127) (c2 := 0) (s2 := 0) (st := []) C (cX12_truth_ok _ e33) mt_X12_462 ms_X12_truth dX12_joins_124 rfl rfl rfl (Nat.le_of_ble_eq_true rfl) rfl (Nat.le_of_ble_eq_true rfl) rfl (Nat.le_of_ble_eq_true rfl) rfl rfl ?_
      exact me_lret C hE (Nat.le_of_ble_eq_true rfl) (Nat.le_of_ble_eq_true rfl) rfl dX12_joins_127 (mm_rj hf)
    · have hf := mm_if_f c30 hf
      refine me_iconst (v := (1 : Int32)) (q := 120) C dX12_joins_119 (by decide) rfl ?_
      refine me_goto (q := 124) C dX12_joins_120 (by decide) ?_
      obtain ⟨v34, g35, e36, hf⟩ := mm_cl_some hf
      refine me_callS (q := 127) (c2 := 0) (s2 := 0) (st := []) C (cX12_truth_ok _ e36) mt_X12_462 ms_X12_truth dX12_joins_124 rfl rfl rfl (Nat.le_of_ble_eq_true rfl) rfl (Nat.le_of_ble_eq_true rfl) rfl (Nat.le_of_ble_eq_true rfl) rfl rfl ?_
      exact me_lret C hE (Nat.le_of_ble_eq_true rfl) (Nat.le_of_ble_eq_true rfl) rfl dX12_joins_127 (mm_rj hf)
  have hf := mm_if_f c29 hf
  by_cases c37 : a0 = 11
  · have hf := mm_if_t c37 hf
    refine me_tabIn (q := 128) C dX12_joins_1 (by rw [c37]; decide) (by rw [c37]; decide) (by rw [c37]; rfl) (by decide) ?_
    refine me_lload_n (q := 129) C dX12_joins_128 rfl rfl rfl ?_
    refine me_lload_n (q := 130) C dX12_joins_129 rfl rfl rfl ?_
    refine me_lcmp (q := 131) C dX12_joins_130 rfl ?_
    refine me_if_le (q2 := 138) (q := 134) C dX12_joins_131 (by decide) rfl (fun c38 => ?_) (fun c38 => ?_)
    · have hf := mm_if_t c38 hf
      refine me_iconst (v := (0 : Int32)) (q := 139) C dX12_joins_138 (by decide) rfl ?_
      obtain ⟨v39, g40, e41, hf⟩ := mm_cl_some hf
      refine me_callS (q := 142) (c2 := 0) (s2 := 0) (st := []) C (cX12_truth_ok _ e41) mt_X12_462 ms_X12_truth dX12_joins_139 rfl rfl rfl (Nat.le_of_ble_eq_true rfl) rfl (Nat.le_of_ble_eq_true rfl) rfl (Nat.le_of_ble_eq_true rfl) rfl rfl ?_
      exact me_lret C hE (Nat.le_of_ble_eq_true rfl) (Nat.le_of_ble_eq_true rfl) rfl dX12_joins_142 (mm_rj hf)
    · have hf := mm_if_f c38 hf
      refine me_iconst (v := (1 : Int32)) (q := 135) C dX12_joins_134 (by decide) rfl ?_
      refine me_goto (q := 139) C dX12_joins_135 (by decide) ?_
      obtain ⟨v42, g43, e44, hf⟩ := mm_cl_some hf
      refine me_callS (q := 142) (c2 := 0) (s2 := 0) (st := []) C (cX12_truth_ok _ e44) mt_X12_462 ms_X12_truth dX12_joins_139 rfl rfl rfl (Nat.le_of_ble_eq_true rfl) rfl (Nat.le_of_ble_eq_true rfl) rfl (Nat.le_of_ble_eq_true rfl) rfl rfl ?_
      exact me_lret C hE (Nat.le_of_ble_eq_true rfl) (Nat.le_of_ble_eq_true rfl) rfl dX12_joins_142 (mm_rj hf)
  have hf := mm_if_f c37 hf
  by_cases c45 : a0 = 12
  · have hf := mm_if_t c45 hf
    refine me_tabIn (q := 143) C dX12_joins_1 (by rw [c45]; decide) (by rw [c45]; decide) (by rw [c45]; rfl) (by decide) ?_
    refine me_lload_n (q := 144) C dX12_joins_143 rfl rfl rfl ?_
    refine me_lload_n (q := 145) C dX12_joins_144 rfl rfl rfl ?_
    refine me_land (q := 146) C dX12_joins_145 rfl ?_
    exact me_lret C hE (Nat.le_of_ble_eq_true rfl) (Nat.le_of_ble_eq_true rfl) rfl dX12_joins_146 (mm_rj hf)
  have hf := mm_if_f c45 hf
  refine me_tabOut (q := 147) C dX12_joins_1 ?_ (by decide) ?_
  · by_cases hz : a0.toInt < 3 ∨ 12 < a0.toInt
    · exact hz
    · exfalso
      have hw : a0.toInt = 3 ∨ a0.toInt = 4 ∨ a0.toInt = 5 ∨ a0.toInt = 6 ∨ a0.toInt = 7 ∨ a0.toInt = 8 ∨ a0.toInt = 9 ∨ a0.toInt = 10 ∨ a0.toInt = 11 ∨ a0.toInt = 12 := by omega
      rcases hw with hw | hw | hw | hw | hw | hw | hw | hw | hw | hw
      · exact c1 (mm_sw hw)
      · exact c2 (mm_sw hw)
      · exact c3 (mm_sw hw)
      · exact c4 (mm_sw hw)
      · exact c5 (mm_sw hw)
      · exact c13 (mm_sw hw)
      · exact c21 (mm_sw hw)
      · exact c29 (mm_sw hw)
      · exact c37 (mm_sw hw)
      · exact c45 (mm_sw hw)
  · refine me_lload_n (q := 148) C dX12_joins_147 rfl rfl rfl ?_
    refine me_lload_n (q := 149) C dX12_joins_148 rfl rfl rfl ?_
    refine me_lor (q := 150) C dX12_joins_149 rfl ?_
    exact me_lret C hE (Nat.le_of_ble_eq_true rfl) (Nat.le_of_ble_eq_true rfl) rfl dX12_joins_150 (mm_rj hf)
set_option maxRecDepth 100000 in
set_option maxHeartbeats 4000000 in
theorem cX12_isTrue_L15 {X : mm_X} (C : mm_C X cX12_isTrue yX12_isTrue 6 0 0) {r : Int32} {h1 : mm_H} (hE : mm_End X 0 0 (some .boolean) (some (vI r)) h1) {b0 : Nat} {b1 : Int32} {b3 : Int32} (K161 : mm_H → Option (Int32 × mm_H)) : ∀ (n : Nat) (x2 : Int32) (x4 : Int32) (h : mm_H), fX12_isTrue_L15 b0 b1 b3 K161 n x2 x4 h = some (r, h1) → (∀ (h : mm_H), K161 h = some (r, h1) → mm_E X h 0 0 161 [some (vR (some b0)), none, none, none, none, none, none] []) → mm_E X h 0 0 15 [some (vR (some b0)), some (vI b1), some (vI x2), some (vI b3), some (vI x4), none, none] [] := by
  intro n
  induction n with
  | zero =>
    intro x2 x4 h hf
    exact absurd (show (none : Option (Int32 × mm_H)) = some (r, h1) from hf) (by simp)
  | succ n ih =>
    intro x2 x4 h hf hk161
    have hf : fX12_isTrue_L15_b b0 b1 b3 K161 (fX12_isTrue_L15 b0 b1 b3 K161 n) x2 x4 h = some (r, h1) := hf
    unfold fX12_isTrue_L15_b at hf
    refine me_iload (q := 17) C dX12_isTrue_15 rfl rfl ?_
    refine me_aload_n (q := 18) C dX12_isTrue_17 rfl rfl rfl ?_
    obtain ⟨k7, hf⟩ := mm_ck_some hf
    refine me_getR (q := 21) C dX12_isTrue_18 mf_X12_69 rfl rfl k7 rfl ?_
    refine me_iload_n (q := 22) C dX12_isTrue_21 rfl rfl rfl ?_
    obtain ⟨u8, eu8, hf⟩ := mm_rf_some hf
    obtain ⟨k9, hf⟩ := mm_ck_some hf
    obtain ⟨k10, hf⟩ := mm_ck_some hf
    refine me_iald (q := 23) C dX12_isTrue_22 eu8 k9 k10 rfl ?_
    refine me_icmp_ge (q2 := 161) (q := 26) C dX12_isTrue_23 (by decide) rfl (fun c11 => ?_) (fun c11 => ?_)
    · have hf := mm_if_t c11 hf
      refine me_mask [true, false, false, false, false, false, false] (lv2 := [some (vR (some b0)), none, none, none, none, none, none]) rfl ?_
      exact hk161 _ hf
    · have hf := mm_if_f c11 hf
      refine me_aload_n (q := 27) C dX12_isTrue_26 rfl rfl rfl ?_
      refine me_getR (q := 30) C dX12_isTrue_27 mf_X12_72 rfl rfl k7 rfl ?_
      refine me_sipush (v := (400 : Int32)) (q := 33) C dX12_isTrue_30 (by decide) rfl ?_
      refine me_iload_n (q := 34) C dX12_isTrue_33 rfl rfl rfl ?_
      refine me_imul (q := 35) C dX12_isTrue_34 rfl ?_
      refine me_iload (q := 37) C dX12_isTrue_35 rfl rfl ?_
      refine me_iadd (q := 38) C dX12_isTrue_37 rfl ?_
      obtain ⟨u12, eu12, hf⟩ := mm_rf_some hf
      obtain ⟨k13, hf⟩ := mm_ck_some hf
      obtain ⟨k14, hf⟩ := mm_ck_some hf
      refine me_iald (q := 39) C dX12_isTrue_38 eu12 k13 k14 rfl ?_
      obtain ⟨v15, ev15, hf⟩ := mm_lt_some hf
      refine me_topI ev15 ?_
      refine me_istore (q := 41) (lv2 := [some (vR (some b0)), some (vI b1), some (vI x2), some (vI b3), some (vI x4), some (vI v15), none]) C dX12_isTrue_39 (Nat.le_of_ble_eq_true rfl) rfl rfl rfl ?_
      refine me_aload_n (q := 42) C dX12_isTrue_41 rfl rfl rfl ?_
      refine me_getR (q := 45) C dX12_isTrue_42 mf_X12_75 rfl rfl k7 rfl ?_
      refine me_sipush (v := (400 : Int32)) (q := 48) C dX12_isTrue_45 (by decide) rfl ?_
      refine me_iload_n (q := 49) C dX12_isTrue_48 rfl rfl rfl ?_
      refine me_imul (q := 50) C dX12_isTrue_49 rfl ?_
      refine me_iload (q := 52) C dX12_isTrue_50 rfl rfl ?_
      refine me_iadd (q := 53) C dX12_isTrue_52 rfl ?_
      obtain ⟨u16, eu16, hf⟩ := mm_rf_some hf
      obtain ⟨k17, hf⟩ := mm_ck_some hf
      obtain ⟨k18, hf⟩ := mm_ck_some hf
      refine me_iald (q := 54) C dX12_isTrue_53 eu16 k17 k18 rfl ?_
      obtain ⟨v19, ev19, hf⟩ := mm_lt_some hf
      refine me_topI ev19 ?_
      refine me_istore (q := 56) (lv2 := [some (vR (some b0)), some (vI b1), some (vI x2), some (vI b3), some (vI x4), some (vI v15), some (vI v19)]) C dX12_isTrue_54 (Nat.le_of_ble_eq_true rfl) rfl rfl rfl ?_
      refine me_iload (q := 58) C dX12_isTrue_56 rfl rfl ?_
      obtain ⟨q22, eq22, hf⟩ := mm_jn_some hf
      have Hq22 : ∀ (v20 : Int32) (g21 : mm_H), q22 v20 g21 = some (r, h1) → mm_E X g21 0 0 155 [some (vR (some b0)), some (vI b1), some (vI v20), some (vI b3), some (vI x4), none, none] [] := by
        intro v20 g21 hf
        subst eq22
        obtain ⟨v23, ev23, hf⟩ := mm_lt_some hf
        refine me_iinc (q := 158) (v := v23) (lv2 := [some (vR (some b0)), some (vI b1), some (vI v20), some (vI b3), some (vI v23), none, none]) C dX12_isTrue_155 rfl (by rw [ev23]; rfl) (Nat.le_of_ble_eq_true rfl) rfl rfl rfl ?_
        refine me_goto (q := 15) C dX12_isTrue_158 (by decide) ?_
        exact ih _ _ _ hf hk161
      obtain ⟨q24, eq24, hf⟩ := mm_jn_some hf
      have Hq24 : ∀ (_u : Unit), q24 _u = some (r, h1) → mm_E X h 0 0 67 [some (vR (some b0)), some (vI b1), some (vI x2), some (vI b3), some (vI x4), some (vI v15), some (vI v19)] [] := by
        intro _u hf
        subst eq24
        refine me_aload_n (q := 68) C dX12_isTrue_67 rfl rfl rfl ?_
        refine me_getR (q := 71) C dX12_isTrue_68 mf_X12_81 rfl rfl k7 rfl ?_
        refine me_iload_n (q := 72) C dX12_isTrue_71 rfl rfl rfl ?_
        refine me_iload (q := 74) C dX12_isTrue_72 rfl rfl ?_
        obtain ⟨q26, eq26, hf⟩ := mm_jn_some hf
        have Hq26 : ∀ (v25 : Int64), q26 v25 = some (r, h1) → mm_E X h 0 0 90 [some (vR (some b0)), some (vI b1), some (vI x2), some (vI b3), some (vI x4), none, none] [vJ v25, vI x2, vR (mm_r h b0 36)] := by
          intro v25 hf
          subst eq26
          obtain ⟨u27, eu27, hf⟩ := mm_rf_some hf
          obtain ⟨k28, hf⟩ := mm_ck_some hf
          obtain ⟨k29, hf⟩ := mm_ck_some hf
          obtain ⟨g30, eg30, hf⟩ := mm_lt_some hf
          refine me_lastH (q := 91) C eg30 dX12_isTrue_90 eu27 k28 k29 rfl ?_
          obtain ⟨v31, ev31, hf⟩ := mm_lt_some hf
          refine me_iinc (q := 94) (v := v31) (lv2 := [some (vR (some b0)), some (vI b1), some (vI v31), some (vI b3), some (vI x4), none, none]) C dX12_isTrue_91 rfl (by rw [ev31]; rfl) (Nat.le_of_ble_eq_true rfl) rfl rfl rfl ?_
          refine me_goto (q := 155) C dX12_isTrue_94 (by decide) ?_
          exact Hq22 _ _ hf
        refine me_if_ne (q2 := 83) (q := 77) C dX12_isTrue_74 (by decide) rfl (fun c32 => ?_) (fun c32 => ?_)
        · have hf := mm_if_t c32 hf
          refine me_aload_n (q := 84) C dX12_isTrue_83 rfl rfl rfl ?_
          refine me_getR (q := 87) C dX12_isTrue_84 mf_X12_85 rfl rfl k7 rfl ?_
          refine me_iload (q := 89) C dX12_isTrue_87 rfl rfl ?_
          obtain ⟨u33, eu33, hf⟩ := mm_rf_some hf
          obtain ⟨k34, hf⟩ := mm_ck_some hf
          obtain ⟨k35, hf⟩ := mm_ck_some hf
          refine me_lald (q := 90) C dX12_isTrue_89 eu33 k34 k35 rfl ?_
          refine me_mask [true, true, true, true, true, false, false] (lv2 := [some (vR (some b0)), some (vI b1), some (vI x2), some (vI b3), some (vI x4), none, none]) rfl ?_
          exact Hq26 _ hf
        · have hf := mm_if_f c32 hf
          refine me_iload (q := 79) C dX12_isTrue_77 rfl rfl ?_
          refine me_i2l (q := 80) C dX12_isTrue_79 rfl ?_
          refine me_goto (q := 90) C dX12_isTrue_80 (by decide) ?_
          refine me_mask [true, true, true, true, true, false, false] (lv2 := [some (vR (some b0)), some (vI b1), some (vI x2), some (vI b3), some (vI x4), none, none]) rfl ?_
          exact Hq26 _ hf
      refine me_if_eq (q2 := 67) (q := 61) C dX12_isTrue_58 (by decide) rfl (fun c36 => ?_) (fun c36 => ?_)
      · have hf := mm_if_t c36 hf
        exact Hq24 () hf
      · have hf := mm_if_f c36 hf
        refine me_iload (q := 63) C dX12_isTrue_61 rfl rfl ?_
        refine me_iconst (v := (1 : Int32)) (q := 64) C dX12_isTrue_63 (by decide) rfl ?_
        refine me_icmp_ne (q2 := 97) (q := 67) C dX12_isTrue_64 (by decide) rfl (fun c37 => ?_) (fun c37 => ?_)
        · have hf := mm_if_t c37 hf
          refine me_iload (q := 99) C dX12_isTrue_97 rfl rfl ?_
          refine me_bipush (v := (14 : Int32)) (q := 101) C dX12_isTrue_99 (by decide) rfl ?_
          refine me_icmp_ne (q2 := 125) (q := 104) C dX12_isTrue_101 (by decide) rfl (fun c38 => ?_) (fun c38 => ?_)
          · have hf := mm_if_t c38 hf
            obtain ⟨v39, ev39, hf⟩ := mm_lt_some hf
            refine me_iinc (q := 128) (v := v39) (lv2 := [some (vR (some b0)), some (vI b1), some (vI v39), some (vI b3), some (vI x4), some (vI v15), some (vI v19)]) C dX12_isTrue_125 rfl (by rw [ev39]; rfl) (Nat.le_of_ble_eq_true rfl) rfl rfl rfl ?_
            refine me_aload_n (q := 129) C dX12_isTrue_128 rfl rfl rfl ?_
            refine me_getR (q := 132) C dX12_isTrue_129 mf_X12_81 rfl rfl k7 rfl ?_
            refine me_iload_n (q := 133) C dX12_isTrue_132 rfl rfl rfl ?_
            refine me_iconst (v := (1 : Int32)) (q := 134) C dX12_isTrue_133 (by decide) rfl ?_
            refine me_isub (q := 135) C dX12_isTrue_134 rfl ?_
            refine me_iload (q := 137) C dX12_isTrue_135 rfl rfl ?_
            refine me_aload_n (q := 138) C dX12_isTrue_137 rfl rfl rfl ?_
            refine me_getR (q := 141) C dX12_isTrue_138 mf_X12_81 rfl rfl k7 rfl ?_
            refine me_iload_n (q := 142) C dX12_isTrue_141 rfl rfl rfl ?_
            refine me_iconst (v := (1 : Int32)) (q := 143) C dX12_isTrue_142 (by decide) rfl ?_
            refine me_isub (q := 144) C dX12_isTrue_143 rfl ?_
            obtain ⟨u40, eu40, hf⟩ := mm_rf_some hf
            obtain ⟨k41, hf⟩ := mm_ck_some hf
            obtain ⟨k42, hf⟩ := mm_ck_some hf
            refine me_lald (q := 145) C dX12_isTrue_144 eu40 k41 k42 rfl ?_
            refine me_aload_n (q := 146) C dX12_isTrue_145 rfl rfl rfl ?_
            refine me_getR (q := 149) C dX12_isTrue_146 mf_X12_81 rfl rfl k7 rfl ?_
            refine me_iload_n (q := 150) C dX12_isTrue_149 rfl rfl rfl ?_
            obtain ⟨k43, hf⟩ := mm_ck_some hf
            refine me_lald (q := 151) C dX12_isTrue_150 eu40 k41 k43 rfl ?_
            obtain ⟨v44, g45, e46, hf⟩ := mm_cl_some hf
            refine me_callS (q := 154) (c2 := 0) (s2 := 0) (st := [vI (v39 - (1 : Int32)), vR (mm_r h b0 36)]) C (cX12_joins_ok _ e46) mt_X12_458 ms_X12_joins dX12_isTrue_151 rfl rfl rfl (Nat.le_of_ble_eq_true rfl) rfl (Nat.le_of_ble_eq_true rfl) rfl (Nat.le_of_ble_eq_true rfl) rfl rfl ?_
            obtain ⟨k47, hf⟩ := mm_ck_some hf
            obtain ⟨k48, hf⟩ := mm_ck_some hf
            obtain ⟨g49, eg49, hf⟩ := mm_lt_some hf
            refine me_lastH (q := 155) C eg49 dX12_isTrue_154 eu40 k47 k48 rfl ?_
            refine me_mask [true, true, true, true, true, false, false] (lv2 := [some (vR (some b0)), some (vI b1), some (vI v39), some (vI b3), some (vI x4), none, none]) rfl ?_
            exact Hq22 _ _ hf
          · have hf := mm_if_f c38 hf
            refine me_aload_n (q := 105) C dX12_isTrue_104 rfl rfl rfl ?_
            refine me_getR (q := 108) C dX12_isTrue_105 mf_X12_81 rfl rfl k7 rfl ?_
            refine me_iload_n (q := 109) C dX12_isTrue_108 rfl rfl rfl ?_
            refine me_iconst (v := (1 : Int32)) (q := 110) C dX12_isTrue_109 (by decide) rfl ?_
            refine me_isub (q := 111) C dX12_isTrue_110 rfl ?_
            refine me_lconst (v := (1 : Int64)) (q := 112) C dX12_isTrue_111 (by decide) rfl ?_
            refine me_aload_n (q := 113) C dX12_isTrue_112 rfl rfl rfl ?_
            refine me_getR (q := 116) C dX12_isTrue_113 mf_X12_81 rfl rfl k7 rfl ?_
            refine me_iload_n (q := 117) C dX12_isTrue_116 rfl rfl rfl ?_
            refine me_iconst (v := (1 : Int32)) (q := 118) C dX12_isTrue_117 (by decide) rfl ?_
            refine me_isub (q := 119) C dX12_isTrue_118 rfl ?_
            obtain ⟨u50, eu50, hf⟩ := mm_rf_some hf
            obtain ⟨k51, hf⟩ := mm_ck_some hf
            obtain ⟨k52, hf⟩ := mm_ck_some hf
            refine me_lald (q := 120) C dX12_isTrue_119 eu50 k51 k52 rfl ?_
            refine me_lsub (q := 121) C dX12_isTrue_120 rfl ?_
            obtain ⟨k53, hf⟩ := mm_ck_some hf
            obtain ⟨g54, eg54, hf⟩ := mm_lt_some hf
            refine me_lastH (q := 122) C eg54 dX12_isTrue_121 eu50 k51 k53 rfl ?_
            refine me_goto (q := 155) C dX12_isTrue_122 (by decide) ?_
            refine me_mask [true, true, true, true, true, false, false] (lv2 := [some (vR (some b0)), some (vI b1), some (vI x2), some (vI b3), some (vI x4), none, none]) rfl ?_
            exact Hq22 _ _ hf
        · have hf := mm_if_f c37 hf
          exact Hq24 () hf
set_option maxRecDepth 100000 in
set_option maxHeartbeats 4000000 in
theorem cX12_isTrue_ok (l : Launch) {a0 : Nat} {a1 : Int32} {h : mm_H} {r : Int32} {h1 : mm_H} (hf : fX12_isTrue a0 a1 h = some (r, h1)) : mm_M l yX12_isTrue cX12_isTrue 7 (some .boolean) 6 0 0 [vR (some a0), vI a1] h (some (vI r)) h1 := by
  refine mm_enter (lv := [some (vR (some a0)), some (vI a1), none, none, none, none, none]) (by decide) rfl (Nat.le_of_ble_eq_true rfl) ?_
  intro X hl C hE
  subst hl
  unfold fX12_isTrue at hf
  refine me_iconst (v := (0 : Int32)) (q := 1) C dX12_isTrue_0 (by decide) rfl ?_
  refine me_istore_n (q := 2) (lv2 := [some (vR (some a0)), some (vI a1), some (vI (0 : Int32)), none, none, none, none]) C dX12_isTrue_1 rfl (Nat.le_of_ble_eq_true rfl) rfl rfl rfl ?_
  refine me_iload_n (q := 3) C dX12_isTrue_2 rfl rfl rfl ?_
  refine me_bipush (v := (10 : Int32)) (q := 5) C dX12_isTrue_3 (by decide) rfl ?_
  refine me_idiv (q := 6) C dX12_isTrue_5 (by decide) rfl ?_
  obtain ⟨v1, ev1, hf⟩ := mm_lt_some hf
  refine me_topI ev1 ?_
  refine me_istore_n (q := 7) (lv2 := [some (vR (some a0)), some (vI a1), some (vI (0 : Int32)), some (vI v1), none, none, none]) C dX12_isTrue_6 rfl (Nat.le_of_ble_eq_true rfl) rfl rfl rfl ?_
  refine me_aload_n (q := 8) C dX12_isTrue_7 rfl rfl rfl ?_
  obtain ⟨k2, hf⟩ := mm_ck_some hf
  refine me_getR (q := 11) C dX12_isTrue_8 mf_X12_66 rfl rfl k2 rfl ?_
  refine me_iload_n (q := 12) C dX12_isTrue_11 rfl rfl rfl ?_
  obtain ⟨u3, eu3, hf⟩ := mm_rf_some hf
  obtain ⟨k4, hf⟩ := mm_ck_some hf
  obtain ⟨k5, hf⟩ := mm_ck_some hf
  refine me_iald (q := 13) C dX12_isTrue_12 eu3 k4 k5 rfl ?_
  obtain ⟨v6, ev6, hf⟩ := mm_lt_some hf
  refine me_topI ev6 ?_
  refine me_istore (q := 15) (lv2 := [some (vR (some a0)), some (vI a1), some (vI (0 : Int32)), some (vI v1), some (vI v6), none, none]) C dX12_isTrue_13 (Nat.le_of_ble_eq_true rfl) rfl rfl rfl ?_
  refine cX12_isTrue_L15 C hE _ _ _ _ _ hf ?_
  · intro g55 hf
    refine me_aload_n (q := 162) C dX12_isTrue_161 rfl rfl rfl ?_
    obtain ⟨k56, hf⟩ := mm_ck_some hf
    refine me_getR (q := 165) C dX12_isTrue_162 mf_X12_81 rfl rfl k56 rfl ?_
    refine me_iconst (v := (0 : Int32)) (q := 166) C dX12_isTrue_165 (by decide) rfl ?_
    obtain ⟨u57, eu57, hf⟩ := mm_rf_some hf
    obtain ⟨k58, hf⟩ := mm_ck_some hf
    obtain ⟨k59, hf⟩ := mm_ck_some hf
    refine me_lald (q := 167) C dX12_isTrue_166 eu57 k58 k59 rfl ?_
    refine me_lconst (v := (1 : Int64)) (q := 168) C dX12_isTrue_167 (by decide) rfl ?_
    refine me_lcmp (q := 169) C dX12_isTrue_168 rfl ?_
    refine me_if_ne (q2 := 176) (q := 172) C dX12_isTrue_169 (by decide) rfl (fun c60 => ?_) (fun c60 => ?_)
    · have hf := mm_if_t c60 hf
      refine me_iconst (v := (0 : Int32)) (q := 177) C dX12_isTrue_176 (by decide) rfl ?_
      exact me_zret C hE (Nat.le_of_ble_eq_true rfl) (Nat.le_of_ble_eq_true rfl) rfl (Or.inl rfl) dX12_isTrue_177 (mm_ri hf)
    · have hf := mm_if_f c60 hf
      refine me_iconst (v := (1 : Int32)) (q := 173) C dX12_isTrue_172 (by decide) rfl ?_
      refine me_goto (q := 177) C dX12_isTrue_173 (by decide) ?_
      exact me_zret C hE (Nat.le_of_ble_eq_true rfl) (Nat.le_of_ble_eq_true rfl) rfl (Or.inr rfl) dX12_isTrue_177 (mm_ri hf)
set_option maxRecDepth 100000 in
set_option maxHeartbeats 4000000 in
theorem cX12_shut_ok (l : Launch) {a0 : Nat} {a1 : Int32} {a2 : Int32} {a3 : Int32} {h : mm_H} {r : Int32} {h1 : mm_H} (hf : fX12_shut a0 a1 a2 a3 h = some (r, h1)) : mm_M l yX12_shut cX12_shut 4 (some .int) 6 0 0 [vR (some a0), vI a1, vI a2, vI a3] h (some (vI r)) h1 := by
  refine mm_enter (lv := [some (vR (some a0)), some (vI a1), some (vI a2), some (vI a3)]) (by decide) rfl (Nat.le_of_ble_eq_true rfl) ?_
  intro X hl C hE
  subst hl
  unfold fX12_shut at hf
  refine me_aload_n (q := 1) C dX12_shut_0 rfl rfl rfl ?_
  obtain ⟨k1, hf⟩ := mm_ck_some hf
  refine me_getI (q := 4) C dX12_shut_1 mf_X12_466 rfl rfl k1 rfl ?_
  refine me_bipush (v := (20 : Int32)) (q := 6) C dX12_shut_4 (by decide) rfl ?_
  refine me_icmp_eq (q2 := 37) (q := 9) C dX12_shut_6 (by decide) rfl (fun c2 => ?_) (fun c2 => ?_)
  · have hf := mm_if_t c2 hf
    refine me_iconst (v := (-1 : Int32)) (q := 38) C dX12_shut_37 (by decide) rfl ?_
    exact me_iret C hE (Nat.le_of_ble_eq_true rfl) (Nat.le_of_ble_eq_true rfl) rfl dX12_shut_38 (mm_ri hf)
  · have hf := mm_if_f c2 hf
    refine me_iload_n (q := 10) C dX12_shut_9 rfl rfl rfl ?_
    refine me_iconst (v := (0 : Int32)) (q := 11) C dX12_shut_10 (by decide) rfl ?_
    refine me_bipush (v := (7 : Int32)) (q := 13) C dX12_shut_11 (by decide) rfl ?_
    obtain ⟨v3, g4, e5, hf⟩ := mm_cl_some hf
    refine me_callS (q := 16) (c2 := 0) (s2 := 0) (st := []) C (cX12_in_ok _ e5) mt_X12_269 ms_X12_in dX12_shut_13 rfl rfl rfl (Nat.le_of_ble_eq_true rfl) rfl (Nat.le_of_ble_eq_true rfl) rfl (Nat.le_of_ble_eq_true rfl) rfl rfl ?_
    refine me_if_eq (q2 := 37) (q := 19) C dX12_shut_16 (by decide) rfl (fun c6 => ?_) (fun c6 => ?_)
    · have hf := mm_if_t c6 hf
      refine me_iconst (v := (-1 : Int32)) (q := 38) C dX12_shut_37 (by decide) rfl ?_
      exact me_iret C hE (Nat.le_of_ble_eq_true rfl) (Nat.le_of_ble_eq_true rfl) rfl dX12_shut_38 (mm_ri hf)
    · have hf := mm_if_f c6 hf
      refine me_iload_n (q := 20) C dX12_shut_19 rfl rfl rfl ?_
      obtain ⟨v7, g8, e9, hf⟩ := mm_cl_some hf
      refine me_callS (q := 23) (c2 := 0) (s2 := 0) (st := []) C (cX12_isDay_ok _ e9) mt_X12_451 ms_X12_isDay dX12_shut_20 rfl rfl rfl (Nat.le_of_ble_eq_true rfl) rfl (Nat.le_of_ble_eq_true rfl) rfl (Nat.le_of_ble_eq_true rfl) rfl rfl ?_
      refine me_if_eq (q2 := 37) (q := 26) C dX12_shut_23 (by decide) rfl (fun c10 => ?_) (fun c10 => ?_)
      · have hf := mm_if_t c10 hf
        refine me_iconst (v := (-1 : Int32)) (q := 38) C dX12_shut_37 (by decide) rfl ?_
        exact me_iret C hE (Nat.le_of_ble_eq_true rfl) (Nat.le_of_ble_eq_true rfl) rfl dX12_shut_38 (mm_ri hf)
      · have hf := mm_if_f c10 hf
        refine me_iload_n (q := 27) C dX12_shut_26 rfl rfl rfl ?_
        refine me_iload_n (q := 28) C dX12_shut_27 rfl rfl rfl ?_
        refine me_sipush (v := (3999 : Int32)) (q := 31) C dX12_shut_28 (by decide) rfl ?_
        obtain ⟨v11, g12, e13, hf⟩ := mm_cl_some hf
        refine me_callS (q := 34) (c2 := 0) (s2 := 0) (st := []) C (cX12_in_ok _ e13) mt_X12_269 ms_X12_in dX12_shut_31 rfl rfl rfl (Nat.le_of_ble_eq_true rfl) rfl (Nat.le_of_ble_eq_true rfl) rfl (Nat.le_of_ble_eq_true rfl) rfl rfl ?_
        refine me_if_ne (q2 := 39) (q := 37) C dX12_shut_34 (by decide) rfl (fun c14 => ?_) (fun c14 => ?_)
        · have hf := mm_if_t c14 hf
          refine me_aload_n (q := 40) C dX12_shut_39 rfl rfl rfl ?_
          obtain ⟨k15, hf⟩ := mm_ck_some hf
          refine me_getR (q := 43) C dX12_shut_40 mf_X12_88 rfl rfl k15 rfl ?_
          refine me_aload_n (q := 44) C dX12_shut_43 rfl rfl rfl ?_
          refine me_getI (q := 47) C dX12_shut_44 mf_X12_466 rfl rfl k15 rfl ?_
          refine me_iload_n (q := 48) C dX12_shut_47 rfl rfl rfl ?_
          obtain ⟨u16, eu16, hf⟩ := mm_rf_some hf
          obtain ⟨k17, hf⟩ := mm_ck_some hf
          obtain ⟨k18, hf⟩ := mm_ck_some hf
          obtain ⟨g19, eg19, hf⟩ := mm_lt_some hf
          refine me_iastH (q := 49) C eg19 dX12_shut_48 eu16 k17 k18 rfl ?_
          refine me_aload_n (q := 50) C dX12_shut_49 rfl rfl rfl ?_
          refine me_getR (q := 53) C dX12_shut_50 mf_X12_91 rfl rfl (mm_kI eg19 k15) rfl ?_
          refine me_aload_n (q := 54) C dX12_shut_53 rfl rfl rfl ?_
          refine me_getI (q := 57) C dX12_shut_54 mf_X12_466 rfl rfl (mm_kI eg19 k15) rfl ?_
          refine me_iload_n (q := 58) C dX12_shut_57 rfl rfl rfl ?_
          obtain ⟨u20, eu20, hf⟩ := mm_rf_some hf
          obtain ⟨k21, hf⟩ := mm_ck_some hf
          obtain ⟨k22, hf⟩ := mm_ck_some hf
          obtain ⟨g23, eg23, hf⟩ := mm_lt_some hf
          refine me_iastH (q := 59) C eg23 dX12_shut_58 eu20 k21 k22 rfl ?_
          refine me_aload_n (q := 60) C dX12_shut_59 rfl rfl rfl ?_
          refine me_getR (q := 63) C dX12_shut_60 mf_X12_94 rfl rfl (mm_kI eg23 (mm_kI eg19 k15)) rfl ?_
          refine me_aload_n (q := 64) C dX12_shut_63 rfl rfl rfl ?_
          refine me_getI (q := 67) C dX12_shut_64 mf_X12_466 rfl rfl (mm_kI eg23 (mm_kI eg19 k15)) rfl ?_
          refine me_iload_n (q := 68) C dX12_shut_67 rfl rfl rfl ?_
          obtain ⟨u24, eu24, hf⟩ := mm_rf_some hf
          obtain ⟨k25, hf⟩ := mm_ck_some hf
          obtain ⟨k26, hf⟩ := mm_ck_some hf
          obtain ⟨g27, eg27, hf⟩ := mm_lt_some hf
          refine me_iastH (q := 69) C eg27 dX12_shut_68 eu24 k25 k26 rfl ?_
          refine me_aload_n (q := 70) C dX12_shut_69 rfl rfl rfl ?_
          refine me_getR (q := 73) C dX12_shut_70 mf_X12_97 rfl rfl (mm_kI eg27 (mm_kI eg23 (mm_kI eg19 k15))) rfl ?_
          refine me_aload_n (q := 74) C dX12_shut_73 rfl rfl rfl ?_
          refine me_getI (q := 77) C dX12_shut_74 mf_X12_466 rfl rfl (mm_kI eg27 (mm_kI eg23 (mm_kI eg19 k15))) rfl ?_
          refine me_ldc_w (v := (100000 : Int32)) (q := 80) C dX12_shut_77 mc_X12_280 rfl ?_
          obtain ⟨u28, eu28, hf⟩ := mm_rf_some hf
          obtain ⟨k29, hf⟩ := mm_ck_some hf
          obtain ⟨k30, hf⟩ := mm_ck_some hf
          obtain ⟨g31, eg31, hf⟩ := mm_lt_some hf
          refine me_iastH (q := 81) C eg31 dX12_shut_80 eu28 k29 k30 rfl ?_
          refine me_aload_n (q := 82) C dX12_shut_81 rfl rfl rfl ?_
          refine me_dup (q := 83) C dX12_shut_82 rfl rfl ?_
          refine me_getI (q := 86) C dX12_shut_83 mf_X12_466 rfl rfl (mm_kI eg31 (mm_kI eg27 (mm_kI eg23 (mm_kI eg19 k15)))) rfl ?_
          refine me_iconst (v := (1 : Int32)) (q := 87) C dX12_shut_86 (by decide) rfl ?_
          refine me_iadd (q := 88) C dX12_shut_87 rfl ?_
          obtain ⟨g32, eg32, hf⟩ := mm_lt_some hf
          refine me_putI (q := 91) C eg32 dX12_shut_88 mf_X12_466 mp_X12_13_38 rfl (by decide) rfl (mm_kI eg31 (mm_kI eg27 (mm_kI eg23 (mm_kI eg19 k15)))) rfl ?_
          refine me_aload_n (q := 92) C dX12_shut_91 rfl rfl rfl ?_
          refine me_getI (q := 95) C dX12_shut_92 mf_X12_466 rfl rfl (mm_kI eg32 (mm_kI eg31 (mm_kI eg27 (mm_kI eg23 (mm_kI eg19 k15))))) rfl ?_
          refine me_iconst (v := (1 : Int32)) (q := 96) C dX12_shut_95 (by decide) rfl ?_
          refine me_isub (q := 97) C dX12_shut_96 rfl ?_
          exact me_iret C hE (Nat.le_of_ble_eq_true rfl) (Nat.le_of_ble_eq_true rfl) rfl dX12_shut_97 (mm_ri hf)
        · have hf := mm_if_f c14 hf
          refine me_iconst (v := (-1 : Int32)) (q := 38) C dX12_shut_37 (by decide) rfl ?_
          exact me_iret C hE (Nat.le_of_ble_eq_true rfl) (Nat.le_of_ble_eq_true rfl) rfl dX12_shut_38 (mm_ri hf)
set_option maxRecDepth 100000 in
set_option maxHeartbeats 4000000 in
theorem cX12_readShut_ok (l : Launch) {a0 : Nat} {a1 : Int32} {h : mm_H} {r : Int32} {h1 : mm_H} (hf : fX12_readShut a0 a1 h = some (r, h1)) : mm_M l yX12_readShut cX12_readShut 2 (some .boolean) 4 0 0 [vR (some a0), vI a1] h (some (vI r)) h1 := by
  refine mm_enter (lv := [some (vR (some a0)), some (vI a1)]) (by decide) rfl (Nat.le_of_ble_eq_true rfl) ?_
  intro X hl C hE
  subst hl
  unfold fX12_readShut at hf
  refine me_iload_n (q := 1) C dX12_readShut_0 rfl rfl rfl ?_
  refine me_iconst (v := (0 : Int32)) (q := 2) C dX12_readShut_1 (by decide) rfl ?_
  refine me_aload_n (q := 3) C dX12_readShut_2 rfl rfl rfl ?_
  obtain ⟨k1, hf⟩ := mm_ck_some hf
  refine me_getI (q := 6) C dX12_readShut_3 mf_X12_466 rfl rfl k1 rfl ?_
  refine me_iconst (v := (1 : Int32)) (q := 7) C dX12_readShut_6 (by decide) rfl ?_
  refine me_isub (q := 8) C dX12_readShut_7 rfl ?_
  obtain ⟨v2, g3, e4, hf⟩ := mm_cl_some hf
  refine me_callS (q := 11) (c2 := 0) (s2 := 0) (st := []) C (cX12_in_ok _ e4) mt_X12_269 ms_X12_in dX12_readShut_8 rfl rfl rfl (Nat.le_of_ble_eq_true rfl) rfl (Nat.le_of_ble_eq_true rfl) rfl (Nat.le_of_ble_eq_true rfl) rfl rfl ?_
  refine me_if_eq (q2 := 26) (q := 14) C dX12_readShut_11 (by decide) rfl (fun c5 => ?_) (fun c5 => ?_)
  · have hf := mm_if_t c5 hf
    refine me_iconst (v := (0 : Int32)) (q := 27) C dX12_readShut_26 (by decide) rfl ?_
    exact me_zret C hE (Nat.le_of_ble_eq_true rfl) (Nat.le_of_ble_eq_true rfl) rfl (Or.inl rfl) dX12_readShut_27 (mm_ri hf)
  · have hf := mm_if_f c5 hf
    refine me_aload_n (q := 15) C dX12_readShut_14 rfl rfl rfl ?_
    obtain ⟨k6, hf⟩ := mm_ck_some hf
    refine me_getR (q := 18) C dX12_readShut_15 mf_X12_97 rfl rfl k6 rfl ?_
    refine me_iload_n (q := 19) C dX12_readShut_18 rfl rfl rfl ?_
    obtain ⟨u7, eu7, hf⟩ := mm_rf_some hf
    obtain ⟨k8, hf⟩ := mm_ck_some hf
    obtain ⟨k9, hf⟩ := mm_ck_some hf
    refine me_iald (q := 20) C dX12_readShut_19 eu7 k8 k9 rfl ?_
    refine me_ldc_w (v := (100000 : Int32)) (q := 23) C dX12_readShut_20 mc_X12_280 rfl ?_
    refine me_icmp_eq (q2 := 28) (q := 26) C dX12_readShut_23 (by decide) rfl (fun c10 => ?_) (fun c10 => ?_)
    · have hf := mm_if_t c10 hf
      refine me_aload_n (q := 29) C dX12_readShut_28 rfl rfl rfl ?_
      refine me_getR (q := 32) C dX12_readShut_29 mf_X12_97 rfl rfl k6 rfl ?_
      refine me_iload_n (q := 33) C dX12_readShut_32 rfl rfl rfl ?_
      refine me_aload_n (q := 34) C dX12_readShut_33 rfl rfl rfl ?_
      refine me_getI (q := 37) C dX12_readShut_34 mf_X12_273 rfl rfl k6 rfl ?_
      obtain ⟨k11, hf⟩ := mm_ck_some hf
      obtain ⟨g12, eg12, hf⟩ := mm_lt_some hf
      refine me_iastH (q := 38) C eg12 dX12_readShut_37 eu7 k8 k11 rfl ?_
      refine me_iconst (v := (1 : Int32)) (q := 39) C dX12_readShut_38 (by decide) rfl ?_
      exact me_zret C hE (Nat.le_of_ble_eq_true rfl) (Nat.le_of_ble_eq_true rfl) rfl (Or.inr rfl) dX12_readShut_39 (mm_ri hf)
    · have hf := mm_if_f c10 hf
      refine me_iconst (v := (0 : Int32)) (q := 27) C dX12_readShut_26 (by decide) rfl ?_
      exact me_zret C hE (Nat.le_of_ble_eq_true rfl) (Nat.le_of_ble_eq_true rfl) rfl (Or.inl rfl) dX12_readShut_27 (mm_ri hf)
set_option maxRecDepth 100000 in
set_option maxHeartbeats 4000000 in
theorem cX12_shuts_L6 {X : mm_X} (C : mm_C X cX12_shuts yX12_shuts 4 0 0) {r : Int32} {h1 : mm_H} (hE : mm_End X 0 0 (some .boolean) (some (vI r)) h1) {b0 : Nat} {b1 : Int32} {b2 : Int32} {b3 : Int32} (K76 : Int32 → mm_H → Option (Int32 × mm_H)) : ∀ (n : Nat) (x4 : Int32) (x5 : Int32) (h : mm_H), fX12_shuts_L6 b0 b1 b2 b3 K76 n x4 x5 h = some (r, h1) → (∀ (y4 : Int32) (h : mm_H), K76 y4 h = some (r, h1) → mm_E X h 0 0 76 [none, none, none, none, some (vI y4), none] []) → mm_E X h 0 0 6 [some (vR (some b0)), some (vI b1), some (vI b2), some (vI b3), some (vI x4), some (vI x5)] [] := by
  intro n
  induction n with
  | zero =>
    intro x4 x5 h hf
    exact absurd (show (none : Option (Int32 × mm_H)) = some (r, h1) from hf) (by simp)
  | succ n ih =>
    intro x4 x5 h hf hk76
    have hf : fX12_shuts_L6_b b0 b1 b2 b3 K76 (fX12_shuts_L6 b0 b1 b2 b3 K76 n) x4 x5 h = some (r, h1) := hf
    unfold fX12_shuts_L6_b at hf
    refine me_iload (q := 8) C dX12_shuts_6 rfl rfl ?_
    refine me_aload_n (q := 9) C dX12_shuts_8 rfl rfl rfl ?_
    obtain ⟨k1, hf⟩ := mm_ck_some hf
    refine me_getI (q := 12) C dX12_shuts_9 mf_X12_466 rfl rfl k1 rfl ?_
    refine me_icmp_ge (q2 := 76) (q := 15) C dX12_shuts_12 (by decide) rfl (fun c2 => ?_) (fun c2 => ?_)
    · have hf := mm_if_t c2 hf
      refine me_mask [false, false, false, false, true, false] (lv2 := [none, none, none, none, some (vI x4), none]) rfl ?_
      exact hk76 _ _ hf
    · have hf := mm_if_f c2 hf
      refine me_iload (q := 17) C dX12_shuts_15 rfl rfl ?_
      obtain ⟨q5, eq5, hf⟩ := mm_jn_some hf
      have Hq5 : ∀ (v3 : Int32) (g4 : mm_H), q5 v3 g4 = some (r, h1) → mm_E X g4 0 0 68 [some (vR (some b0)), some (vI b1), some (vI b2), some (vI b3), none, some (vI x5)] [vI v3] := by
        intro v3 g4 hf
        subst eq5
        refine me_istore (q := 70) (lv2 := [some (vR (some b0)), some (vI b1), some (vI b2), some (vI b3), some (vI v3), some (vI x5)]) C dX12_shuts_68 (Nat.le_of_ble_eq_true rfl) rfl rfl rfl ?_
        obtain ⟨v6, ev6, hf⟩ := mm_lt_some hf
        refine me_iinc (q := 73) (v := v6) (lv2 := [some (vR (some b0)), some (vI b1), some (vI b2), some (vI b3), some (vI v3), some (vI v6)]) C dX12_shuts_70 rfl (by rw [ev6]; rfl) (Nat.le_of_ble_eq_true rfl) rfl rfl rfl ?_
        refine me_goto (q := 6) C dX12_shuts_73 (by decide) ?_
        exact ih _ _ _ hf hk76
      obtain ⟨q8, eq8, hf⟩ := mm_jn_some hf
      have Hq8 : ∀ (g7 : mm_H), q8 g7 = some (r, h1) → mm_E X g7 0 0 63 [some (vR (some b0)), some (vI b1), some (vI b2), some (vI b3), none, some (vI x5)] [] := by
        intro g7 hf
        subst eq8
        refine me_iconst (v := (1 : Int32)) (q := 64) C dX12_shuts_63 (by decide) rfl ?_
        refine me_goto (q := 68) C dX12_shuts_64 (by decide) ?_
        exact Hq5 _ _ hf
      refine me_if_ne (q2 := 63) (q := 20) C dX12_shuts_17 (by decide) rfl (fun c9 => ?_) (fun c9 => ?_)
      · have hf := mm_if_t c9 hf
        refine me_mask [true, true, true, true, false, true] (lv2 := [some (vR (some b0)), some (vI b1), some (vI b2), some (vI b3), none, some (vI x5)]) rfl ?_
        exact Hq8 _ hf
      · have hf := mm_if_f c9 hf
        refine me_aload_n (q := 21) C dX12_shuts_20 rfl rfl rfl ?_
        refine me_getR (q := 24) C dX12_shuts_21 mf_X12_88 rfl rfl k1 rfl ?_
        refine me_iload (q := 26) C dX12_shuts_24 rfl rfl ?_
        obtain ⟨u10, eu10, hf⟩ := mm_rf_some hf
        obtain ⟨k11, hf⟩ := mm_ck_some hf
        obtain ⟨k12, hf⟩ := mm_ck_some hf
        refine me_iald (q := 27) C dX12_shuts_26 eu10 k11 k12 rfl ?_
        refine me_iload_n (q := 28) C dX12_shuts_27 rfl rfl rfl ?_
        obtain ⟨q14, eq14, hf⟩ := mm_jn_some hf
        have Hq14 : ∀ (g13 : mm_H), q14 g13 = some (r, h1) → mm_E X g13 0 0 67 [some (vR (some b0)), some (vI b1), some (vI b2), some (vI b3), none, some (vI x5)] [] := by
          intro g13 hf
          subst eq14
          refine me_iconst (v := (0 : Int32)) (q := 68) C dX12_shuts_67 (by decide) rfl ?_
          exact Hq5 _ _ hf
        refine me_icmp_ne (q2 := 67) (q := 31) C dX12_shuts_28 (by decide) rfl (fun c15 => ?_) (fun c15 => ?_)
        · have hf := mm_if_t c15 hf
          refine me_mask [true, true, true, true, false, true] (lv2 := [some (vR (some b0)), some (vI b1), some (vI b2), some (vI b3), none, some (vI x5)]) rfl ?_
          exact Hq14 _ hf
        · have hf := mm_if_f c15 hf
          refine me_iload_n (q := 32) C dX12_shuts_31 rfl rfl rfl ?_
          refine me_aload_n (q := 33) C dX12_shuts_32 rfl rfl rfl ?_
          refine me_getR (q := 36) C dX12_shuts_33 mf_X12_91 rfl rfl k1 rfl ?_
          refine me_iload (q := 38) C dX12_shuts_36 rfl rfl ?_
          obtain ⟨u16, eu16, hf⟩ := mm_rf_some hf
          obtain ⟨k17, hf⟩ := mm_ck_some hf
          obtain ⟨k18, hf⟩ := mm_ck_some hf
          refine me_iald (q := 39) C dX12_shuts_38 eu16 k17 k18 rfl ?_
          refine me_aload_n (q := 40) C dX12_shuts_39 rfl rfl rfl ?_
          refine me_getR (q := 43) C dX12_shuts_40 mf_X12_94 rfl rfl k1 rfl ?_
          refine me_iload (q := 45) C dX12_shuts_43 rfl rfl ?_
          obtain ⟨u19, eu19, hf⟩ := mm_rf_some hf
          obtain ⟨k20, hf⟩ := mm_ck_some hf
          obtain ⟨k21, hf⟩ := mm_ck_some hf
          refine me_iald (q := 46) C dX12_shuts_45 eu19 k20 k21 rfl ?_
          obtain ⟨v22, g23, e24, hf⟩ := mm_cl_some hf
          refine me_callS (q := 49) (c2 := 0) (s2 := 0) (st := []) C (cX12_in_ok _ e24) mt_X12_269 ms_X12_in dX12_shuts_46 rfl rfl rfl (Nat.le_of_ble_eq_true rfl) rfl (Nat.le_of_ble_eq_true rfl) rfl (Nat.le_of_ble_eq_true rfl) rfl rfl ?_
          refine me_if_eq (q2 := 67) (q := 52) C dX12_shuts_49 (by decide) rfl (fun c25 => ?_) (fun c25 => ?_)
          · have hf := mm_if_t c25 hf
            refine me_mask [true, true, true, true, false, true] (lv2 := [some (vR (some b0)), some (vI b1), some (vI b2), some (vI b3), none, some (vI x5)]) rfl ?_
            exact Hq14 _ hf
          · have hf := mm_if_f c25 hf
            refine me_aload_n (q := 53) C dX12_shuts_52 rfl rfl rfl ?_
            obtain ⟨k26, hf⟩ := mm_ck_some hf
            refine me_getR (q := 56) C dX12_shuts_53 mf_X12_97 rfl rfl k26 rfl ?_
            refine me_iload (q := 58) C dX12_shuts_56 rfl rfl ?_
            obtain ⟨u27, eu27, hf⟩ := mm_rf_some hf
            obtain ⟨k28, hf⟩ := mm_ck_some hf
            obtain ⟨k29, hf⟩ := mm_ck_some hf
            refine me_iald (q := 59) C dX12_shuts_58 eu27 k28 k29 rfl ?_
            refine me_iload_n (q := 60) C dX12_shuts_59 rfl rfl rfl ?_
            refine me_icmp_gt (q2 := 67) (q := 63) C dX12_shuts_60 (by decide) rfl (fun c30 => ?_) (fun c30 => ?_)
            · have hf := mm_if_t c30 hf
              refine me_mask [true, true, true, true, false, true] (lv2 := [some (vR (some b0)), some (vI b1), some (vI b2), some (vI b3), none, some (vI x5)]) rfl ?_
              exact Hq14 _ hf
            · have hf := mm_if_f c30 hf
              refine me_mask [true, true, true, true, false, true] (lv2 := [some (vR (some b0)), some (vI b1), some (vI b2), some (vI b3), none, some (vI x5)]) rfl ?_
              exact Hq8 _ hf
set_option maxRecDepth 100000 in
set_option maxHeartbeats 4000000 in
theorem cX12_shuts_ok (l : Launch) {a0 : Nat} {a1 : Int32} {a2 : Int32} {a3 : Int32} {h : mm_H} {r : Int32} {h1 : mm_H} (hf : fX12_shuts a0 a1 a2 a3 h = some (r, h1)) : mm_M l yX12_shuts cX12_shuts 6 (some .boolean) 4 0 0 [vR (some a0), vI a1, vI a2, vI a3] h (some (vI r)) h1 := by
  refine mm_enter (lv := [some (vR (some a0)), some (vI a1), some (vI a2), some (vI a3), none, none]) (by decide) rfl (Nat.le_of_ble_eq_true rfl) ?_
  intro X hl C hE
  subst hl
  unfold fX12_shuts at hf
  refine me_iconst (v := (0 : Int32)) (q := 1) C dX12_shuts_0 (by decide) rfl ?_
  refine me_istore (q := 3) (lv2 := [some (vR (some a0)), some (vI a1), some (vI a2), some (vI a3), some (vI (0 : Int32)), none]) C dX12_shuts_1 (Nat.le_of_ble_eq_true rfl) rfl rfl rfl ?_
  refine me_iconst (v := (0 : Int32)) (q := 4) C dX12_shuts_3 (by decide) rfl ?_
  refine me_istore (q := 6) (lv2 := [some (vR (some a0)), some (vI a1), some (vI a2), some (vI a3), some (vI (0 : Int32)), some (vI (0 : Int32))]) C dX12_shuts_4 (Nat.le_of_ble_eq_true rfl) rfl rfl rfl ?_
  refine cX12_shuts_L6 C hE _ _ _ _ _ hf ?_
  · intro z31 g32 hf
    refine me_iload (q := 78) C dX12_shuts_76 rfl rfl ?_
    obtain ⟨k33, hf⟩ := mm_ck_some hf
    exact me_zret C hE (Nat.le_of_ble_eq_true rfl) (Nat.le_of_ble_eq_true rfl) rfl k33 dX12_shuts_78 (mm_ri hf)
set_option maxRecDepth 100000 in
set_option maxHeartbeats 4000000 in
theorem cX12_isShut_ok (l : Launch) {a0 : Nat} {a1 : Int32} {a2 : Int32} {a3 : Int32} {h : mm_H} {r : Int32} {h1 : mm_H} (hf : fX12_isShut a0 a1 a2 a3 h = some (r, h1)) : mm_M l yX12_isShut cX12_isShut 4 (some .int) 6 0 0 [vR (some a0), vI a1, vI a2, vI a3] h (some (vI r)) h1 := by
  refine mm_enter (lv := [some (vR (some a0)), some (vI a1), some (vI a2), some (vI a3)]) (by decide) rfl (Nat.le_of_ble_eq_true rfl) ?_
  intro X hl C hE
  subst hl
  unfold fX12_isShut at hf
  refine me_iload_n (q := 1) C dX12_isShut_0 rfl rfl rfl ?_
  refine me_iconst (v := (0 : Int32)) (q := 2) C dX12_isShut_1 (by decide) rfl ?_
  refine me_bipush (v := (7 : Int32)) (q := 4) C dX12_isShut_2 (by decide) rfl ?_
  obtain ⟨v1, g2, e3, hf⟩ := mm_cl_some hf
  refine me_callS (q := 7) (c2 := 0) (s2 := 0) (st := []) C (cX12_in_ok _ e3) mt_X12_269 ms_X12_in dX12_isShut_4 rfl rfl rfl (Nat.le_of_ble_eq_true rfl) rfl (Nat.le_of_ble_eq_true rfl) rfl (Nat.le_of_ble_eq_true rfl) rfl rfl ?_
  refine me_if_eq (q2 := 42) (q := 10) C dX12_isShut_7 (by decide) rfl (fun c4 => ?_) (fun c4 => ?_)
  · have hf := mm_if_t c4 hf
    refine me_iconst (v := (-1 : Int32)) (q := 43) C dX12_isShut_42 (by decide) rfl ?_
    exact me_iret C hE (Nat.le_of_ble_eq_true rfl) (Nat.le_of_ble_eq_true rfl) rfl dX12_isShut_43 (mm_ri hf)
  · have hf := mm_if_f c4 hf
    refine me_iload_n (q := 11) C dX12_isShut_10 rfl rfl rfl ?_
    obtain ⟨v5, g6, e7, hf⟩ := mm_cl_some hf
    refine me_callS (q := 14) (c2 := 0) (s2 := 0) (st := []) C (cX12_isDay_ok _ e7) mt_X12_451 ms_X12_isDay dX12_isShut_11 rfl rfl rfl (Nat.le_of_ble_eq_true rfl) rfl (Nat.le_of_ble_eq_true rfl) rfl (Nat.le_of_ble_eq_true rfl) rfl rfl ?_
    refine me_if_eq (q2 := 42) (q := 17) C dX12_isShut_14 (by decide) rfl (fun c8 => ?_) (fun c8 => ?_)
    · have hf := mm_if_t c8 hf
      refine me_iconst (v := (-1 : Int32)) (q := 43) C dX12_isShut_42 (by decide) rfl ?_
      exact me_iret C hE (Nat.le_of_ble_eq_true rfl) (Nat.le_of_ble_eq_true rfl) rfl dX12_isShut_43 (mm_ri hf)
    · have hf := mm_if_f c8 hf
      refine me_iload_n (q := 18) C dX12_isShut_17 rfl rfl rfl ?_
      obtain ⟨v9, g10, e11, hf⟩ := mm_cl_some hf
      refine me_callS (q := 21) (c2 := 0) (s2 := 0) (st := []) C (cX12_isDay_ok _ e11) mt_X12_451 ms_X12_isDay dX12_isShut_18 rfl rfl rfl (Nat.le_of_ble_eq_true rfl) rfl (Nat.le_of_ble_eq_true rfl) rfl (Nat.le_of_ble_eq_true rfl) rfl rfl ?_
      refine me_if_eq (q2 := 42) (q := 24) C dX12_isShut_21 (by decide) rfl (fun c12 => ?_) (fun c12 => ?_)
      · have hf := mm_if_t c12 hf
        refine me_iconst (v := (-1 : Int32)) (q := 43) C dX12_isShut_42 (by decide) rfl ?_
        exact me_iret C hE (Nat.le_of_ble_eq_true rfl) (Nat.le_of_ble_eq_true rfl) rfl dX12_isShut_43 (mm_ri hf)
      · have hf := mm_if_f c12 hf
        refine me_aload_n (q := 25) C dX12_isShut_24 rfl rfl rfl ?_
        refine me_iload_n (q := 26) C dX12_isShut_25 rfl rfl rfl ?_
        refine me_iload_n (q := 27) C dX12_isShut_26 rfl rfl rfl ?_
        refine me_iload_n (q := 28) C dX12_isShut_27 rfl rfl rfl ?_
        obtain ⟨k13, hf⟩ := mm_ck_some hf
        obtain ⟨v14, g15, e16, hf⟩ := mm_cl_some hf
        refine me_callV (q := 31) (c2 := 0) (s2 := 0) (st := []) C (cX12_shuts_ok _ e16) mt_X12_469 mv_X12_shuts rfl (by decide) dX12_isShut_28 rfl k13 rfl rfl rfl (Nat.le_of_ble_eq_true rfl) rfl (Nat.le_of_ble_eq_true rfl) rfl (Nat.le_of_ble_eq_true rfl) rfl rfl ?_
        refine me_if_eq (q2 := 38) (q := 34) C dX12_isShut_31 (by decide) rfl (fun c17 => ?_) (fun c17 => ?_)
        · have hf := mm_if_t c17 hf
          refine me_iconst (v := (0 : Int32)) (q := 39) C dX12_isShut_38 (by decide) rfl ?_
          refine me_goto (q := 43) C dX12_isShut_39 (by decide) ?_
          exact me_iret C hE (Nat.le_of_ble_eq_true rfl) (Nat.le_of_ble_eq_true rfl) rfl dX12_isShut_43 (mm_ri hf)
        · have hf := mm_if_f c17 hf
          refine me_iconst (v := (1 : Int32)) (q := 35) C dX12_isShut_34 (by decide) rfl ?_
          refine me_goto (q := 43) C dX12_isShut_35 (by decide) ?_
          exact me_iret C hE (Nat.le_of_ble_eq_true rfl) (Nat.le_of_ble_eq_true rfl) rfl dX12_isShut_43 (mm_ri hf)
set_option maxRecDepth 100000 in
set_option maxHeartbeats 4000000 in
theorem cX12_owes_L63 {X : mm_X} (C : mm_C X cX12_owes yX12_owes 2 0 0) {r : Int32} {h1 : mm_H} (hE : mm_End X 0 0 (some .int) (some (vI r)) h1) {b0 : Nat} {b1 : Int32} {b2 : Int32} {b4 : Int32} (K96 : Int32 → mm_H → Option (Int32 × mm_H)) : ∀ (n : Nat) (x3 : Int32) (x5 : Int32) (h : mm_H), fX12_owes_L63 b0 b1 b2 b4 K96 n x3 x5 h = some (r, h1) → (∀ (y3 : Int32) (h : mm_H), K96 y3 h = some (r, h1) → mm_E X h 0 0 96 [some (vR (some b0)), some (vI b1), some (vI b2), some (vI y3), some (vI b4), none] []) → mm_E X h 0 0 63 [some (vR (some b0)), some (vI b1), some (vI b2), some (vI x3), some (vI b4), some (vI x5)] [] := by
  intro n
  induction n with
  | zero =>
    intro x3 x5 h hf
    exact absurd (show (none : Option (Int32 × mm_H)) = some (r, h1) from hf) (by simp)
  | succ n ih =>
    intro x3 x5 h hf hk96
    have hf : fX12_owes_L63_b b0 b1 b2 b4 K96 (fX12_owes_L63 b0 b1 b2 b4 K96 n) x3 x5 h = some (r, h1) := hf
    unfold fX12_owes_L63_b at hf
    refine me_iload (q := 65) C dX12_owes_63 rfl rfl ?_
    refine me_aload_n (q := 66) C dX12_owes_65 rfl rfl rfl ?_
    obtain ⟨k14, hf⟩ := mm_ck_some hf
    refine me_getR (q := 69) C dX12_owes_66 mf_X12_130 rfl rfl k14 rfl ?_
    refine me_iload (q := 71) C dX12_owes_69 rfl rfl ?_
    obtain ⟨u15, eu15, hf⟩ := mm_rf_some hf
    obtain ⟨k16, hf⟩ := mm_ck_some hf
    obtain ⟨k17, hf⟩ := mm_ck_some hf
    refine me_iald (q := 72) C dX12_owes_71 eu15 k16 k17 rfl ?_
    refine me_icmp_ge (q2 := 96) (q := 75) C dX12_owes_72 (by decide) rfl (fun c18 => ?_) (fun c18 => ?_)
    · have hf := mm_if_t c18 hf
      refine me_mask [true, true, true, true, true, false] (lv2 := [some (vR (some b0)), some (vI b1), some (vI b2), some (vI x3), some (vI b4), none]) rfl ?_
      exact hk96 _ _ hf
    · have hf := mm_if_f c18 hf
      refine me_iload_n (q := 76) C dX12_owes_75 rfl rfl rfl ?_
      refine me_aload_n (q := 77) C dX12_owes_76 rfl rfl rfl ?_
      refine me_getR (q := 80) C dX12_owes_77 mf_X12_136 rfl rfl k14 rfl ?_
      refine me_iconst (v := (3 : Int32)) (q := 81) C dX12_owes_80 (by decide) rfl ?_
      refine me_iload (q := 83) C dX12_owes_81 rfl rfl ?_
      refine me_imul (q := 84) C dX12_owes_83 rfl ?_
      refine me_iload (q := 86) C dX12_owes_84 rfl rfl ?_
      refine me_iadd (q := 87) C dX12_owes_86 rfl ?_
      obtain ⟨u19, eu19, hf⟩ := mm_rf_some hf
      obtain ⟨k20, hf⟩ := mm_ck_some hf
      obtain ⟨k21, hf⟩ := mm_ck_some hf
      refine me_iald (q := 88) C dX12_owes_87 eu19 k20 k21 rfl ?_
      refine me_iadd (q := 89) C dX12_owes_88 rfl ?_
      obtain ⟨v22, ev22, hf⟩ := mm_lt_some hf
      refine me_topI ev22 ?_
      refine me_istore_n (q := 90) (lv2 := [some (vR (some b0)), some (vI b1), some (vI b2), some (vI v22), some (vI b4), some (vI x5)]) C dX12_owes_89 rfl (Nat.le_of_ble_eq_true rfl) rfl rfl rfl ?_
      obtain ⟨v23, ev23, hf⟩ := mm_lt_some hf
      refine me_iinc (q := 93) (v := v23) (lv2 := [some (vR (some b0)), some (vI b1), some (vI b2), some (vI v22), some (vI b4), some (vI v23)]) C dX12_owes_90 rfl (by rw [ev23]; rfl) (Nat.le_of_ble_eq_true rfl) rfl rfl rfl ?_
      refine me_goto (q := 63) C dX12_owes_93 (by decide) ?_
      exact ih _ _ _ hf hk96
set_option maxRecDepth 100000 in
set_option maxHeartbeats 4000000 in
theorem cX12_owes_L5 {X : mm_X} (C : mm_C X cX12_owes yX12_owes 2 0 0) {r : Int32} {h1 : mm_H} (hE : mm_End X 0 0 (some .int) (some (vI r)) h1) {b0 : Nat} {b1 : Int32} {b2 : Int32} (K102 : Int32 → mm_H → Option (Int32 × mm_H)) : ∀ (n : Nat) (x3 : Int32) (x4 : Int32) (h : mm_H), fX12_owes_L5 b0 b1 b2 K102 n x3 x4 h = some (r, h1) → (∀ (y3 : Int32) (h : mm_H), K102 y3 h = some (r, h1) → mm_E X h 0 0 102 [none, none, none, some (vI y3), none, none] []) → mm_E X h 0 0 5 [some (vR (some b0)), some (vI b1), some (vI b2), some (vI x3), some (vI x4), none] [] := by
  intro n
  induction n with
  | zero =>
    intro x3 x4 h hf
    exact absurd (show (none : Option (Int32 × mm_H)) = some (r, h1) from hf) (by simp)
  | succ n ih =>
    intro x3 x4 h hf hk102
    have hf : fX12_owes_L5_b b0 b1 b2 K102 (fX12_owes_L5 b0 b1 b2 K102 n) x3 x4 h = some (r, h1) := hf
    unfold fX12_owes_L5_b at hf
    refine me_iload (q := 7) C dX12_owes_5 rfl rfl ?_
    refine me_aload_n (q := 8) C dX12_owes_7 rfl rfl rfl ?_
    obtain ⟨k1, hf⟩ := mm_ck_some hf
    refine me_getI (q := 11) C dX12_owes_8 mf_X12_472 rfl rfl k1 rfl ?_
    refine me_icmp_ge (q2 := 102) (q := 14) C dX12_owes_11 (by decide) rfl (fun c2 => ?_) (fun c2 => ?_)
    · have hf := mm_if_t c2 hf
      refine me_mask [false, false, false, true, false, false] (lv2 := [none, none, none, some (vI x3), none, none]) rfl ?_
      exact hk102 _ _ hf
    · have hf := mm_if_f c2 hf
      refine me_aload_n (q := 15) C dX12_owes_14 rfl rfl rfl ?_
      refine me_getR (q := 18) C dX12_owes_15 mf_X12_103 rfl rfl k1 rfl ?_
      refine me_iload (q := 20) C dX12_owes_18 rfl rfl ?_
      obtain ⟨u3, eu3, hf⟩ := mm_rf_some hf
      obtain ⟨k4, hf⟩ := mm_ck_some hf
      obtain ⟨k5, hf⟩ := mm_ck_some hf
      refine me_iald (q := 21) C dX12_owes_20 eu3 k4 k5 rfl ?_
      refine me_iload_n (q := 22) C dX12_owes_21 rfl rfl rfl ?_
      obtain ⟨q8, eq8, hf⟩ := mm_jn_some hf
      have Hq8 : ∀ (v6 : Int32) (g7 : mm_H), q8 v6 g7 = some (r, h1) → mm_E X g7 0 0 96 [some (vR (some b0)), some (vI b1), some (vI b2), some (vI v6), some (vI x4), none] [] := by
        intro v6 g7 hf
        subst eq8
        obtain ⟨v9, ev9, hf⟩ := mm_lt_some hf
        refine me_iinc (q := 99) (v := v9) (lv2 := [some (vR (some b0)), some (vI b1), some (vI b2), some (vI v6), some (vI v9), none]) C dX12_owes_96 rfl (by rw [ev9]; rfl) (Nat.le_of_ble_eq_true rfl) rfl rfl rfl ?_
        refine me_goto (q := 5) C dX12_owes_99 (by decide) ?_
        exact ih _ _ _ hf hk102
      refine me_icmp_eq (q2 := 28) (q := 25) C dX12_owes_22 (by decide) rfl (fun c10 => ?_) (fun c10 => ?_)
      · have hf := mm_if_t c10 hf
        refine me_iload_n (q := 29) C dX12_owes_28 rfl rfl rfl ?_
        refine me_iload_n (q := 30) C dX12_owes_29 rfl rfl rfl ?_
        obtain ⟨q12, eq12, hf⟩ := mm_jn_some hf
        have Hq12 : ∀ (v11 : Int32), q12 v11 = some (r, h1) → mm_E X h 0 0 58 [some (vR (some b0)), some (vI b1), some (vI b2), none, some (vI x4), none] [vI v11, vI x3] := by
          intro v11 hf
          subst eq12
          refine me_iadd (q := 59) C dX12_owes_58 rfl ?_
          obtain ⟨v13, ev13, hf⟩ := mm_lt_some hf
          refine me_topI ev13 ?_
          refine me_istore_n (q := 60) (lv2 := [some (vR (some b0)), some (vI b1), some (vI b2), some (vI v13), some (vI x4), none]) C dX12_owes_59 rfl (Nat.le_of_ble_eq_true rfl) rfl rfl rfl ?_
          refine me_iconst (v := (0 : Int32)) (q := 61) C dX12_owes_60 (by decide) rfl ?_
          refine me_istore (q := 63) (lv2 := [some (vR (some b0)), some (vI b1), some (vI b2), some (vI v13), some (vI x4), some (vI (0 : Int32))]) C dX12_owes_61 (Nat.le_of_ble_eq_true rfl) rfl rfl rfl ?_
          refine cX12_owes_L63 C hE _ _ _ _ _ hf ?_
          · intro z24 g25 hf
            exact Hq8 _ _ hf
        obtain ⟨q26, eq26, hf⟩ := mm_jn_some hf
        have Hq26 : ∀ (_u : Unit), q26 _u = some (r, h1) → mm_E X h 0 0 47 [some (vR (some b0)), some (vI b1), some (vI b2), none, some (vI x4), none] [vI x3] := by
          intro _u hf
          subst eq26
          refine me_aload_n (q := 48) C dX12_owes_47 rfl rfl rfl ?_
          refine me_getR (q := 51) C dX12_owes_48 mf_X12_112 rfl rfl k1 rfl ?_
          refine me_iload (q := 53) C dX12_owes_51 rfl rfl ?_
          obtain ⟨u27, eu27, hf⟩ := mm_rf_some hf
          obtain ⟨k28, hf⟩ := mm_ck_some hf
          obtain ⟨k29, hf⟩ := mm_ck_some hf
          refine me_iald (q := 54) C dX12_owes_53 eu27 k28 k29 rfl ?_
          refine me_goto (q := 58) C dX12_owes_54 (by decide) ?_
          exact Hq12 _ hf
        refine me_if_eq (q2 := 47) (q := 33) C dX12_owes_30 (by decide) rfl (fun c30 => ?_) (fun c30 => ?_)
        · have hf := mm_if_t c30 hf
          refine me_mask [true, true, true, false, true, false] (lv2 := [some (vR (some b0)), some (vI b1), some (vI b2), none, some (vI x4), none]) rfl ?_
          exact Hq26 () hf
        · have hf := mm_if_f c30 hf
          refine me_aload_n (q := 34) C dX12_owes_33 rfl rfl rfl ?_
          refine me_getR (q := 37) C dX12_owes_34 mf_X12_115 rfl rfl k1 rfl ?_
          refine me_iload (q := 39) C dX12_owes_37 rfl rfl ?_
          obtain ⟨u31, eu31, hf⟩ := mm_rf_some hf
          obtain ⟨k32, hf⟩ := mm_ck_some hf
          obtain ⟨k33, hf⟩ := mm_ck_some hf
          refine me_iald (q := 40) C dX12_owes_39 eu31 k32 k33 rfl ?_
          refine me_aload_n (q := 41) C dX12_owes_40 rfl rfl rfl ?_
          refine me_getI (q := 44) C dX12_owes_41 mf_X12_273 rfl rfl k1 rfl ?_
          refine me_icmp_ge (q2 := 57) (q := 47) C dX12_owes_44 (by decide) rfl (fun c34 => ?_) (fun c34 => ?_)
          · have hf := mm_if_t c34 hf
            refine me_iconst (v := (0 : Int32)) (q := 58) C dX12_owes_57 (by decide) rfl ?_
            refine me_mask [true, true, true, false, true, false] (lv2 := [some (vR (some b0)), some (vI b1), some (vI b2), none, some (vI x4), none]) rfl ?_
            exact Hq12 _ hf
          · have hf := mm_if_f c34 hf
            refine me_mask [true, true, true, false, true, false] (lv2 := [some (vR (some b0)), some (vI b1), some (vI b2), none, some (vI x4), none]) rfl ?_
            exact Hq26 () hf
      · have hf := mm_if_f c10 hf
        refine me_goto (q := 96) C dX12_owes_25 (by decide) ?_
        exact Hq8 _ _ hf
set_option maxRecDepth 100000 in
set_option maxHeartbeats 4000000 in
theorem cX12_owes_ok (l : Launch) {a0 : Nat} {a1 : Int32} {a2 : Int32} {h : mm_H} {r : Int32} {h1 : mm_H} (hf : fX12_owes a0 a1 a2 h = some (r, h1)) : mm_M l yX12_owes cX12_owes 6 (some .int) 2 0 0 [vR (some a0), vI a1, vI a2] h (some (vI r)) h1 := by
  refine mm_enter (lv := [some (vR (some a0)), some (vI a1), some (vI a2), none, none, none]) (by decide) rfl (Nat.le_of_ble_eq_true rfl) ?_
  intro X hl C hE
  subst hl
  unfold fX12_owes at hf
  refine me_iconst (v := (0 : Int32)) (q := 1) C dX12_owes_0 (by decide) rfl ?_
  refine me_istore_n (q := 2) (lv2 := [some (vR (some a0)), some (vI a1), some (vI a2), some (vI (0 : Int32)), none, none]) C dX12_owes_1 rfl (Nat.le_of_ble_eq_true rfl) rfl rfl rfl ?_
  refine me_iconst (v := (0 : Int32)) (q := 3) C dX12_owes_2 (by decide) rfl ?_
  refine me_istore (q := 5) (lv2 := [some (vR (some a0)), some (vI a1), some (vI a2), some (vI (0 : Int32)), some (vI (0 : Int32)), none]) C dX12_owes_3 (Nat.le_of_ble_eq_true rfl) rfl rfl rfl ?_
  refine cX12_owes_L5 C hE _ _ _ _ _ hf ?_
  · intro z35 g36 hf
    refine me_iload_n (q := 103) C dX12_owes_102 rfl rfl rfl ?_
    exact me_iret C hE (Nat.le_of_ble_eq_true rfl) (Nat.le_of_ble_eq_true rfl) rfl dX12_owes_103 (mm_ri hf)
set_option maxRecDepth 100000 in
set_option maxHeartbeats 4000000 in
theorem cX12_asked_ok (l : Launch) {a0 : Nat} {a1 : Int32} {a2 : Int32} {a3 : Int32} {a4 : Int32} {a5 : Int32} {a6 : Int32} {a7 : Int32} {h : mm_H} {r : Int32} {h1 : mm_H} (hf : fX12_asked a0 a1 a2 a3 a4 a5 a6 a7 h = some (r, h1)) : mm_M l yX12_asked cX12_asked 8 (some .int) 8 0 0 [vR (some a0), vI a1, vI a2, vI a3, vI a4, vI a5, vI a6, vI a7] h (some (vI r)) h1 := by
  refine mm_enter (lv := [some (vR (some a0)), some (vI a1), some (vI a2), some (vI a3), some (vI a4), some (vI a5), some (vI a6), some (vI a7)]) (by decide) rfl (Nat.le_of_ble_eq_true rfl) ?_
  intro X hl C hE
  subst hl
  unfold fX12_asked at hf
  refine me_aload_n (q := 1) C dX12_asked_0 rfl rfl rfl ?_
  refine me_iload_n (q := 2) C dX12_asked_1 rfl rfl rfl ?_
  obtain ⟨k1, hf⟩ := mm_ck_some hf
  obtain ⟨v2, g3, e4, hf⟩ := mm_cl_some hf
  refine me_callV (q := 5) (c2 := 0) (s2 := 0) (st := []) C (cX12_isThere_ok _ e4) mt_X12_285 mv_X12_isThere rfl (by decide) dX12_asked_2 rfl k1 rfl rfl rfl (Nat.le_of_ble_eq_true rfl) rfl (Nat.le_of_ble_eq_true rfl) rfl (Nat.le_of_ble_eq_true rfl) rfl rfl ?_
  refine me_if_eq (q2 := 21) (q := 8) C dX12_asked_5 (by decide) rfl (fun c5 => ?_) (fun c5 => ?_)
  · have hf := mm_if_t c5 hf
    refine me_iconst (v := (1 : Int32)) (q := 22) C dX12_asked_21 (by decide) rfl ?_
    exact me_iret C hE (Nat.le_of_ble_eq_true rfl) (Nat.le_of_ble_eq_true rfl) rfl dX12_asked_22 (mm_ri hf)
  · have hf := mm_if_f c5 hf
    refine me_aload_n (q := 9) C dX12_asked_8 rfl rfl rfl ?_
    refine me_iload_n (q := 10) C dX12_asked_9 rfl rfl rfl ?_
    obtain ⟨k6, hf⟩ := mm_ck_some hf
    obtain ⟨v7, g8, e9, hf⟩ := mm_cl_some hf
    refine me_callV (q := 13) (c2 := 0) (s2 := 0) (st := []) C (cX12_isThere_ok _ e9) mt_X12_285 mv_X12_isThere rfl (by decide) dX12_asked_10 rfl k6 rfl rfl rfl (Nat.le_of_ble_eq_true rfl) rfl (Nat.le_of_ble_eq_true rfl) rfl (Nat.le_of_ble_eq_true rfl) rfl rfl ?_
    refine me_if_eq (q2 := 21) (q := 16) C dX12_asked_13 (by decide) rfl (fun c10 => ?_) (fun c10 => ?_)
    · have hf := mm_if_t c10 hf
      refine me_iconst (v := (1 : Int32)) (q := 22) C dX12_asked_21 (by decide) rfl ?_
      exact me_iret C hE (Nat.le_of_ble_eq_true rfl) (Nat.le_of_ble_eq_true rfl) rfl dX12_asked_22 (mm_ri hf)
    · have hf := mm_if_f c10 hf
      refine me_iload_n (q := 17) C dX12_asked_16 rfl rfl rfl ?_
      refine me_iload_n (q := 18) C dX12_asked_17 rfl rfl rfl ?_
      refine me_icmp_ne (q2 := 23) (q := 21) C dX12_asked_18 (by decide) rfl (fun c11 => ?_) (fun c11 => ?_)
      · have hf := mm_if_t c11 hf
        refine me_aload_n (q := 24) C dX12_asked_23 rfl rfl rfl ?_
        refine me_iload_n (q := 25) C dX12_asked_24 rfl rfl rfl ?_
        obtain ⟨k12, hf⟩ := mm_ck_some hf
        obtain ⟨v13, g14, e15, hf⟩ := mm_cl_some hf
        refine me_callV (q := 28) (c2 := 0) (s2 := 0) (st := []) C (cX12_isLot_ok _ e15) mt_X12_295 mv_X12_isLot rfl (by decide) dX12_asked_25 rfl k12 rfl rfl rfl (Nat.le_of_ble_eq_true rfl) rfl (Nat.le_of_ble_eq_true rfl) rfl (Nat.le_of_ble_eq_true rfl) rfl rfl ?_
        refine me_if_eq (q2 := 56) (q := 31) C dX12_asked_28 (by decide) rfl (fun c16 => ?_) (fun c16 => ?_)
        · have hf := mm_if_t c16 hf
          refine me_iconst (v := (2 : Int32)) (q := 57) C dX12_asked_56 (by decide) rfl ?_
          exact me_iret C hE (Nat.le_of_ble_eq_true rfl) (Nat.le_of_ble_eq_true rfl) rfl dX12_asked_57 (mm_ri hf)
        · have hf := mm_if_f c16 hf
          refine me_aload_n (q := 32) C dX12_asked_31 rfl rfl rfl ?_
          obtain ⟨k17, hf⟩ := mm_ck_some hf
          refine me_getR (q := 35) C dX12_asked_32 mf_X12_38 rfl rfl k17 rfl ?_
          refine me_iload_n (q := 36) C dX12_asked_35 rfl rfl rfl ?_
          obtain ⟨u18, eu18, hf⟩ := mm_rf_some hf
          obtain ⟨k19, hf⟩ := mm_ck_some hf
          obtain ⟨k20, hf⟩ := mm_ck_some hf
          refine me_iald (q := 37) C dX12_asked_36 eu18 k19 k20 rfl ?_
          refine me_iload_n (q := 38) C dX12_asked_37 rfl rfl rfl ?_
          refine me_icmp_ne (q2 := 56) (q := 41) C dX12_asked_38 (by decide) rfl (fun c21 => ?_) (fun c21 => ?_)
          · have hf := mm_if_t c21 hf
            refine me_iconst (v := (2 : Int32)) (q := 57) C dX12_asked_56 (by decide) rfl ?_
            exact me_iret C hE (Nat.le_of_ble_eq_true rfl) (Nat.le_of_ble_eq_true rfl) rfl dX12_asked_57 (mm_ri hf)
          · have hf := mm_if_f c21 hf
            refine me_iload (q := 43) C dX12_asked_41 rfl rfl ?_
            refine me_iconst (v := (1 : Int32)) (q := 44) C dX12_asked_43 (by decide) rfl ?_
            refine me_aload_n (q := 45) C dX12_asked_44 rfl rfl rfl ?_
            refine me_getR (q := 48) C dX12_asked_45 mf_X12_35 rfl rfl k17 rfl ?_
            refine me_iload_n (q := 49) C dX12_asked_48 rfl rfl rfl ?_
            obtain ⟨u22, eu22, hf⟩ := mm_rf_some hf
            obtain ⟨k23, hf⟩ := mm_ck_some hf
            obtain ⟨k24, hf⟩ := mm_ck_some hf
            refine me_iald (q := 50) C dX12_asked_49 eu22 k23 k24 rfl ?_
            obtain ⟨v25, g26, e27, hf⟩ := mm_cl_some hf
            refine me_callS (q := 53) (c2 := 0) (s2 := 0) (st := []) C (cX12_in_ok _ e27) mt_X12_269 ms_X12_in dX12_asked_50 rfl rfl rfl (Nat.le_of_ble_eq_true rfl) rfl (Nat.le_of_ble_eq_true rfl) rfl (Nat.le_of_ble_eq_true rfl) rfl rfl ?_
            refine me_if_ne (q2 := 58) (q := 56) C dX12_asked_53 (by decide) rfl (fun c28 => ?_) (fun c28 => ?_)
            · have hf := mm_if_t c28 hf
              refine me_iload (q := 60) C dX12_asked_58 rfl rfl ?_
              refine me_iconst (v := (0 : Int32)) (q := 61) C dX12_asked_60 (by decide) rfl ?_
              refine me_ldc_w (v := (1000000 : Int32)) (q := 64) C dX12_asked_61 mc_X12_279 rfl ?_
              obtain ⟨v29, g30, e31, hf⟩ := mm_cl_some hf
              refine me_callS (q := 67) (c2 := 0) (s2 := 0) (st := []) C (cX12_in_ok _ e31) mt_X12_269 ms_X12_in dX12_asked_64 rfl rfl rfl (Nat.le_of_ble_eq_true rfl) rfl (Nat.le_of_ble_eq_true rfl) rfl (Nat.le_of_ble_eq_true rfl) rfl rfl ?_
              refine me_if_eq (q2 := 93) (q := 70) C dX12_asked_67 (by decide) rfl (fun c32 => ?_) (fun c32 => ?_)
              · have hf := mm_if_t c32 hf
                refine me_iconst (v := (3 : Int32)) (q := 94) C dX12_asked_93 (by decide) rfl ?_
                refine me_goto (q := 98) C dX12_asked_94 (by decide) ?_
                exact me_iret C hE (Nat.le_of_ble_eq_true rfl) (Nat.le_of_ble_eq_true rfl) rfl dX12_asked_98 (mm_ri hf)
              · have hf := mm_if_f c32 hf
                refine me_iload (q := 72) C dX12_asked_70 rfl rfl ?_
                refine me_iconst (v := (0 : Int32)) (q := 73) C dX12_asked_72 (by decide) rfl ?_
                refine me_sipush (v := (720 : Int32)) (q := 76) C dX12_asked_73 (by decide) rfl ?_
                obtain ⟨v33, g34, e35, hf⟩ := mm_cl_some hf
                refine me_callS (q := 79) (c2 := 0) (s2 := 0) (st := []) C (cX12_in_ok _ e35) mt_X12_269 ms_X12_in dX12_asked_76 rfl rfl rfl (Nat.le_of_ble_eq_true rfl) rfl (Nat.le_of_ble_eq_true rfl) rfl (Nat.le_of_ble_eq_true rfl) rfl rfl ?_
                refine me_if_eq (q2 := 93) (q := 82) C dX12_asked_79 (by decide) rfl (fun c36 => ?_) (fun c36 => ?_)
                · have hf := mm_if_t c36 hf
                  refine me_iconst (v := (3 : Int32)) (q := 94) C dX12_asked_93 (by decide) rfl ?_
                  refine me_goto (q := 98) C dX12_asked_94 (by decide) ?_
                  exact me_iret C hE (Nat.le_of_ble_eq_true rfl) (Nat.le_of_ble_eq_true rfl) rfl dX12_asked_98 (mm_ri hf)
                · have hf := mm_if_f c36 hf
                  refine me_iload (q := 84) C dX12_asked_82 rfl rfl ?_
                  refine me_iconst (v := (0 : Int32)) (q := 85) C dX12_asked_84 (by decide) rfl ?_
                  refine me_bipush (v := (23 : Int32)) (q := 87) C dX12_asked_85 (by decide) rfl ?_
                  obtain ⟨v37, g38, e39, hf⟩ := mm_cl_some hf
                  refine me_callS (q := 90) (c2 := 0) (s2 := 0) (st := []) C (cX12_in_ok _ e39) mt_X12_269 ms_X12_in dX12_asked_87 rfl rfl rfl (Nat.le_of_ble_eq_true rfl) rfl (Nat.le_of_ble_eq_true rfl) rfl (Nat.le_of_ble_eq_true rfl) rfl rfl ?_
                  refine me_if_ne (q2 := 97) (q := 93) C dX12_asked_90 (by decide) rfl (fun c40 => ?_) (fun c40 => ?_)
                  · have hf := mm_if_t c40 hf
                    refine me_iconst (v := (0 : Int32)) (q := 98) C dX12_asked_97 (by decide) rfl ?_
                    exact me_iret C hE (Nat.le_of_ble_eq_true rfl) (Nat.le_of_ble_eq_true rfl) rfl dX12_asked_98 (mm_ri hf)
                  · have hf := mm_if_f c40 hf
                    refine me_iconst (v := (3 : Int32)) (q := 94) C dX12_asked_93 (by decide) rfl ?_
                    refine me_goto (q := 98) C dX12_asked_94 (by decide) ?_
                    exact me_iret C hE (Nat.le_of_ble_eq_true rfl) (Nat.le_of_ble_eq_true rfl) rfl dX12_asked_98 (mm_ri hf)
            · have hf := mm_if_f c28 hf
              refine me_iconst (v := (2 : Int32)) (q := 57) C dX12_asked_56 (by decide) rfl ?_
              exact me_iret C hE (Nat.le_of_ble_eq_true rfl) (Nat.le_of_ble_eq_true rfl) rfl dX12_asked_57 (mm_ri hf)
      · have hf := mm_if_f c11 hf
        refine me_iconst (v := (1 : Int32)) (q := 22) C dX12_asked_21 (by decide) rfl ?_
        exact me_iret C hE (Nat.le_of_ble_eq_true rfl) (Nat.le_of_ble_eq_true rfl) rfl dX12_asked_22 (mm_ri hf)
set_option maxRecDepth 100000 in
set_option maxHeartbeats 4000000 in
theorem cX12_isShutTo_ok (l : Launch) {a0 : Nat} {a1 : Int32} {h : mm_H} {r : Int32} {h1 : mm_H} (hf : fX12_isShutTo a0 a1 h = some (r, h1)) : mm_M l yX12_isShutTo cX12_isShutTo 2 (some .boolean) 6 0 0 [vR (some a0), vI a1] h (some (vI r)) h1 := by
  refine mm_enter (lv := [some (vR (some a0)), some (vI a1)]) (by decide) rfl (Nat.le_of_ble_eq_true rfl) ?_
  intro X hl C hE
  subst hl
  unfold fX12_isShutTo at hf
  refine me_aload_n (q := 1) C dX12_isShutTo_0 rfl rfl rfl ?_
  obtain ⟨k1, hf⟩ := mm_ck_some hf
  refine me_getR (q := 4) C dX12_isShutTo_1 mf_X12_9 rfl rfl k1 rfl ?_
  refine me_iload_n (q := 5) C dX12_isShutTo_4 rfl rfl rfl ?_
  obtain ⟨u2, eu2, hf⟩ := mm_rf_some hf
  obtain ⟨k3, hf⟩ := mm_ck_some hf
  obtain ⟨k4, hf⟩ := mm_ck_some hf
  refine me_iald (q := 6) C dX12_isShutTo_5 eu2 k3 k4 rfl ?_
  refine me_bipush (v := (8 : Int32)) (q := 8) C dX12_isShutTo_6 (by decide) rfl ?_
  refine me_icmp_ge (q2 := 36) (q := 11) C dX12_isShutTo_8 (by decide) rfl (fun c5 => ?_) (fun c5 => ?_)
  · have hf := mm_if_t c5 hf
    refine me_iconst (v := (0 : Int32)) (q := 37) C dX12_isShutTo_36 (by decide) rfl ?_
    exact me_zret C hE (Nat.le_of_ble_eq_true rfl) (Nat.le_of_ble_eq_true rfl) rfl (Or.inl rfl) dX12_isShutTo_37 (mm_ri hf)
  · have hf := mm_if_f c5 hf
    refine me_aload_n (q := 12) C dX12_isShutTo_11 rfl rfl rfl ?_
    refine me_aload_n (q := 13) C dX12_isShutTo_12 rfl rfl rfl ?_
    refine me_getR (q := 16) C dX12_isShutTo_13 mf_X12_9 rfl rfl k1 rfl ?_
    refine me_iload_n (q := 17) C dX12_isShutTo_16 rfl rfl rfl ?_
    obtain ⟨k6, hf⟩ := mm_ck_some hf
    refine me_iald (q := 18) C dX12_isShutTo_17 eu2 k3 k6 rfl ?_
    refine me_aload_n (q := 19) C dX12_isShutTo_18 rfl rfl rfl ?_
    refine me_getI (q := 22) C dX12_isShutTo_19 mf_X12_273 rfl rfl k1 rfl ?_
    refine me_aload_n (q := 23) C dX12_isShutTo_22 rfl rfl rfl ?_
    refine me_getI (q := 26) C dX12_isShutTo_23 mf_X12_273 rfl rfl k1 rfl ?_
    obtain ⟨v7, g8, e9, hf⟩ := mm_cl_some hf
    refine me_callV (q := 29) (c2 := 0) (s2 := 0) (st := []) C (cX12_shuts_ok _ e9) mt_X12_469 mv_X12_shuts rfl (by decide) dX12_isShutTo_26 rfl k1 rfl rfl rfl (Nat.le_of_ble_eq_true rfl) rfl (Nat.le_of_ble_eq_true rfl) rfl (Nat.le_of_ble_eq_true rfl) rfl rfl ?_
    refine me_if_eq (q2 := 36) (q := 32) C dX12_isShutTo_29 (by decide) rfl (fun c10 => ?_) (fun c10 => ?_)
    · have hf := mm_if_t c10 hf
      refine me_iconst (v := (0 : Int32)) (q := 37) C dX12_isShutTo_36 (by decide) rfl ?_
      exact me_zret C hE (Nat.le_of_ble_eq_true rfl) (Nat.le_of_ble_eq_true rfl) rfl (Or.inl rfl) dX12_isShutTo_37 (mm_ri hf)
    · have hf := mm_if_f c10 hf
      refine me_iconst (v := (1 : Int32)) (q := 33) C dX12_isShutTo_32 (by decide) rfl ?_
      refine me_goto (q := 37) C dX12_isShutTo_33 (by decide) ?_
      exact me_zret C hE (Nat.le_of_ble_eq_true rfl) (Nat.le_of_ble_eq_true rfl) rfl (Or.inr rfl) dX12_isShutTo_37 (mm_ri hf)
