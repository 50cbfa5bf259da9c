set_option maxRecDepth 100000 in
set_option maxHeartbeats 4000000 in
theorem cX12_elder_L59 {X : mm_X} (C : mm_C X cX12_elder yX12_elder 6 0 0) {r : Int32} {h1 : mm_H} (hE : mm_End X 0 0 (some .int) (some (vI r)) h1) {b0 : Nat} {b2 : Int32} {b3 : Int32} {b4 : Int32} {b5 : Int32} (K111 : mm_H → Option (Int32 × mm_H)) : ∀ (n : Nat) (x6 : Int32) (h : mm_H), fX12_elder_L59 b0 b2 b3 b4 b5 K111 n x6 h = some (r, h1) → (∀ (h : mm_H), K111 h = some (r, h1) → mm_E X h 0 0 111 [some (vR (some b0)), none, some (vI b2), some (vI b3), some (vI b4), none, none] []) → mm_E X h 0 0 59 [some (vR (some b0)), none, some (vI b2), some (vI b3), some (vI b4), some (vI b5), some (vI x6)] [] := by
  intro n
  induction n with
  | zero =>
    intro x6 h hf
    exact absurd (show (none : Option (Int32 × mm_H)) = some (r, h1) from hf) (by simp)
  | succ n ih =>
    intro x6 h hf hk111
    have hf : fX12_elder_L59_b b0 b2 b3 b4 b5 K111 (fX12_elder_L59 b0 b2 b3 b4 b5 K111 n) x6 h = some (r, h1) := hf
    unfold fX12_elder_L59_b at hf
    refine me_iload (q := 61) C dX12_elder_59 rfl rfl ?_
    refine me_aload_n (q := 62) C dX12_elder_61 rfl rfl rfl ?_
    obtain ⟨k17, hf⟩ := mm_ck_some hf
    refine me_getI (q := 65) C dX12_elder_62 mf_X12_276 rfl rfl k17 rfl ?_
    refine me_icmp_ge (q2 := 111) (q := 68) C dX12_elder_65 (by decide) rfl (fun c18 => ?_) (fun c18 => ?_)
    · have hf := mm_if_t c18 hf
      refine me_mask [true, false, true, true, true, false, false] (lv2 := [some (vR (some b0)), none, some (vI b2), some (vI b3), some (vI b4), none, none]) rfl ?_
      exact hk111 _ hf
    · have hf := mm_if_f c18 hf
      refine me_aload_n (q := 69) C dX12_elder_68 rfl rfl rfl ?_
      refine me_getR (q := 72) C dX12_elder_69 mf_X12_9 rfl rfl k17 rfl ?_
      refine me_iload (q := 74) C dX12_elder_72 rfl rfl ?_
      obtain ⟨u19, eu19, hf⟩ := mm_rf_some hf
      obtain ⟨k20, hf⟩ := mm_ck_some hf
      obtain ⟨k21, hf⟩ := mm_ck_some hf
      refine me_iald (q := 75) C dX12_elder_74 eu19 k20 k21 rfl ?_
      refine me_iload (q := 77) C dX12_elder_75 rfl rfl ?_
      obtain ⟨q22, eq22, hf⟩ := mm_jn_some hf
      have Hq22 : ∀ (_u : Unit), q22 _u = some (r, h1) → mm_E X h 0 0 105 [some (vR (some b0)), none, some (vI b2), some (vI b3), some (vI b4), some (vI b5), some (vI x6)] [] := by
        intro _u hf
        subst eq22
        obtain ⟨v23, ev23, hf⟩ := mm_lt_some hf
        refine me_iinc (q := 108) (v := v23) (lv2 := [some (vR (some b0)), none, some (vI b2), some (vI b3), some (vI b4), some (vI b5), some (vI v23)]) C dX12_elder_105 rfl (by rw [ev23]; rfl) (Nat.le_of_ble_eq_true rfl) rfl rfl rfl ?_
        refine me_goto (q := 59) C dX12_elder_108 (by decide) ?_
        exact ih _ _ hf hk111
      refine me_icmp_ne (q2 := 105) (q := 80) C dX12_elder_77 (by decide) rfl (fun c24 => ?_) (fun c24 => ?_)
      · have hf := mm_if_t c24 hf
        exact Hq22 () hf
      · have hf := mm_if_f c24 hf
        refine me_aload_n (q := 81) C dX12_elder_80 rfl rfl rfl ?_
        refine me_getR (q := 84) C dX12_elder_81 mf_X12_16 rfl rfl k17 rfl ?_
        refine me_iload (q := 86) C dX12_elder_84 rfl rfl ?_
        obtain ⟨u25, eu25, hf⟩ := mm_rf_some hf
        obtain ⟨k26, hf⟩ := mm_ck_some hf
        obtain ⟨k27, hf⟩ := mm_ck_some hf
        refine me_iald (q := 87) C dX12_elder_86 eu25 k26 k27 rfl ?_
        refine me_iload_n (q := 88) C dX12_elder_87 rfl rfl rfl ?_
        refine me_icmp_gt (q2 := 105) (q := 91) C dX12_elder_88 (by decide) rfl (fun c28 => ?_) (fun c28 => ?_)
        · have hf := mm_if_t c28 hf
          exact Hq22 () hf
        · have hf := mm_if_f c28 hf
          refine me_aload_n (q := 92) C dX12_elder_91 rfl rfl rfl ?_
          refine me_getR (q := 95) C dX12_elder_92 mf_X12_19 rfl rfl k17 rfl ?_
          refine me_iload (q := 97) C dX12_elder_95 rfl rfl ?_
          obtain ⟨u29, eu29, hf⟩ := mm_rf_some hf
          obtain ⟨k30, hf⟩ := mm_ck_some hf
          obtain ⟨k31, hf⟩ := mm_ck_some hf
          refine me_iald (q := 98) C dX12_elder_97 eu29 k30 k31 rfl ?_
          refine me_iload_n (q := 99) C dX12_elder_98 rfl rfl rfl ?_
          refine me_icmp_le (q2 := 105) (q := 102) C dX12_elder_99 (by decide) rfl (fun c32 => ?_) (fun c32 => ?_)
          · have hf := mm_if_t c32 hf
            exact Hq22 () hf
          · have hf := mm_if_f c32 hf
            refine me_iload (q := 104) C dX12_elder_102 rfl rfl ?_
            exact me_iret C hE (Nat.le_of_ble_eq_true rfl) (Nat.le_of_ble_eq_true rfl) rfl dX12_elder_104 (mm_ri hf)
set_option maxRecDepth 100000 in
set_option maxHeartbeats 4000000 in
theorem cX12_elder_L26 {X : mm_X} (C : mm_C X cX12_elder yX12_elder 6 0 0) {r : Int32} {h1 : mm_H} (hE : mm_End X 0 0 (some .int) (some (vI r)) h1) {b0 : Nat} {b2 : Int32} {b3 : Int32} (K117 : mm_H → Option (Int32 × mm_H)) : ∀ (n : Nat) (x4 : Int32) (h : mm_H), fX12_elder_L26 b0 b2 b3 K117 n x4 h = some (r, h1) → (∀ (h : mm_H), K117 h = some (r, h1) → mm_E X h 0 0 117 [none, none, none, none, none, none, none] []) → mm_E X h 0 0 26 [some (vR (some b0)), none, some (vI b2), some (vI b3), some (vI x4), none, none] [] := by
  intro n
  induction n with
  | zero =>
    intro x4 h hf
    exact absurd (show (none : Option (Int32 × mm_H)) = some (r, h1) from hf) (by simp)
  | succ n ih =>
    intro x4 h hf hk117
    have hf : fX12_elder_L26_b b0 b2 b3 K117 (fX12_elder_L26 b0 b2 b3 K117 n) x4 h = some (r, h1) := hf
    unfold fX12_elder_L26_b at hf
    refine me_iload (q := 28) C dX12_elder_26 rfl rfl ?_
    refine me_aload_n (q := 29) C dX12_elder_28 rfl rfl rfl ?_
    obtain ⟨k9, hf⟩ := mm_ck_some hf
    refine me_getI (q := 32) C dX12_elder_29 mf_X12_167 rfl rfl k9 rfl ?_
    refine me_icmp_ge (q2 := 117) (q := 35) C dX12_elder_32 (by decide) rfl (fun c10 => ?_) (fun c10 => ?_)
    · have hf := mm_if_t c10 hf
      refine me_mask [false, false, false, false, false, false, false] (lv2 := [none, none, none, none, none, none, none]) rfl ?_
      exact hk117 _ hf
    · have hf := mm_if_f c10 hf
      refine me_aload_n (q := 36) C dX12_elder_35 rfl rfl rfl ?_
      refine me_getR (q := 39) C dX12_elder_36 mf_X12_173 rfl rfl k9 rfl ?_
      refine me_iload_n (q := 40) C dX12_elder_39 rfl rfl rfl ?_
      refine me_aload_n (q := 41) C dX12_elder_40 rfl rfl rfl ?_
      refine me_getI (q := 44) C dX12_elder_41 mf_X12_167 rfl rfl k9 rfl ?_
      obtain ⟨k11, hf⟩ := mm_ck_some hf
      refine me_irem (q := 45) C dX12_elder_44 k11 rfl ?_
      refine me_iload (q := 47) C dX12_elder_45 rfl rfl ?_
      refine me_iadd (q := 48) C dX12_elder_47 rfl ?_
      refine me_aload_n (q := 49) C dX12_elder_48 rfl rfl rfl ?_
      refine me_getI (q := 52) C dX12_elder_49 mf_X12_167 rfl rfl k9 rfl ?_
      obtain ⟨k12, hf⟩ := mm_ck_some hf
      refine me_irem (q := 53) C dX12_elder_52 k12 rfl ?_
      obtain ⟨u13, eu13, hf⟩ := mm_rf_some hf
      obtain ⟨k14, hf⟩ := mm_ck_some hf
      obtain ⟨k15, hf⟩ := mm_ck_some hf
      refine me_iald (q := 54) C dX12_elder_53 eu13 k14 k15 rfl ?_
      obtain ⟨v16, ev16, hf⟩ := mm_lt_some hf
      refine me_topI ev16 ?_
      refine me_istore (q := 56) (lv2 := [some (vR (some b0)), none, some (vI b2), some (vI b3), some (vI x4), some (vI v16), none]) C dX12_elder_54 (Nat.le_of_ble_eq_true rfl) rfl rfl rfl ?_
      refine me_iconst (v := (0 : Int32)) (q := 57) C dX12_elder_56 (by decide) rfl ?_
      refine me_istore (q := 59) (lv2 := [some (vR (some b0)), none, some (vI b2), some (vI b3), some (vI x4), some (vI v16), some (vI (0 : Int32))]) C dX12_elder_57 (Nat.le_of_ble_eq_true rfl) rfl rfl rfl ?_
      refine cX12_elder_L59 C hE _ _ _ _ hf ?_
      · intro g33 hf
        obtain ⟨v34, ev34, hf⟩ := mm_lt_some hf
        refine me_iinc (q := 114) (v := v34) (lv2 := [some (vR (some b0)), none, some (vI b2), some (vI b3), some (vI v34), none, none]) C dX12_elder_111 rfl (by rw [ev34]; rfl) (Nat.le_of_ble_eq_true rfl) rfl rfl rfl ?_
        refine me_goto (q := 26) C dX12_elder_114 (by decide) ?_
        exact ih _ _ hf hk117
set_option maxRecDepth 100000 in
set_option maxHeartbeats 4000000 in
theorem cX12_elder_ok (l : Launch) {a0 : Nat} {a1 : Int32} {h : mm_H} {r : Int32} {h1 : mm_H} (hf : fX12_elder a0 a1 h = some (r, h1)) : mm_M l yX12_elder cX12_elder 7 (some .int) 6 0 0 [vR (some a0), vI a1] h (some (vI r)) h1 := by
  refine mm_enter (lv := [some (vR (some a0)), some (vI a1), none, none, none, none, none]) (by decide) rfl (Nat.le_of_ble_eq_true rfl) ?_
  intro X hl C hE
  subst hl
  unfold fX12_elder at hf
  refine me_iload_n (q := 1) C dX12_elder_0 rfl rfl rfl ?_
  obtain ⟨v1, g2, e3, hf⟩ := mm_cl_some hf
  refine me_callS (q := 4) (c2 := 0) (s2 := 0) (st := []) C (cX12_isDay_ok _ e3) mt_X12_451 ms_X12_isDay dX12_elder_1 rfl rfl rfl (Nat.le_of_ble_eq_true rfl) rfl (Nat.le_of_ble_eq_true rfl) rfl (Nat.le_of_ble_eq_true rfl) rfl rfl ?_
  refine me_if_ne (q2 := 9) (q := 7) C dX12_elder_4 (by decide) rfl (fun c4 => ?_) (fun c4 => ?_)
  · have hf := mm_if_t c4 hf
    refine me_iload_n (q := 10) C dX12_elder_9 rfl rfl rfl ?_
    refine me_aload_n (q := 11) C dX12_elder_10 rfl rfl rfl ?_
    obtain ⟨k5, hf⟩ := mm_ck_some hf
    refine me_getI (q := 14) C dX12_elder_11 mf_X12_170 rfl rfl k5 rfl ?_
    obtain ⟨k6, hf⟩ := mm_ck_some hf
    refine me_idiv (q := 15) C dX12_elder_14 k6 rfl ?_
    obtain ⟨v7, ev7, hf⟩ := mm_lt_some hf
    refine me_topI ev7 ?_
    refine me_istore_n (q := 16) (lv2 := [some (vR (some a0)), some (vI a1), some (vI v7), none, none, none, none]) C dX12_elder_15 rfl (Nat.le_of_ble_eq_true rfl) rfl rfl rfl ?_
    refine me_iload_n (q := 17) C dX12_elder_16 rfl rfl rfl ?_
    refine me_aload_n (q := 18) C dX12_elder_17 rfl rfl rfl ?_
    refine me_getI (q := 21) C dX12_elder_18 mf_X12_170 rfl rfl k5 rfl ?_
    refine me_imul (q := 22) C dX12_elder_21 rfl ?_
    obtain ⟨v8, ev8, hf⟩ := mm_lt_some hf
    refine me_topI ev8 ?_
    refine me_istore_n (q := 23) (lv2 := [some (vR (some a0)), some (vI a1), some (vI v7), some (vI v8), none, none, none]) C dX12_elder_22 rfl (Nat.le_of_ble_eq_true rfl) rfl rfl rfl ?_
    refine me_iconst (v := (0 : Int32)) (q := 24) C dX12_elder_23 (by decide) rfl ?_
    refine me_istore (q := 26) (lv2 := [some (vR (some a0)), some (vI a1), some (vI v7), some (vI v8), some (vI (0 : Int32)), none, none]) C dX12_elder_24 (Nat.le_of_ble_eq_true rfl) rfl rfl rfl ?_
    refine me_mask [true, false, true, true, true, false, false] (lv2 := [some (vR (some a0)), none, some (vI v7), some (vI v8), some (vI (0 : Int32)), none, none]) rfl ?_
    refine cX12_elder_L26 C hE _ _ _ _ hf ?_
    · intro g35 hf
      refine me_iconst (v := (-1 : Int32)) (q := 118) C dX12_elder_117 (by decide) rfl ?_
      exact me_iret C hE (Nat.le_of_ble_eq_true rfl) (Nat.le_of_ble_eq_true rfl) rfl dX12_elder_118 (mm_ri hf)
  · have hf := mm_if_f c4 hf
    refine me_iconst (v := (-1 : Int32)) (q := 8) C dX12_elder_7 (by decide) rfl ?_
    exact me_iret C hE (Nat.le_of_ble_eq_true rfl) (Nat.le_of_ble_eq_true rfl) rfl dX12_elder_8 (mm_ri hf)
set_option maxRecDepth 100000 in
set_option maxHeartbeats 4000000 in
theorem cX12_price_L45 {X : mm_X} (C : mm_C X cX12_price yX12_price 6 0 0) {r : Int32} {h1 : mm_H} (hE : mm_End X 0 0 (some .int) (some (vI r)) h1) {b0 : Nat} {b1 : Int32} {b2 : Int32} {b3 : Int32} {b4 : Int32} (K117 : Int32 → mm_H → Option (Int32 × mm_H)) : ∀ (n : Nat) (x5 : Int32) (x6 : Int32) (h : mm_H), fX12_price_L45 b0 b1 b2 b3 b4 K117 n x5 x6 h = some (r, h1) → (∀ (y5 : Int32) (h : mm_H), K117 y5 h = some (r, h1) → mm_E X h 0 0 117 [none, none, none, none, none, some (vI y5), none] []) → mm_E X h 0 0 45 [some (vR (some b0)), some (vI b1), some (vI b2), some (vI b3), some (vI b4), some (vI x5), some (vI x6)] [] := by
  intro n
  induction n with
  | zero =>
    intro x5 x6 h hf
    exact absurd (show (none : Option (Int32 × mm_H)) = some (r, h1) from hf) (by simp)
  | succ n ih =>
    intro x5 x6 h hf hk117
    have hf : fX12_price_L45_b b0 b1 b2 b3 b4 K117 (fX12_price_L45 b0 b1 b2 b3 b4 K117 n) x5 x6 h = some (r, h1) := hf
    unfold fX12_price_L45_b at hf
    refine me_iload (q := 47) C dX12_price_45 rfl rfl ?_
    refine me_aload_n (q := 48) C dX12_price_47 rfl rfl rfl ?_
    obtain ⟨k17, hf⟩ := mm_ck_some hf
    refine me_getI (q := 51) C dX12_price_48 mf_X12_550 rfl rfl k17 rfl ?_
    refine me_icmp_ge (q2 := 117) (q := 54) C dX12_price_51 (by decide) rfl (fun c18 => ?_) (fun c18 => ?_)
    · have hf := mm_if_t c18 hf
      refine me_mask [false, false, false, false, false, true, false] (lv2 := [none, none, none, none, none, some (vI x5), none]) rfl ?_
      exact hk117 _ _ hf
    · have hf := mm_if_f c18 hf
      refine me_aload_n (q := 55) C dX12_price_54 rfl rfl rfl ?_
      refine me_getR (q := 58) C dX12_price_55 mf_X12_188 rfl rfl k17 rfl ?_
      refine me_iload (q := 60) C dX12_price_58 rfl rfl ?_
      obtain ⟨u19, eu19, hf⟩ := mm_rf_some hf
      obtain ⟨k20, hf⟩ := mm_ck_some hf
      obtain ⟨k21, hf⟩ := mm_ck_some hf
      refine me_iald (q := 61) C dX12_price_60 eu19 k20 k21 rfl ?_
      refine me_iload_n (q := 62) C dX12_price_61 rfl rfl rfl ?_
      obtain ⟨q23, eq23, hf⟩ := mm_jn_some hf
      have Hq23 : ∀ (v22 : Int32), q23 v22 = some (r, h1) → mm_E X h 0 0 111 [some (vR (some b0)), some (vI b1), some (vI b2), some (vI b3), some (vI b4), some (vI v22), some (vI x6)] [] := by
        intro v22 hf
        subst eq23
        obtain ⟨v24, ev24, hf⟩ := mm_lt_some hf
        refine me_iinc (q := 114) (v := v24) (lv2 := [some (vR (some b0)), some (vI b1), some (vI b2), some (vI b3), some (vI b4), some (vI v22), some (vI v24)]) C dX12_price_111 rfl (by rw [ev24]; rfl) (Nat.le_of_ble_eq_true rfl) rfl rfl rfl ?_
        refine me_goto (q := 45) C dX12_price_114 (by decide) ?_
        exact ih _ _ _ hf hk117
      refine me_icmp_ne (q2 := 111) (q := 65) C dX12_price_62 (by decide) rfl (fun c25 => ?_) (fun c25 => ?_)
      · have hf := mm_if_t c25 hf
        exact Hq23 _ hf
      · have hf := mm_if_f c25 hf
        refine me_aload_n (q := 66) C dX12_price_65 rfl rfl rfl ?_
        refine me_getR (q := 69) C dX12_price_66 mf_X12_191 rfl rfl k17 rfl ?_
        refine me_iload (q := 71) C dX12_price_69 rfl rfl ?_
        obtain ⟨u26, eu26, hf⟩ := mm_rf_some hf
        obtain ⟨k27, hf⟩ := mm_ck_some hf
        obtain ⟨k28, hf⟩ := mm_ck_some hf
        refine me_iald (q := 72) C dX12_price_71 eu26 k27 k28 rfl ?_
        refine me_iload_n (q := 73) C dX12_price_72 rfl rfl rfl ?_
        refine me_icmp_ne (q2 := 111) (q := 76) C dX12_price_73 (by decide) rfl (fun c29 => ?_) (fun c29 => ?_)
        · have hf := mm_if_t c29 hf
          exact Hq23 _ hf
        · have hf := mm_if_f c29 hf
          refine me_aload_n (q := 77) C dX12_price_76 rfl rfl rfl ?_
          refine me_getR (q := 80) C dX12_price_77 mf_X12_200 rfl rfl k17 rfl ?_
          refine me_iload (q := 82) C dX12_price_80 rfl rfl ?_
          obtain ⟨u30, eu30, hf⟩ := mm_rf_some hf
          obtain ⟨k31, hf⟩ := mm_ck_some hf
          obtain ⟨k32, hf⟩ := mm_ck_some hf
          refine me_iald (q := 83) C dX12_price_82 eu30 k31 k32 rfl ?_
          refine me_iload_n (q := 84) C dX12_price_83 rfl rfl rfl ?_
          refine me_icmp_gt (q2 := 111) (q := 87) C dX12_price_84 (by decide) rfl (fun c33 => ?_) (fun c33 => ?_)
          · have hf := mm_if_t c33 hf
            exact Hq23 _ hf
          · have hf := mm_if_f c33 hf
            refine me_iload (q := 89) C dX12_price_87 rfl rfl ?_
            obtain ⟨q35, eq35, hf⟩ := mm_jn_some hf
            have Hq35 : ∀ (v34 : Int32), q35 v34 = some (r, h1) → mm_E X h 0 0 109 [some (vR (some b0)), some (vI b1), some (vI b2), some (vI b3), some (vI b4), none, some (vI x6)] [vI v34] := by
              intro v34 hf
              subst eq35
              refine me_istore (q := 111) (lv2 := [some (vR (some b0)), some (vI b1), some (vI b2), some (vI b3), some (vI b4), some (vI v34), some (vI x6)]) C dX12_price_109 (Nat.le_of_ble_eq_true rfl) rfl rfl rfl ?_
              exact Hq23 _ hf
            refine me_if_ne (q2 := 102) (q := 92) C dX12_price_89 (by decide) rfl (fun c36 => ?_) (fun c36 => ?_)
            · have hf := mm_if_t c36 hf
              refine me_aload_n (q := 103) C dX12_price_102 rfl rfl rfl ?_
              refine me_getR (q := 106) C dX12_price_103 mf_X12_197 rfl rfl k17 rfl ?_
              refine me_iload (q := 108) C dX12_price_106 rfl rfl ?_
              obtain ⟨u37, eu37, hf⟩ := mm_rf_some hf
              obtain ⟨k38, hf⟩ := mm_ck_some hf
              obtain ⟨k39, hf⟩ := mm_ck_some hf
              refine me_iald (q := 109) C dX12_price_108 eu37 k38 k39 rfl ?_
              refine me_mask [true, true, true, true, true, false, true] (lv2 := [some (vR (some b0)), some (vI b1), some (vI b2), some (vI b3), some (vI b4), none, some (vI x6)]) rfl ?_
              exact Hq35 _ hf
            · have hf := mm_if_f c36 hf
              refine me_aload_n (q := 93) C dX12_price_92 rfl rfl rfl ?_
              refine me_getR (q := 96) C dX12_price_93 mf_X12_194 rfl rfl k17 rfl ?_
              refine me_iload (q := 98) C dX12_price_96 rfl rfl ?_
              obtain ⟨u40, eu40, hf⟩ := mm_rf_some hf
              obtain ⟨k41, hf⟩ := mm_ck_some hf
              obtain ⟨k42, hf⟩ := mm_ck_some hf
              refine me_iald (q := 99) C dX12_price_98 eu40 k41 k42 rfl ?_
              refine me_goto (q := 109) C dX12_price_99 (by decide) ?_
              refine me_mask [true, true, true, true, true, false, true] (lv2 := [some (vR (some b0)), some (vI b1), some (vI b2), some (vI b3), some (vI b4), none, some (vI x6)]) rfl ?_
              exact Hq35 _ hf
set_option maxRecDepth 100000 in
set_option maxHeartbeats 4000000 in
theorem cX12_price_ok (l : Launch) {a0 : Nat} {a1 : Int32} {a2 : Int32} {a3 : Int32} {a4 : Int32} {h : mm_H} {r : Int32} {h1 : mm_H} (hf : fX12_price a0 a1 a2 a3 a4 h = some (r, h1)) : mm_M l yX12_price cX12_price 7 (some .int) 6 0 0 [vR (some a0), vI a1, vI a2, vI a3, vI a4] h (some (vI r)) h1 := by
  refine mm_enter (lv := [some (vR (some a0)), some (vI a1), some (vI a2), some (vI a3), some (vI a4), none, none]) (by decide) rfl (Nat.le_of_ble_eq_true rfl) ?_
  intro X hl C hE
  subst hl
  unfold fX12_price at hf
  refine me_iload_n (q := 1) C dX12_price_0 rfl rfl rfl ?_
  refine me_iconst (v := (0 : Int32)) (q := 2) C dX12_price_1 (by decide) rfl ?_
  refine me_bipush (v := (8 : Int32)) (q := 4) C dX12_price_2 (by decide) rfl ?_
  obtain ⟨v1, g2, e3, hf⟩ := mm_cl_some hf
  refine me_callS (q := 7) (c2 := 0) (s2 := 0) (st := []) C (cX12_in_ok _ e3) mt_X12_269 ms_X12_in dX12_price_4 rfl rfl rfl (Nat.le_of_ble_eq_true rfl) rfl (Nat.le_of_ble_eq_true rfl) rfl (Nat.le_of_ble_eq_true rfl) rfl rfl ?_
  refine me_if_eq (q2 := 37) (q := 10) C dX12_price_7 (by decide) rfl (fun c4 => ?_) (fun c4 => ?_)
  · have hf := mm_if_t c4 hf
    refine me_iconst (v := (-1 : Int32)) (q := 38) C dX12_price_37 (by decide) rfl ?_
    exact me_iret C hE (Nat.le_of_ble_eq_true rfl) (Nat.le_of_ble_eq_true rfl) rfl dX12_price_38 (mm_ri hf)
  · have hf := mm_if_f c4 hf
    refine me_iload_n (q := 11) C dX12_price_10 rfl rfl rfl ?_
    refine me_iconst (v := (0 : Int32)) (q := 12) C dX12_price_11 (by decide) rfl ?_
    refine me_bipush (v := (7 : Int32)) (q := 14) C dX12_price_12 (by decide) rfl ?_
    obtain ⟨v5, g6, e7, hf⟩ := mm_cl_some hf
    refine me_callS (q := 17) (c2 := 0) (s2 := 0) (st := []) C (cX12_in_ok _ e7) mt_X12_269 ms_X12_in dX12_price_14 rfl rfl rfl (Nat.le_of_ble_eq_true rfl) rfl (Nat.le_of_ble_eq_true rfl) rfl (Nat.le_of_ble_eq_true rfl) rfl rfl ?_
    refine me_if_eq (q2 := 37) (q := 20) C dX12_price_17 (by decide) rfl (fun c8 => ?_) (fun c8 => ?_)
    · have hf := mm_if_t c8 hf
      refine me_iconst (v := (-1 : Int32)) (q := 38) C dX12_price_37 (by decide) rfl ?_
      exact me_iret C hE (Nat.le_of_ble_eq_true rfl) (Nat.le_of_ble_eq_true rfl) rfl dX12_price_38 (mm_ri hf)
    · have hf := mm_if_f c8 hf
      refine me_iload_n (q := 21) C dX12_price_20 rfl rfl rfl ?_
      obtain ⟨v9, g10, e11, hf⟩ := mm_cl_some hf
      refine me_callS (q := 24) (c2 := 0) (s2 := 0) (st := []) C (cX12_isDay_ok _ e11) mt_X12_451 ms_X12_isDay dX12_price_21 rfl rfl rfl (Nat.le_of_ble_eq_true rfl) rfl (Nat.le_of_ble_eq_true rfl) rfl (Nat.le_of_ble_eq_true rfl) rfl rfl ?_
      refine me_if_eq (q2 := 37) (q := 27) C dX12_price_24 (by decide) rfl (fun c12 => ?_) (fun c12 => ?_)
      · have hf := mm_if_t c12 hf
        refine me_iconst (v := (-1 : Int32)) (q := 38) C dX12_price_37 (by decide) rfl ?_
        exact me_iret C hE (Nat.le_of_ble_eq_true rfl) (Nat.le_of_ble_eq_true rfl) rfl dX12_price_38 (mm_ri hf)
      · have hf := mm_if_f c12 hf
        refine me_iload (q := 29) C dX12_price_27 rfl rfl ?_
        refine me_iconst (v := (0 : Int32)) (q := 30) C dX12_price_29 (by decide) rfl ?_
        refine me_iconst (v := (1 : Int32)) (q := 31) C dX12_price_30 (by decide) rfl ?_
        obtain ⟨v13, g14, e15, hf⟩ := mm_cl_some hf
        refine me_callS (q := 34) (c2 := 0) (s2 := 0) (st := []) C (cX12_in_ok _ e15) mt_X12_269 ms_X12_in dX12_price_31 rfl rfl rfl (Nat.le_of_ble_eq_true rfl) rfl (Nat.le_of_ble_eq_true rfl) rfl (Nat.le_of_ble_eq_true rfl) rfl rfl ?_
        refine me_if_ne (q2 := 39) (q := 37) C dX12_price_34 (by decide) rfl (fun c16 => ?_) (fun c16 => ?_)
        · have hf := mm_if_t c16 hf
          refine me_iconst (v := (0 : Int32)) (q := 40) C dX12_price_39 (by decide) rfl ?_
          refine me_istore (q := 42) (lv2 := [some (vR (some a0)), some (vI a1), some (vI a2), some (vI a3), some (vI a4), some (vI (0 : Int32)), none]) C dX12_price_40 (Nat.le_of_ble_eq_true rfl) rfl rfl rfl ?_
          refine me_iconst (v := (0 : Int32)) (q := 43) C dX12_price_42 (by decide) rfl ?_
          refine me_istore (q := 45) (lv2 := [some (vR (some a0)), some (vI a1), some (vI a2), some (vI a3), some (vI a4), some (vI (0 : Int32)), some (vI (0 : Int32))]) C dX12_price_43 (Nat.le_of_ble_eq_true rfl) rfl rfl rfl ?_
          refine cX12_price_L45 C hE _ _ _ _ _ hf ?_
          · intro z43 g44 hf
            refine me_iload (q := 119) C dX12_price_117 rfl rfl ?_
            exact me_iret C hE (Nat.le_of_ble_eq_true rfl) (Nat.le_of_ble_eq_true rfl) rfl dX12_price_119 (mm_ri hf)
        · have hf := mm_if_f c16 hf
          refine me_iconst (v := (-1 : Int32)) (q := 38) C dX12_price_37 (by decide) rfl ?_
          exact me_iret C hE (Nat.le_of_ble_eq_true rfl) (Nat.le_of_ble_eq_true rfl) rfl dX12_price_38 (mm_ri hf)
set_option maxRecDepth 100000 in
set_option maxHeartbeats 4000000 in
theorem cX12_weighs_L275 {X : mm_X} (C : mm_C X cX12_weighs yX12_weighs 8 0 0) {r : Int32} {h1 : mm_H} (hE : mm_End X 0 0 (some .int) (some (vI r)) h1) {b0 : Nat} {b9 : Int32} {b10 : Int32} (K340 : mm_H → Option (Int32 × mm_H)) : ∀ (n : Nat) (x11 : Int32) (h : mm_H), fX12_weighs_L275 b0 b9 b10 K340 n x11 h = some (r, h1) → (∀ (h : mm_H), K340 h = some (r, h1) → mm_E X h 0 0 340 [some (vR (some b0)), none, none, none, none, none, none, none, none, some (vI b9), none, none] []) → mm_E X h 0 0 275 [some (vR (some b0)), none, none, none, none, none, none, none, none, some (vI b9), some (vI b10), some (vI x11)] [] := by
  intro n
  induction n with
  | zero =>
    intro x11 h hf
    exact absurd (show (none : Option (Int32 × mm_H)) = some (r, h1) from hf) (by simp)
  | succ n ih =>
    intro x11 h hf hk340
    have hf : fX12_weighs_L275_b b0 b9 b10 K340 (fX12_weighs_L275 b0 b9 b10 K340 n) x11 h = some (r, h1) := hf
    unfold fX12_weighs_L275_b at hf
    refine me_iload (q := 277) C dX12_weighs_275 rfl rfl ?_
    refine me_iconst (v := (-1 : Int32)) (q := 278) C dX12_weighs_277 (by decide) rfl ?_
    refine me_icmp_eq (q2 := 340) (q := 281) C dX12_weighs_278 (by decide) rfl (fun c118 => ?_) (fun c118 => ?_)
    · have hf := mm_if_t c118 hf
      refine me_mask [true, false, false, false, false, false, false, false, false, true, false, false] (lv2 := [some (vR (some b0)), none, none, none, none, none, none, none, none, some (vI b9), none, none]) rfl ?_
      exact hk340 _ hf
    · have hf := mm_if_f c118 hf
      refine me_iload (q := 283) C dX12_weighs_281 rfl rfl ?_
      refine me_aload_n (q := 284) C dX12_weighs_283 rfl rfl rfl ?_
      obtain ⟨k119, hf⟩ := mm_ck_some hf
      refine me_getR (q := 287) C dX12_weighs_284 mf_X12_60 rfl rfl k119 rfl ?_
      refine me_iload (q := 289) C dX12_weighs_287 rfl rfl ?_
      obtain ⟨u120, eu120, hf⟩ := mm_rf_some hf
      obtain ⟨k121, hf⟩ := mm_ck_some hf
      obtain ⟨k122, hf⟩ := mm_ck_some hf
      refine me_iald (q := 290) C dX12_weighs_289 eu120 k121 k122 rfl ?_
      refine me_icmp_ge (q2 := 340) (q := 293) C dX12_weighs_290 (by decide) rfl (fun c123 => ?_) (fun c123 => ?_)
      · have hf := mm_if_t c123 hf
        refine me_mask [true, false, false, false, false, false, false, false, false, true, false, false] (lv2 := [some (vR (some b0)), none, none, none, none, none, none, none, none, some (vI b9), none, none]) rfl ?_
        exact hk340 _ hf
      · have hf := mm_if_f c123 hf
        refine me_aload_n (q := 294) C dX12_weighs_293 rfl rfl rfl ?_
        refine me_bipush (v := (10 : Int32)) (q := 296) C dX12_weighs_294 (by decide) rfl ?_
        refine me_iload (q := 298) C dX12_weighs_296 rfl rfl ?_
        refine me_imul (q := 299) C dX12_weighs_298 rfl ?_
        refine me_iload (q := 301) C dX12_weighs_299 rfl rfl ?_
        refine me_iadd (q := 302) C dX12_weighs_301 rfl ?_
        obtain ⟨v124, g125, e126, hf⟩ := mm_cl_some hf
        refine me_callV (q := 305) (c2 := 0) (s2 := 0) (st := []) C (cX12_isTrue_ok _ e126) mt_X12_486 mv_X12_isTrue rfl (by decide) dX12_weighs_302 rfl k119 rfl rfl rfl (Nat.le_of_ble_eq_true rfl) rfl (Nat.le_of_ble_eq_true rfl) rfl (Nat.le_of_ble_eq_true rfl) rfl rfl ?_
        refine me_if_eq (q2 := 334) (q := 308) C dX12_weighs_305 (by decide) rfl (fun c127 => ?_) (fun c127 => ?_)
        · have hf := mm_if_t c127 hf
          obtain ⟨v128, ev128, hf⟩ := mm_lt_some hf
          refine me_iinc (q := 337) (v := v128) (lv2 := [some (vR (some b0)), none, none, none, none, none, none, none, none, some (vI b9), some (vI b10), some (vI v128)]) C dX12_weighs_334 rfl (by rw [ev128]; rfl) (Nat.le_of_ble_eq_true rfl) rfl rfl rfl ?_
          refine me_goto (q := 275) C dX12_weighs_337 (by decide) ?_
          exact ih _ _ hf hk340
        · have hf := mm_if_f c127 hf
          refine me_aload_n (q := 309) C dX12_weighs_308 rfl rfl rfl ?_
          refine me_iload (q := 311) C dX12_weighs_309 rfl rfl ?_
          obtain ⟨k129, hf⟩ := mm_ck_some hf
          obtain ⟨g130, eg130, hf⟩ := mm_lt_some hf
          refine me_putI (q := 314) C eg130 dX12_weighs_311 mf_X12_145 mp_X12_13_59 rfl (by decide) rfl k129 rfl ?_
          refine me_aload_n (q := 315) C dX12_weighs_314 rfl rfl rfl ?_
          refine me_iload (q := 317) C dX12_weighs_315 rfl rfl ?_
          obtain ⟨g131, eg131, hf⟩ := mm_lt_some hf
          refine me_putI (q := 320) C eg131 dX12_weighs_317 mf_X12_149 mp_X12_13_60 rfl (by decide) rfl (mm_kI eg130 k129) rfl ?_
          refine me_aload_n (q := 321) C dX12_weighs_320 rfl rfl rfl ?_
          refine me_getR (q := 324) C dX12_weighs_321 mf_X12_63 rfl rfl (mm_kI eg131 (mm_kI eg130 k129)) rfl ?_
          refine me_bipush (v := (10 : Int32)) (q := 326) C dX12_weighs_324 (by decide) rfl ?_
          refine me_iload (q := 328) C dX12_weighs_326 rfl rfl ?_
          refine me_imul (q := 329) C dX12_weighs_328 rfl ?_
          refine me_iload (q := 331) C dX12_weighs_329 rfl rfl ?_
          refine me_iadd (q := 332) C dX12_weighs_331 rfl ?_
          obtain ⟨u132, eu132, hf⟩ := mm_rf_some hf
          obtain ⟨k133, hf⟩ := mm_ck_some hf
          obtain ⟨k134, hf⟩ := mm_ck_some hf
          refine me_iald (q := 333) C dX12_weighs_332 eu132 k133 k134 rfl ?_
          exact me_iret C hE (Nat.le_of_ble_eq_true rfl) (Nat.le_of_ble_eq_true rfl) rfl dX12_weighs_333 (mm_ri hf)
set_option maxRecDepth 100000 in
set_option maxHeartbeats 4000000 in
theorem cX12_weighs_L255 {X : mm_X} (C : mm_C X cX12_weighs yX12_weighs 8 0 0) {r : Int32} {h1 : mm_H} (hE : mm_End X 0 0 (some .int) (some (vI r)) h1) {b0 : Nat} (K346 : mm_H → Option (Int32 × mm_H)) : ∀ (n : Nat) (x9 : Int32) (h : mm_H), fX12_weighs_L255 b0 K346 n x9 h = some (r, h1) → (∀ (h : mm_H), K346 h = some (r, h1) → mm_E X h 0 0 346 [none, none, none, none, none, none, none, none, none, none, none, none] []) → mm_E X h 0 0 255 [some (vR (some b0)), none, none, none, none, none, none, none, none, some (vI x9), none, none] [] := by
  intro n
  induction n with
  | zero =>
    intro x9 h hf
    exact absurd (show (none : Option (Int32 × mm_H)) = some (r, h1) from hf) (by simp)
  | succ n ih =>
    intro x9 h hf hk346
    have hf : fX12_weighs_L255_b b0 K346 (fX12_weighs_L255 b0 K346 n) x9 h = some (r, h1) := hf
    unfold fX12_weighs_L255_b at hf
    refine me_iload (q := 257) C dX12_weighs_255 rfl rfl ?_
    refine me_if_lt (q2 := 346) (q := 260) C dX12_weighs_257 (by decide) rfl (fun c113 => ?_) (fun c113 => ?_)
    · have hf := mm_if_t c113 hf
      refine me_mask [false, false, false, false, false, false, false, false, false, false, false, false] (lv2 := [none, none, none, none, none, none, none, none, none, none, none, none]) rfl ?_
      exact hk346 _ hf
    · have hf := mm_if_f c113 hf
      refine me_aload_n (q := 261) C dX12_weighs_260 rfl rfl rfl ?_
      refine me_iload (q := 263) C dX12_weighs_261 rfl rfl ?_
      refine me_aload_n (q := 264) C dX12_weighs_263 rfl rfl rfl ?_
      obtain ⟨k114, hf⟩ := mm_ck_some hf
      refine me_getI (q := 267) C dX12_weighs_264 mf_X12_273 rfl rfl k114 rfl ?_
      obtain ⟨v115, g116, e117, hf⟩ := mm_cl_some hf
      refine me_callV (q := 270) (c2 := 0) (s2 := 0) (st := []) C (cX12_inForce_ok _ e117) mt_X12_454 mv_X12_inForce rfl (by decide) dX12_weighs_267 rfl k114 rfl rfl rfl (Nat.le_of_ble_eq_true rfl) rfl (Nat.le_of_ble_eq_true rfl) rfl (Nat.le_of_ble_eq_true rfl) rfl rfl ?_
      refine me_istore (q := 272) (lv2 := [some (vR (some b0)), none, none, none, none, none, none, none, none, some (vI x9), some (vI v115), none]) C dX12_weighs_270 (Nat.le_of_ble_eq_true rfl) rfl rfl rfl ?_
      refine me_iconst (v := (0 : Int32)) (q := 273) C dX12_weighs_272 (by decide) rfl ?_
      refine me_istore (q := 275) (lv2 := [some (vR (some b0)), none, none, none, none, none, none, none, none, some (vI x9), some (vI v115), some (vI (0 : Int32))]) C dX12_weighs_273 (Nat.le_of_ble_eq_true rfl) rfl rfl rfl ?_
      refine cX12_weighs_L275 C hE _ _ _ _ hf ?_
      · intro g135 hf
        obtain ⟨v136, ev136, hf⟩ := mm_lt_some hf
        refine me_iinc (q := 343) (v := v136) (lv2 := [some (vR (some b0)), none, none, none, none, none, none, none, none, some (vI v136), none, none]) C dX12_weighs_340 rfl (by rw [ev136]; rfl) (Nat.le_of_ble_eq_true rfl) rfl rfl rfl ?_
        refine me_goto (q := 255) C dX12_weighs_343 (by decide) ?_
        exact ih _ _ hf hk346
set_option maxRecDepth 100000 in
set_option maxHeartbeats 4000000 in
theorem cX12_weighs_ok (l : Launch) {a0 : Nat} {a1 : Int32} {a2 : Int32} {a3 : Int32} {a4 : Int32} {a5 : Int32} {a6 : Int32} {a7 : Int32} {h : mm_H} {r : Int32} {h1 : mm_H} (hf : fX12_weighs a0 a1 a2 a3 a4 a5 a6 a7 h = some (r, h1)) : mm_M l yX12_weighs cX12_weighs 12 (some .int) 8 0 0 [vR (some a0), vI a1, vI a2, vI a3, vI a4, vI a5, vI a6, vI a7] h (some (vI r)) h1 := by
  refine mm_enter (lv := [some (vR (some a0)), some (vI a1), some (vI a2), some (vI a3), some (vI a4), some (vI a5), some (vI a6), some (vI a7), none, none, none, none]) (by decide) rfl (Nat.le_of_ble_eq_true rfl) ?_
  intro X hl C hE
  subst hl
  unfold fX12_weighs at hf
  refine me_aload_n (q := 1) C dX12_weighs_0 rfl rfl rfl ?_
  refine me_aload_n (q := 2) C dX12_weighs_1 rfl rfl rfl ?_
  obtain ⟨k1, hf⟩ := mm_ck_some hf
  refine me_getI (q := 5) C dX12_weighs_2 mf_X12_273 rfl rfl k1 rfl ?_
  obtain ⟨v2, g3, e4, hf⟩ := mm_cl_some hf
  refine me_callV (q := 8) (c2 := 0) (s2 := 0) (st := []) C (cX12_elder_ok _ e4) mt_X12_475 mv_X12_elder rfl (by decide) dX12_weighs_5 rfl k1 rfl rfl rfl (Nat.le_of_ble_eq_true rfl) rfl (Nat.le_of_ble_eq_true rfl) rfl (Nat.le_of_ble_eq_true rfl) rfl rfl ?_
  refine me_istore (q := 10) (lv2 := [some (vR (some a0)), some (vI a1), some (vI a2), some (vI a3), some (vI a4), some (vI a5), some (vI a6), some (vI a7), some (vI v2), none, none, none]) C dX12_weighs_8 (Nat.le_of_ble_eq_true rfl) rfl rfl rfl ?_
  refine me_aload_n (q := 11) C dX12_weighs_10 rfl rfl rfl ?_
  obtain ⟨k5, hf⟩ := mm_ck_some hf
  refine me_getR (q := 14) C dX12_weighs_11 mf_X12_85 rfl rfl k5 rfl ?_
  refine me_iconst (v := (0 : Int32)) (q := 15) C dX12_weighs_14 (by decide) rfl ?_
  refine me_aload_n (q := 16) C dX12_weighs_15 rfl rfl rfl ?_
  refine me_getR (q := 19) C dX12_weighs_16 mf_X12_9 rfl rfl k5 rfl ?_
  refine me_iload_n (q := 20) C dX12_weighs_19 rfl rfl rfl ?_
  obtain ⟨u6, eu6, hf⟩ := mm_rf_some hf
  obtain ⟨k7, hf⟩ := mm_ck_some hf
  obtain ⟨k8, hf⟩ := mm_ck_some hf
  refine me_iald (q := 21) C dX12_weighs_20 eu6 k7 k8 rfl ?_
  refine me_i2l (q := 22) C dX12_weighs_21 rfl ?_
  obtain ⟨u9, eu9, hf⟩ := mm_rf_some hf
  obtain ⟨k10, hf⟩ := mm_ck_some hf
  obtain ⟨k11, hf⟩ := mm_ck_some hf
  obtain ⟨g12, eg12, hf⟩ := mm_lt_some hf
  refine me_lastH (q := 23) C eg12 dX12_weighs_22 eu9 k10 k11 rfl ?_
  refine me_aload_n (q := 24) C dX12_weighs_23 rfl rfl rfl ?_
  refine me_getR (q := 27) C dX12_weighs_24 mf_X12_85 rfl rfl (mm_kJ eg12 k5) rfl ?_
  refine me_iconst (v := (1 : Int32)) (q := 28) C dX12_weighs_27 (by decide) rfl ?_
  refine me_aload_n (q := 29) C dX12_weighs_28 rfl rfl rfl ?_
  refine me_getR (q := 32) C dX12_weighs_29 mf_X12_9 rfl rfl (mm_kJ eg12 k5) rfl ?_
  refine me_iload_n (q := 33) C dX12_weighs_32 rfl rfl rfl ?_
  obtain ⟨u13, eu13, hf⟩ := mm_rf_some hf
  obtain ⟨k14, hf⟩ := mm_ck_some hf
  obtain ⟨k15, hf⟩ := mm_ck_some hf
  refine me_iald (q := 34) C dX12_weighs_33 eu13 k14 k15 rfl ?_
  refine me_i2l (q := 35) C dX12_weighs_34 rfl ?_
  obtain ⟨u16, eu16, hf⟩ := mm_rf_some hf
  obtain ⟨k17, hf⟩ := mm_ck_some hf
  obtain ⟨k18, hf⟩ := mm_ck_some hf
  obtain ⟨g19, eg19, hf⟩ := mm_lt_some hf
  refine me_lastH (q := 36) C eg19 dX12_weighs_35 eu16 k17 k18 rfl ?_
  refine me_aload_n (q := 37) C dX12_weighs_36 rfl rfl rfl ?_
  refine me_getR (q := 40) C dX12_weighs_37 mf_X12_85 rfl rfl (mm_kJ eg19 (mm_kJ eg12 k5)) rfl ?_
  refine me_iconst (v := (2 : Int32)) (q := 41) C dX12_weighs_40 (by decide) rfl ?_
  refine me_aload_n (q := 42) C dX12_weighs_41 rfl rfl rfl ?_
  refine me_getR (q := 45) C dX12_weighs_42 mf_X12_32 rfl rfl (mm_kJ eg19 (mm_kJ eg12 k5)) rfl ?_
  refine me_iload_n (q := 46) C dX12_weighs_45 rfl rfl rfl ?_
  obtain ⟨u20, eu20, hf⟩ := mm_rf_some hf
  obtain ⟨k21, hf⟩ := mm_ck_some hf
  obtain ⟨k22, hf⟩ := mm_ck_some hf
  refine me_iald (q := 47) C dX12_weighs_46 eu20 k21 k22 rfl ?_
  refine me_i2l (q := 48) C dX12_weighs_47 rfl ?_
  obtain ⟨u23, eu23, hf⟩ := mm_rf_some hf
  obtain ⟨k24, hf⟩ := mm_ck_some hf
  obtain ⟨k25, hf⟩ := mm_ck_some hf
  obtain ⟨g26, eg26, hf⟩ := mm_lt_some hf
  refine me_lastH (q := 49) C eg26 dX12_weighs_48 eu23 k24 k25 rfl ?_
  refine me_aload_n (q := 50) C dX12_weighs_49 rfl rfl rfl ?_
  refine me_getR (q := 53) C dX12_weighs_50 mf_X12_85 rfl rfl (mm_kJ eg26 (mm_kJ eg19 (mm_kJ eg12 k5))) rfl ?_
  refine me_iconst (v := (3 : Int32)) (q := 54) C dX12_weighs_53 (by decide) rfl ?_
  refine me_iload (q := 56) C dX12_weighs_54 rfl rfl ?_
  refine me_i2l (q := 57) C dX12_weighs_56 rfl ?_
  obtain ⟨u27, eu27, hf⟩ := mm_rf_some hf
  obtain ⟨k28, hf⟩ := mm_ck_some hf
  obtain ⟨k29, hf⟩ := mm_ck_some hf
  obtain ⟨g30, eg30, hf⟩ := mm_lt_some hf
  refine me_lastH (q := 58) C eg30 dX12_weighs_57 eu27 k28 k29 rfl ?_
  refine me_aload_n (q := 59) C dX12_weighs_58 rfl rfl rfl ?_
  refine me_getR (q := 62) C dX12_weighs_59 mf_X12_85 rfl rfl (mm_kJ eg30 (mm_kJ eg26 (mm_kJ eg19 (mm_kJ eg12 k5)))) rfl ?_
  refine me_iconst (v := (4 : Int32)) (q := 63) C dX12_weighs_62 (by decide) rfl ?_
  refine me_iload (q := 65) C dX12_weighs_63 rfl rfl ?_
  refine me_i2l (q := 66) C dX12_weighs_65 rfl ?_
  obtain ⟨u31, eu31, hf⟩ := mm_rf_some hf
  obtain ⟨k32, hf⟩ := mm_ck_some hf
  obtain ⟨k33, hf⟩ := mm_ck_some hf
  obtain ⟨g34, eg34, hf⟩ := mm_lt_some hf
  refine me_lastH (q := 67) C eg34 dX12_weighs_66 eu31 k32 k33 rfl ?_
  refine me_aload_n (q := 68) C dX12_weighs_67 rfl rfl rfl ?_
  refine me_getR (q := 71) C dX12_weighs_68 mf_X12_85 rfl rfl (mm_kJ eg34 (mm_kJ eg30 (mm_kJ eg26 (mm_kJ eg19 (mm_kJ eg12 k5))))) rfl ?_
  refine me_iconst (v := (5 : Int32)) (q := 72) C dX12_weighs_71 (by decide) rfl ?_
  refine me_iload (q := 74) C dX12_weighs_72 rfl rfl ?_
  refine me_i2l (q := 75) C dX12_weighs_74 rfl ?_
  obtain ⟨u35, eu35, hf⟩ := mm_rf_some hf
  obtain ⟨k36, hf⟩ := mm_ck_some hf
  obtain ⟨k37, hf⟩ := mm_ck_some hf
  obtain ⟨g38, eg38, hf⟩ := mm_lt_some hf
  refine me_lastH (q := 76) C eg38 dX12_weighs_75 eu35 k36 k37 rfl ?_
  refine me_aload_n (q := 77) C dX12_weighs_76 rfl rfl rfl ?_
  refine me_getR (q := 80) C dX12_weighs_77 mf_X12_85 rfl rfl (mm_kJ eg38 (mm_kJ eg34 (mm_kJ eg30 (mm_kJ eg26 (mm_kJ eg19 (mm_kJ eg12 k5)))))) rfl ?_
  refine me_bipush (v := (6 : Int32)) (q := 82) C dX12_weighs_80 (by decide) rfl ?_
  refine me_iload (q := 84) C dX12_weighs_82 rfl rfl ?_
  refine me_i2l (q := 85) C dX12_weighs_84 rfl ?_
  obtain ⟨u39, eu39, hf⟩ := mm_rf_some hf
  obtain ⟨k40, hf⟩ := mm_ck_some hf
  obtain ⟨k41, hf⟩ := mm_ck_some hf
  obtain ⟨g42, eg42, hf⟩ := mm_lt_some hf
  refine me_lastH (q := 86) C eg42 dX12_weighs_85 eu39 k40 k41 rfl ?_
  refine me_aload_n (q := 87) C dX12_weighs_86 rfl rfl rfl ?_
  refine me_getR (q := 90) C dX12_weighs_87 mf_X12_85 rfl rfl (mm_kJ eg42 (mm_kJ eg38 (mm_kJ eg34 (mm_kJ eg30 (mm_kJ eg26 (mm_kJ eg19 (mm_kJ eg12 k5))))))) rfl ?_
  refine me_bipush (v := (7 : Int32)) (q := 92) C dX12_weighs_90 (by decide) rfl ?_
  refine me_aload_n (q := 93) C dX12_weighs_92 rfl rfl rfl ?_
  refine me_getI (q := 96) C dX12_weighs_93 mf_X12_273 rfl rfl (mm_kJ eg42 (mm_kJ eg38 (mm_kJ eg34 (mm_kJ eg30 (mm_kJ eg26 (mm_kJ eg19 (mm_kJ eg12 k5))))))) rfl ?_
  refine me_i2l (q := 97) C dX12_weighs_96 rfl ?_
  obtain ⟨u43, eu43, hf⟩ := mm_rf_some hf
  obtain ⟨k44, hf⟩ := mm_ck_some hf
  obtain ⟨k45, hf⟩ := mm_ck_some hf
  obtain ⟨g46, eg46, hf⟩ := mm_lt_some hf
  refine me_lastH (q := 98) C eg46 dX12_weighs_97 eu43 k44 k45 rfl ?_
  refine me_aload_n (q := 99) C dX12_weighs_98 rfl rfl rfl ?_
  refine me_getR (q := 102) C dX12_weighs_99 mf_X12_85 rfl rfl (mm_kJ eg46 (mm_kJ eg42 (mm_kJ eg38 (mm_kJ eg34 (mm_kJ eg30 (mm_kJ eg26 (mm_kJ eg19 (mm_kJ eg12 k5)))))))) rfl ?_
  refine me_bipush (v := (8 : Int32)) (q := 104) C dX12_weighs_102 (by decide) rfl ?_
  refine me_aload_n (q := 105) C dX12_weighs_104 rfl rfl rfl ?_
  refine me_getR (q := 108) C dX12_weighs_105 mf_X12_28 rfl rfl (mm_kJ eg46 (mm_kJ eg42 (mm_kJ eg38 (mm_kJ eg34 (mm_kJ eg30 (mm_kJ eg26 (mm_kJ eg19 (mm_kJ eg12 k5)))))))) rfl ?_
  refine me_iload_n (q := 109) C dX12_weighs_108 rfl rfl rfl ?_
  obtain ⟨u47, eu47, hf⟩ := mm_rf_some hf
  obtain ⟨k48, hf⟩ := mm_ck_some hf
  obtain ⟨k49, hf⟩ := mm_ck_some hf
  refine me_zald (q := 110) C dX12_weighs_109 eu47 k48 k49 rfl ?_
  obtain ⟨q51, eq51, hf⟩ := mm_jn_some hf
  have Hq51 : ∀ (v50 : Int32), q51 v50 = some (r, h1) → mm_E X g46 0 0 127 [some (vR (some a0)), some (vI a1), some (vI a2), some (vI a3), none, none, none, none, some (vI v2), none, none, none] [vI v50, vI (8 : Int32), vR (mm_r g46 a0 37)] := by
    intro v50 hf
    subst eq51
    obtain ⟨v52, g53, e54, hf⟩ := mm_cl_some hf
    refine me_callS (q := 130) (c2 := 0) (s2 := 0) (st := [vI (8 : Int32), vR (mm_r g46 a0 37)]) C (cX12_truth_ok _ e54) mt_X12_462 ms_X12_truth dX12_weighs_127 rfl rfl rfl (Nat.le_of_ble_eq_true rfl) rfl (Nat.le_of_ble_eq_true rfl) rfl (Nat.le_of_ble_eq_true rfl) rfl rfl ?_
    obtain ⟨u55, eu55, hf⟩ := mm_rf_some hf
    obtain ⟨k56, hf⟩ := mm_ck_some hf
    obtain ⟨k57, hf⟩ := mm_ck_some hf
    obtain ⟨g58, eg58, hf⟩ := mm_lt_some hf
    refine me_lastH (q := 131) C eg58 dX12_weighs_130 eu55 k56 k57 rfl ?_
    refine me_aload_n (q := 132) C dX12_weighs_131 rfl rfl rfl ?_
    obtain ⟨k59, hf⟩ := mm_ck_some hf
    refine me_getR (q := 135) C dX12_weighs_132 mf_X12_85 rfl rfl k59 rfl ?_
    refine me_bipush (v := (9 : Int32)) (q := 137) C dX12_weighs_135 (by decide) rfl ?_
    refine me_iload (q := 139) C dX12_weighs_137 rfl rfl ?_
    refine me_iload_n (q := 140) C dX12_weighs_139 rfl rfl rfl ?_
    obtain ⟨q61, eq61, hf⟩ := mm_jn_some hf
    have Hq61 : ∀ (v60 : Int32), q61 v60 = some (r, h1) → mm_E X g58 0 0 154 [some (vR (some a0)), some (vI a1), some (vI a2), some (vI a3), none, none, none, none, none, none, none, none] [vI v60, vI (9 : Int32), vR (mm_r g58 a0 37)] := by
      intro v60 hf
      subst eq61
      obtain ⟨v62, g63, e64, hf⟩ := mm_cl_some hf
      refine me_callS (q := 157) (c2 := 0) (s2 := 0) (st := [vI (9 : Int32), vR (mm_r g58 a0 37)]) C (cX12_truth_ok _ e64) mt_X12_462 ms_X12_truth dX12_weighs_154 rfl rfl rfl (Nat.le_of_ble_eq_true rfl) rfl (Nat.le_of_ble_eq_true rfl) rfl (Nat.le_of_ble_eq_true rfl) rfl rfl ?_
      obtain ⟨u65, eu65, hf⟩ := mm_rf_some hf
      obtain ⟨k66, hf⟩ := mm_ck_some hf
      obtain ⟨k67, hf⟩ := mm_ck_some hf
      obtain ⟨g68, eg68, hf⟩ := mm_lt_some hf
      refine me_lastH (q := 158) C eg68 dX12_weighs_157 eu65 k66 k67 rfl ?_
      refine me_aload_n (q := 159) C dX12_weighs_158 rfl rfl rfl ?_
      obtain ⟨k69, hf⟩ := mm_ck_some hf
      refine me_getR (q := 162) C dX12_weighs_159 mf_X12_85 rfl rfl k69 rfl ?_
      refine me_bipush (v := (10 : Int32)) (q := 164) C dX12_weighs_162 (by decide) rfl ?_
      refine me_aload_n (q := 165) C dX12_weighs_164 rfl rfl rfl ?_
      refine me_iload_n (q := 166) C dX12_weighs_165 rfl rfl rfl ?_
      refine me_iconst (v := (0 : Int32)) (q := 167) C dX12_weighs_166 (by decide) rfl ?_
      obtain ⟨v70, g71, e72, hf⟩ := mm_cl_some hf
      refine me_callV (q := 170) (c2 := 0) (s2 := 0) (st := [vI (10 : Int32), vR (mm_r g68 a0 37)]) C (cX12_owes_ok _ e72) mt_X12_478 mv_X12_owes rfl (by decide) dX12_weighs_167 rfl k69 rfl rfl rfl (Nat.le_of_ble_eq_true rfl) rfl (Nat.le_of_ble_eq_true rfl) rfl (Nat.le_of_ble_eq_true rfl) rfl rfl ?_
      refine me_i2l (q := 171) C dX12_weighs_170 rfl ?_
      obtain ⟨u73, eu73, hf⟩ := mm_rf_some hf
      obtain ⟨k74, hf⟩ := mm_ck_some hf
      obtain ⟨k75, hf⟩ := mm_ck_some hf
      obtain ⟨g76, eg76, hf⟩ := mm_lt_some hf
      refine me_lastH (q := 172) C eg76 dX12_weighs_171 eu73 k74 k75 rfl ?_
      refine me_aload_n (q := 173) C dX12_weighs_172 rfl rfl rfl ?_
      obtain ⟨k77, hf⟩ := mm_ck_some hf
      refine me_getR (q := 176) C dX12_weighs_173 mf_X12_85 rfl rfl k77 rfl ?_
      refine me_bipush (v := (11 : Int32)) (q := 178) C dX12_weighs_176 (by decide) rfl ?_
      refine me_aload_n (q := 179) C dX12_weighs_178 rfl rfl rfl ?_
      refine me_iload_n (q := 180) C dX12_weighs_179 rfl rfl rfl ?_
      refine me_iconst (v := (1 : Int32)) (q := 181) C dX12_weighs_180 (by decide) rfl ?_
      obtain ⟨v78, g79, e80, hf⟩ := mm_cl_some hf
      refine me_callV (q := 184) (c2 := 0) (s2 := 0) (st := [vI (11 : Int32), vR (mm_r g76 a0 37)]) C (cX12_owes_ok _ e80) mt_X12_478 mv_X12_owes rfl (by decide) dX12_weighs_181 rfl k77 rfl rfl rfl (Nat.le_of_ble_eq_true rfl) rfl (Nat.le_of_ble_eq_true rfl) rfl (Nat.le_of_ble_eq_true rfl) rfl rfl ?_
      refine me_i2l (q := 185) C dX12_weighs_184 rfl ?_
      obtain ⟨u81, eu81, hf⟩ := mm_rf_some hf
      obtain ⟨k82, hf⟩ := mm_ck_some hf
      obtain ⟨k83, hf⟩ := mm_ck_some hf
      obtain ⟨g84, eg84, hf⟩ := mm_lt_some hf
      refine me_lastH (q := 186) C eg84 dX12_weighs_185 eu81 k82 k83 rfl ?_
      refine me_aload_n (q := 187) C dX12_weighs_186 rfl rfl rfl ?_
      obtain ⟨k85, hf⟩ := mm_ck_some hf
      refine me_getR (q := 190) C dX12_weighs_187 mf_X12_85 rfl rfl k85 rfl ?_
      refine me_bipush (v := (12 : Int32)) (q := 192) C dX12_weighs_190 (by decide) rfl ?_
      refine me_aload_n (q := 193) C dX12_weighs_192 rfl rfl rfl ?_
      refine me_iload_n (q := 194) C dX12_weighs_193 rfl rfl rfl ?_
      obtain ⟨v86, g87, e88, hf⟩ := mm_cl_some hf
      refine me_callV (q := 197) (c2 := 0) (s2 := 0) (st := [vI (12 : Int32), vR (mm_r g84 a0 37)]) C (cX12_isShutTo_ok _ e88) mt_X12_481 mv_X12_isShutTo rfl (by decide) dX12_weighs_194 rfl k85 rfl rfl rfl (Nat.le_of_ble_eq_true rfl) rfl (Nat.le_of_ble_eq_true rfl) rfl (Nat.le_of_ble_eq_true rfl) rfl rfl ?_
      obtain ⟨q91, eq91, hf⟩ := mm_jn_some hf
      have Hq91 : ∀ (v89 : Int32) (g90 : mm_H), q91 v89 g90 = some (r, h1) → mm_E X g90 0 0 213 [some (vR (some a0)), none, none, some (vI a3), none, none, none, none, none, none, none, none] [vI v89, vI (12 : Int32), vR (mm_r g84 a0 37)] := by
        intro v89 g90 hf
        subst eq91
        obtain ⟨v92, g93, e94, hf⟩ := mm_cl_some hf
        refine me_callS (q := 216) (c2 := 0) (s2 := 0) (st := [vI (12 : Int32), vR (mm_r g84 a0 37)]) C (cX12_truth_ok _ e94) mt_X12_462 ms_X12_truth dX12_weighs_213 rfl rfl rfl (Nat.le_of_ble_eq_true rfl) rfl (Nat.le_of_ble_eq_true rfl) rfl (Nat.le_of_ble_eq_true rfl) rfl rfl ?_
        obtain ⟨u95, eu95, hf⟩ := mm_rf_some hf
        obtain ⟨k96, hf⟩ := mm_ck_some hf
        obtain ⟨k97, hf⟩ := mm_ck_some hf
        obtain ⟨g98, eg98, hf⟩ := mm_lt_some hf
        refine me_lastH (q := 217) C eg98 dX12_weighs_216 eu95 k96 k97 rfl ?_
        refine me_aload_n (q := 218) C dX12_weighs_217 rfl rfl rfl ?_
        obtain ⟨k99, hf⟩ := mm_ck_some hf
        refine me_getR (q := 221) C dX12_weighs_218 mf_X12_85 rfl rfl k99 rfl ?_
        refine me_bipush (v := (13 : Int32)) (q := 223) C dX12_weighs_221 (by decide) rfl ?_
        refine me_aload_n (q := 224) C dX12_weighs_223 rfl rfl rfl ?_
        refine me_bipush (v := (8 : Int32)) (q := 226) C dX12_weighs_224 (by decide) rfl ?_
        refine me_aload_n (q := 227) C dX12_weighs_226 rfl rfl rfl ?_
        refine me_getR (q := 230) C dX12_weighs_227 mf_X12_32 rfl rfl k99 rfl ?_
        refine me_iload_n (q := 231) C dX12_weighs_230 rfl rfl rfl ?_
        obtain ⟨u100, eu100, hf⟩ := mm_rf_some hf
        obtain ⟨k101, hf⟩ := mm_ck_some hf
        obtain ⟨k102, hf⟩ := mm_ck_some hf
        refine me_iald (q := 232) C dX12_weighs_231 eu100 k101 k102 rfl ?_
        refine me_aload_n (q := 233) C dX12_weighs_232 rfl rfl rfl ?_
        refine me_getI (q := 236) C dX12_weighs_233 mf_X12_273 rfl rfl k99 rfl ?_
        refine me_iconst (v := (0 : Int32)) (q := 237) C dX12_weighs_236 (by decide) rfl ?_
        obtain ⟨v103, g104, e105, hf⟩ := mm_cl_some hf
        refine me_callV (q := 240) (c2 := 0) (s2 := 0) (st := [vI (13 : Int32), vR (mm_r g98 a0 37)]) C (cX12_price_ok _ e105) mt_X12_484 mv_X12_price rfl (by decide) dX12_weighs_237 rfl k99 rfl rfl rfl (Nat.le_of_ble_eq_true rfl) rfl (Nat.le_of_ble_eq_true rfl) rfl (Nat.le_of_ble_eq_true rfl) rfl rfl ?_
        refine me_i2l (q := 241) C dX12_weighs_240 rfl ?_
        obtain ⟨u106, eu106, hf⟩ := mm_rf_some hf
        obtain ⟨k107, hf⟩ := mm_ck_some hf
        obtain ⟨k108, hf⟩ := mm_ck_some hf
        obtain ⟨g109, eg109, hf⟩ := mm_lt_some hf
        refine me_lastH (q := 242) C eg109 dX12_weighs_241 eu106 k107 k108 rfl ?_
        refine me_aload_n (q := 243) C dX12_weighs_242 rfl rfl rfl ?_
        refine me_iconst (v := (-1 : Int32)) (q := 244) C dX12_weighs_243 (by decide) rfl ?_
        obtain ⟨k110, hf⟩ := mm_ck_some hf
        obtain ⟨g111, eg111, hf⟩ := mm_lt_some hf
        refine me_putI (q := 247) C eg111 dX12_weighs_244 mf_X12_145 mp_X12_13_59 rfl (by decide) rfl k110 rfl ?_
        refine me_aload_n (q := 248) C dX12_weighs_247 rfl rfl rfl ?_
        refine me_iconst (v := (-1 : Int32)) (q := 249) C dX12_weighs_248 (by decide) rfl ?_
        obtain ⟨g112, eg112, hf⟩ := mm_lt_some hf
        refine me_putI (q := 252) C eg112 dX12_weighs_249 mf_X12_149 mp_X12_13_60 rfl (by decide) rfl (mm_kI eg111 k110) rfl ?_
        refine me_iconst (v := (2 : Int32)) (q := 253) C dX12_weighs_252 (by decide) rfl ?_
        refine me_istore (q := 255) (lv2 := [some (vR (some a0)), none, none, some (vI a3), none, none, none, none, none, some (vI (2 : Int32)), none, none]) C dX12_weighs_253 (Nat.le_of_ble_eq_true rfl) rfl rfl rfl ?_
        refine me_mask [true, false, false, false, false, false, false, false, false, true, false, false] (lv2 := [some (vR (some a0)), none, none, none, none, none, none, none, none, some (vI (2 : Int32)), none, none]) rfl ?_
        refine cX12_weighs_L255 C hE _ _ _ _ hf ?_
        · intro g137 hf
          refine me_iconst (v := (0 : Int32)) (q := 347) C dX12_weighs_346 (by decide) rfl ?_
          exact me_iret C hE (Nat.le_of_ble_eq_true rfl) (Nat.le_of_ble_eq_true rfl) rfl dX12_weighs_347 (mm_ri hf)
      obtain ⟨q139, eq139, hf⟩ := mm_jn_some hf
      have Hq139 : ∀ (g138 : mm_H), q139 g138 = some (r, h1) → mm_E X g138 0 0 208 [some (vR (some a0)), none, none, some (vI a3), none, none, none, none, none, none, none, none] [vI (12 : Int32), vR (mm_r g84 a0 37)] := by
        intro g138 hf
        subst eq139
        refine me_iconst (v := (1 : Int32)) (q := 209) C dX12_weighs_208 (by decide) rfl ?_
        refine me_goto (q := 213) C dX12_weighs_209 (by decide) ?_
        exact Hq91 _ _ hf
      refine me_if_ne (q2 := 208) (q := 200) C dX12_weighs_197 (by decide) rfl (fun c140 => ?_) (fun c140 => ?_)
      · have hf := mm_if_t c140 hf
        refine me_mask [true, false, false, true, false, false, false, false, false, false, false, false] (lv2 := [some (vR (some a0)), none, none, some (vI a3), none, none, none, none, none, none, none, none]) rfl ?_
        exact Hq139 _ hf
      · have hf := mm_if_f c140 hf
        refine me_aload_n (q := 201) C dX12_weighs_200 rfl rfl rfl ?_
        refine me_iload_n (q := 202) C dX12_weighs_201 rfl rfl rfl ?_
        obtain ⟨k141, hf⟩ := mm_ck_some hf
        obtain ⟨v142, g143, e144, hf⟩ := mm_cl_some hf
        refine me_callV (q := 205) (c2 := 0) (s2 := 0) (st := [vI (12 : Int32), vR (mm_r g84 a0 37)]) C (cX12_isShutTo_ok _ e144) mt_X12_481 mv_X12_isShutTo rfl (by decide) dX12_weighs_202 rfl k141 rfl rfl rfl (Nat.le_of_ble_eq_true rfl) rfl (Nat.le_of_ble_eq_true rfl) rfl (Nat.le_of_ble_eq_true rfl) rfl rfl ?_
        refine me_if_eq (q2 := 212) (q := 208) C dX12_weighs_205 (by decide) rfl (fun c145 => ?_) (fun c145 => ?_)
        · have hf := mm_if_t c145 hf
          refine me_iconst (v := (0 : Int32)) (q := 213) C dX12_weighs_212 (by decide) rfl ?_
          refine me_mask [true, false, false, true, false, false, false, false, false, false, false, false] (lv2 := [some (vR (some a0)), none, none, some (vI a3), none, none, none, none, none, none, none, none]) rfl ?_
          exact Hq91 _ _ hf
        · have hf := mm_if_f c145 hf
          refine me_mask [true, false, false, true, false, false, false, false, false, false, false, false] (lv2 := [some (vR (some a0)), none, none, some (vI a3), none, none, none, none, none, none, none, none]) rfl ?_
          exact Hq139 _ hf
    obtain ⟨q146, eq146, hf⟩ := mm_jn_some hf
    have Hq146 : ∀ (_u : Unit), q146 _u = some (r, h1) → mm_E X g58 0 0 149 [some (vR (some a0)), some (vI a1), some (vI a2), some (vI a3), none, none, none, none, none, none, none, none] [vI (9 : Int32), vR (mm_r g58 a0 37)] := by
      intro _u hf
      subst eq146
      refine me_iconst (v := (1 : Int32)) (q := 150) C dX12_weighs_149 (by decide) rfl ?_
      refine me_goto (q := 154) C dX12_weighs_150 (by decide) ?_
      exact Hq61 _ hf
    refine me_icmp_eq (q2 := 149) (q := 143) C dX12_weighs_140 (by decide) rfl (fun c147 => ?_) (fun c147 => ?_)
    · have hf := mm_if_t c147 hf
      refine me_mask [true, true, true, true, false, false, false, false, false, false, false, false] (lv2 := [some (vR (some a0)), some (vI a1), some (vI a2), some (vI a3), none, none, none, none, none, none, none, none]) rfl ?_
      exact Hq146 () hf
    · have hf := mm_if_f c147 hf
      refine me_iload (q := 145) C dX12_weighs_143 rfl rfl ?_
      refine me_iload_n (q := 146) C dX12_weighs_145 rfl rfl rfl ?_
      refine me_icmp_ne (q2 := 153) (q := 149) C dX12_weighs_146 (by decide) rfl (fun c148 => ?_) (fun c148 => ?_)
      · have hf := mm_if_t c148 hf
        refine me_iconst (v := (0 : Int32)) (q := 154) C dX12_weighs_153 (by decide) rfl ?_
        refine me_mask [true, true, true, true, false, false, false, false, false, false, false, false] (lv2 := [some (vR (some a0)), some (vI a1), some (vI a2), some (vI a3), none, none, none, none, none, none, none, none]) rfl ?_
        exact Hq61 _ hf
      · have hf := mm_if_f c148 hf
        refine me_mask [true, true, true, true, false, false, false, false, false, false, false, false] (lv2 := [some (vR (some a0)), some (vI a1), some (vI a2), some (vI a3), none, none, none, none, none, none, none, none]) rfl ?_
        exact Hq146 () hf
  obtain ⟨q149, eq149, hf⟩ := mm_jn_some hf
  have Hq149 : ∀ (_u : Unit), q149 _u = some (r, h1) → mm_E X g46 0 0 122 [some (vR (some a0)), some (vI a1), some (vI a2), some (vI a3), none, none, none, none, some (vI v2), none, none, none] [vI (8 : Int32), vR (mm_r g46 a0 37)] := by
    intro _u hf
    subst eq149
    refine me_iconst (v := (1 : Int32)) (q := 123) C dX12_weighs_122 (by decide) rfl ?_
    refine me_goto (q := 127) C dX12_weighs_123 (by decide) ?_
    exact Hq51 _ hf
  refine me_if_ne (q2 := 122) (q := 113) C dX12_weighs_110 (by decide) rfl (fun c150 => ?_) (fun c150 => ?_)
  · have hf := mm_if_t c150 hf
    refine me_mask [true, true, true, true, false, false, false, false, true, false, false, false] (lv2 := [some (vR (some a0)), some (vI a1), some (vI a2), some (vI a3), none, none, none, none, some (vI v2), none, none, none]) rfl ?_
    exact Hq149 () hf
  · have hf := mm_if_f c150 hf
    refine me_aload_n (q := 114) C dX12_weighs_113 rfl rfl rfl ?_
    refine me_getR (q := 117) C dX12_weighs_114 mf_X12_28 rfl rfl (mm_kJ eg46 (mm_kJ eg42 (mm_kJ eg38 (mm_kJ eg34 (mm_kJ eg30 (mm_kJ eg26 (mm_kJ eg19 (mm_kJ eg12 k5)))))))) rfl ?_
    refine me_iload_n (q := 118) C dX12_weighs_117 rfl rfl rfl ?_
    obtain ⟨k151, hf⟩ := mm_ck_some hf
    refine me_zald (q := 119) C dX12_weighs_118 eu47 k48 k151 rfl ?_
    refine me_if_eq (q2 := 126) (q := 122) C dX12_weighs_119 (by decide) rfl (fun c152 => ?_) (fun c152 => ?_)
    · have hf := mm_if_t c152 hf
      refine me_iconst (v := (0 : Int32)) (q := 127) C dX12_weighs_126 (by decide) rfl ?_
      refine me_mask [true, true, true, true, false, false, false, false, true, false, false, false] (lv2 := [some (vR (some a0)), some (vI a1), some (vI a2), some (vI a3), none, none, none, none, some (vI v2), none, none, none]) rfl ?_
      exact Hq51 _ hf
    · have hf := mm_if_f c152 hf
      refine me_mask [true, true, true, true, false, false, false, false, true, false, false, false] (lv2 := [some (vR (some a0)), some (vI a1), some (vI a2), some (vI a3), none, none, none, none, some (vI v2), none, none, none]) rfl ?_
      exact Hq149 () hf
set_option maxRecDepth 100000 in
set_option maxHeartbeats 4000000 in
theorem cX12_verdict_ok (l : Launch) {a0 : Nat} {a1 : Int32} {a2 : Int32} {a3 : Int32} {a4 : Int32} {a5 : Int32} {a6 : Int32} {a7 : Int32} {h : mm_H} {r : Int32} {h1 : mm_H} (hf : fX12_verdict a0 a1 a2 a3 a4 a5 a6 a7 h = some (r, h1)) : mm_M l yX12_verdict cX12_verdict 8 (some .int) 10 0 0 [vR (some a0), vI a1, vI a2, vI a3, vI a4, vI a5, vI a6, vI a7] h (some (vI r)) h1 := by
  refine mm_enter (lv := [some (vR (some a0)), some (vI a1), some (vI a2), some (vI a3), some (vI a4), some (vI a5), some (vI a6), some (vI a7)]) (by decide) rfl (Nat.le_of_ble_eq_true rfl) ?_
  intro X hl C hE
  subst hl
  unfold fX12_verdict at hf
  refine me_aload_n (q := 1) C dX12_verdict_0 rfl rfl rfl ?_
  refine me_iload_n (q := 2) C dX12_verdict_1 rfl rfl rfl ?_
  refine me_iload_n (q := 3) C dX12_verdict_2 rfl rfl rfl ?_
  refine me_iload_n (q := 4) C dX12_verdict_3 rfl rfl rfl ?_
  refine me_iload (q := 6) C dX12_verdict_4 rfl rfl ?_
  refine me_iload (q := 8) C dX12_verdict_6 rfl rfl ?_
  refine me_iload (q := 10) C dX12_verdict_8 rfl rfl ?_
  refine me_iload (q := 12) C dX12_verdict_10 rfl rfl ?_
  obtain ⟨k1, hf⟩ := mm_ck_some hf
  obtain ⟨v2, g3, e4, hf⟩ := mm_cl_some hf
  refine me_callV (q := 15) (c2 := 0) (s2 := 0) (st := []) C (cX12_asked_ok _ e4) mt_X12_489 mv_X12_asked rfl (by decide) dX12_verdict_12 rfl k1 rfl rfl rfl (Nat.le_of_ble_eq_true rfl) rfl (Nat.le_of_ble_eq_true rfl) rfl (Nat.le_of_ble_eq_true rfl) rfl rfl ?_
  refine me_if_le (q2 := 22) (q := 18) C dX12_verdict_15 (by decide) rfl (fun c5 => ?_) (fun c5 => ?_)
  · have hf := mm_if_t c5 hf
    refine me_aload_n (q := 23) C dX12_verdict_22 rfl rfl rfl ?_
    refine me_iload_n (q := 24) C dX12_verdict_23 rfl rfl rfl ?_
    refine me_iload_n (q := 25) C dX12_verdict_24 rfl rfl rfl ?_
    refine me_iload_n (q := 26) C dX12_verdict_25 rfl rfl rfl ?_
    refine me_iload (q := 28) C dX12_verdict_26 rfl rfl ?_
    refine me_iload (q := 30) C dX12_verdict_28 rfl rfl ?_
    refine me_iload (q := 32) C dX12_verdict_30 rfl rfl ?_
    refine me_iload (q := 34) C dX12_verdict_32 rfl rfl ?_
    obtain ⟨k6, hf⟩ := mm_ck_some hf
    obtain ⟨v7, g8, e9, hf⟩ := mm_cl_some hf
    refine me_callV (q := 37) (c2 := 0) (s2 := 0) (st := []) C (cX12_weighs_ok _ e9) mt_X12_493 mv_X12_weighs rfl (by decide) dX12_verdict_34 rfl k6 rfl rfl rfl (Nat.le_of_ble_eq_true rfl) rfl (Nat.le_of_ble_eq_true rfl) rfl (Nat.le_of_ble_eq_true rfl) rfl rfl ?_
    exact me_iret C hE (Nat.le_of_ble_eq_true rfl) (Nat.le_of_ble_eq_true rfl) rfl dX12_verdict_37 (mm_ri hf)
  · have hf := mm_if_f c5 hf
    refine me_iconst (v := (-1 : Int32)) (q := 19) C dX12_verdict_18 (by decide) rfl ?_
    refine me_goto (q := 37) C dX12_verdict_19 (by decide) ?_
    exact me_iret C hE (Nat.le_of_ble_eq_true rfl) (Nat.le_of_ble_eq_true rfl) rfl dX12_verdict_37 (mm_ri hf)
set_option maxRecDepth 100000 in
set_option maxHeartbeats 4000000 in
theorem cX12_told_ok (l : Launch) {a0 : Nat} {a1 : Int32} {h : mm_H} {r : Int32} {h1 : mm_H} (hf : fX12_told a0 a1 h = some (r, h1)) : mm_M l yX12_told cX12_told 2 (some .int) 2 0 0 [vR (some a0), vI a1] h (some (vI r)) h1 := by
  refine mm_enter (lv := [some (vR (some a0)), some (vI a1)]) (by decide) rfl (Nat.le_of_ble_eq_true rfl) ?_
  intro X hl C hE
  subst hl
  unfold fX12_told at hf
  refine me_iload_n (q := 1) C dX12_told_0 rfl rfl rfl ?_
  refine me_if_ne (q2 := 11) (q := 4) C dX12_told_1 (by decide) rfl (fun c1 => ?_) (fun c1 => ?_)
  · have hf := mm_if_t c1 hf
    refine me_iload_n (q := 12) C dX12_told_11 rfl rfl rfl ?_
    refine me_iconst (v := (1 : Int32)) (q := 13) C dX12_told_12 (by decide) rfl ?_
    refine me_icmp_ne (q2 := 23) (q := 16) C dX12_told_13 (by decide) rfl (fun c2 => ?_) (fun c2 => ?_)
    · have hf := mm_if_t c2 hf
      refine me_iconst (v := (-1 : Int32)) (q := 24) C dX12_told_23 (by decide) rfl ?_
      exact me_iret C hE (Nat.le_of_ble_eq_true rfl) (Nat.le_of_ble_eq_true rfl) rfl dX12_told_24 (mm_ri hf)
    · have hf := mm_if_f c2 hf
      refine me_aload_n (q := 17) C dX12_told_16 rfl rfl rfl ?_
      obtain ⟨k3, hf⟩ := mm_ck_some hf
      refine me_getI (q := 20) C dX12_told_17 mf_X12_149 rfl rfl k3 rfl ?_
      refine me_goto (q := 24) C dX12_told_20 (by decide) ?_
      exact me_iret C hE (Nat.le_of_ble_eq_true rfl) (Nat.le_of_ble_eq_true rfl) rfl dX12_told_24 (mm_ri hf)
  · have hf := mm_if_f c1 hf
    refine me_aload_n (q := 5) C dX12_told_4 rfl rfl rfl ?_
    obtain ⟨k4, hf⟩ := mm_ck_some hf
    refine me_getI (q := 8) C dX12_told_5 mf_X12_145 rfl rfl k4 rfl ?_
    refine me_goto (q := 24) C dX12_told_8 (by decide) ?_
    exact me_iret C hE (Nat.le_of_ble_eq_true rfl) (Nat.le_of_ble_eq_true rfl) rfl dX12_told_24 (mm_ri hf)
set_option maxRecDepth 100000 in
set_option maxHeartbeats 4000000 in
theorem cX12_deal_ok (l : Launch) {a0 : Nat} {a1 : Int32} {a2 : Int32} {a3 : Int32} {a4 : Int32} {a5 : Int32} {a6 : Int32} {a7 : Int32} {h : mm_H} {r : Int32} {h1 : mm_H} (hf : fX12_deal a0 a1 a2 a3 a4 a5 a6 a7 h = some (r, h1)) : mm_M l yX12_deal cX12_deal 12 (some .int) 10 0 0 [vR (some a0), vI a1, vI a2, vI a3, vI a4, vI a5, vI a6, vI a7] h (some (vI r)) h1 := by
  refine mm_enter (lv := [some (vR (some a0)), some (vI a1), some (vI a2), some (vI a3), some (vI a4), some (vI a5), some (vI a6), some (vI a7), none, none, none, none]) (by decide) rfl (Nat.le_of_ble_eq_true rfl) ?_
  intro X hl C hE
  subst hl
  unfold fX12_deal at hf
  refine me_aload_n (q := 1) C dX12_deal_0 rfl rfl rfl ?_
  refine me_iload_n (q := 2) C dX12_deal_1 rfl rfl rfl ?_
  refine me_iload_n (q := 3) C dX12_deal_2 rfl rfl rfl ?_
  refine me_iload_n (q := 4) C dX12_deal_3 rfl rfl rfl ?_
  refine me_iload (q := 6) C dX12_deal_4 rfl rfl ?_
  refine me_iload (q := 8) C dX12_deal_6 rfl rfl ?_
  refine me_iload (q := 10) C dX12_deal_8 rfl rfl ?_
  refine me_iload (q := 12) C dX12_deal_10 rfl rfl ?_
  obtain ⟨k1, hf⟩ := mm_ck_some hf
  obtain ⟨v2, g3, e4, hf⟩ := mm_cl_some hf
  refine me_callV (q := 15) (c2 := 0) (s2 := 0) (st := []) C (cX12_asked_ok _ e4) mt_X12_489 mv_X12_asked rfl (by decide) dX12_deal_12 rfl k1 rfl rfl rfl (Nat.le_of_ble_eq_true rfl) rfl (Nat.le_of_ble_eq_true rfl) rfl (Nat.le_of_ble_eq_true rfl) rfl rfl ?_
  refine me_istore (q := 17) (lv2 := [some (vR (some a0)), some (vI a1), some (vI a2), some (vI a3), some (vI a4), some (vI a5), some (vI a6), some (vI a7), some (vI v2), none, none, none]) C dX12_deal_15 (Nat.le_of_ble_eq_true rfl) rfl rfl rfl ?_
  refine me_iload (q := 19) C dX12_deal_17 rfl rfl ?_
  refine me_if_le (q2 := 25) (q := 22) C dX12_deal_19 (by decide) rfl (fun c5 => ?_) (fun c5 => ?_)
  · have hf := mm_if_t c5 hf
    refine me_aload_n (q := 26) C dX12_deal_25 rfl rfl rfl ?_
    obtain ⟨k6, hf⟩ := mm_ck_some hf
    refine me_getI (q := 29) C dX12_deal_26 mf_X12_288 rfl rfl k6 rfl ?_
    refine me_sipush (v := (200 : Int32)) (q := 32) C dX12_deal_29 (by decide) rfl ?_
    refine me_icmp_eq (q2 := 45) (q := 35) C dX12_deal_32 (by decide) rfl (fun c7 => ?_) (fun c7 => ?_)
    · have hf := mm_if_t c7 hf
      refine me_iconst (v := (4 : Int32)) (q := 46) C dX12_deal_45 (by decide) rfl ?_
      exact me_iret C hE (Nat.le_of_ble_eq_true rfl) (Nat.le_of_ble_eq_true rfl) rfl dX12_deal_46 (mm_ri hf)
    · have hf := mm_if_f c7 hf
      refine me_aload_n (q := 36) C dX12_deal_35 rfl rfl rfl ?_
      refine me_getI (q := 39) C dX12_deal_36 mf_X12_472 rfl rfl k6 rfl ?_
      refine me_sipush (v := (300 : Int32)) (q := 42) C dX12_deal_39 (by decide) rfl ?_
      refine me_icmp_ne (q2 := 47) (q := 45) C dX12_deal_42 (by decide) rfl (fun c8 => ?_) (fun c8 => ?_)
      · have hf := mm_if_t c8 hf
        refine me_aload_n (q := 48) C dX12_deal_47 rfl rfl rfl ?_
        refine me_iload_n (q := 49) C dX12_deal_48 rfl rfl rfl ?_
        refine me_iload_n (q := 50) C dX12_deal_49 rfl rfl rfl ?_
        refine me_iload_n (q := 51) C dX12_deal_50 rfl rfl rfl ?_
        refine me_iload (q := 53) C dX12_deal_51 rfl rfl ?_
        refine me_iload (q := 55) C dX12_deal_53 rfl rfl ?_
        refine me_iload (q := 57) C dX12_deal_55 rfl rfl ?_
        refine me_iload (q := 59) C dX12_deal_57 rfl rfl ?_
        obtain ⟨v9, g10, e11, hf⟩ := mm_cl_some hf
        refine me_callV (q := 62) (c2 := 0) (s2 := 0) (st := []) C (cX12_weighs_ok _ e11) mt_X12_493 mv_X12_weighs rfl (by decide) dX12_deal_59 rfl k6 rfl rfl rfl (Nat.le_of_ble_eq_true rfl) rfl (Nat.le_of_ble_eq_true rfl) rfl (Nat.le_of_ble_eq_true rfl) rfl rfl ?_
        refine me_istore (q := 64) (lv2 := [some (vR (some a0)), some (vI a1), some (vI a2), some (vI a3), some (vI a4), some (vI a5), some (vI a6), some (vI a7), some (vI v2), some (vI v9), none, none]) C dX12_deal_62 (Nat.le_of_ble_eq_true rfl) rfl rfl rfl ?_
        refine me_iload (q := 66) C dX12_deal_64 rfl rfl ?_
        refine me_iconst (v := (1 : Int32)) (q := 67) C dX12_deal_66 (by decide) rfl ?_
        refine me_icmp_ne (q2 := 72) (q := 70) C dX12_deal_67 (by decide) rfl (fun c12 => ?_) (fun c12 => ?_)
        · have hf := mm_if_t c12 hf
          refine me_iload (q := 74) C dX12_deal_72 rfl rfl ?_
          obtain ⟨q13, eq13, hf⟩ := mm_jn_some hf
          have Hq13 : ∀ (_u : Unit), q13 _u = some (r, h1) → mm_E X g10 0 0 91 [some (vR (some a0)), some (vI a1), some (vI a2), some (vI a3), some (vI a4), some (vI a5), some (vI a6), none, none, some (vI v9), none, none] [] := by
            intro _u hf
            subst eq13
            refine me_aload_n (q := 92) C dX12_deal_91 rfl rfl rfl ?_
            obtain ⟨k14, hf⟩ := mm_ck_some hf
            refine me_getR (q := 95) C dX12_deal_92 mf_X12_35 rfl rfl k14 rfl ?_
            refine me_iload_n (q := 96) C dX12_deal_95 rfl rfl rfl ?_
            refine me_dup2_11 (q := 97) C dX12_deal_96 rfl rfl rfl ?_
            obtain ⟨u15, eu15, hf⟩ := mm_rf_some hf
            obtain ⟨k16, hf⟩ := mm_ck_some hf
            obtain ⟨k17, hf⟩ := mm_ck_some hf
            refine me_iald (q := 98) C dX12_deal_97 eu15 k16 k17 rfl ?_
            refine me_iload (q := 100) C dX12_deal_98 rfl rfl ?_
            refine me_isub (q := 101) C dX12_deal_100 rfl ?_
            obtain ⟨k18, hf⟩ := mm_ck_some hf
            obtain ⟨g19, eg19, hf⟩ := mm_lt_some hf
            refine me_iastH (q := 102) C eg19 dX12_deal_101 eu15 k16 k18 rfl ?_
            refine me_aload_n (q := 103) C dX12_deal_102 rfl rfl rfl ?_
            refine me_getI (q := 106) C dX12_deal_103 mf_X12_472 rfl rfl (mm_kI eg19 k14) rfl ?_
            obtain ⟨v20, ev20, hf⟩ := mm_lt_some hf
            refine me_topI ev20 ?_
            refine me_istore (q := 108) (lv2 := [some (vR (some a0)), some (vI a1), some (vI a2), some (vI a3), some (vI a4), some (vI a5), some (vI a6), none, none, some (vI v9), some (vI v20), none]) C dX12_deal_106 (Nat.le_of_ble_eq_true rfl) rfl rfl rfl ?_
            refine me_aload_n (q := 109) C dX12_deal_108 rfl rfl rfl ?_
            refine me_dup (q := 110) C dX12_deal_109 rfl rfl ?_
            refine me_getI (q := 113) C dX12_deal_110 mf_X12_472 rfl rfl (mm_kI eg19 k14) rfl ?_
            refine me_iconst (v := (1 : Int32)) (q := 114) C dX12_deal_113 (by decide) rfl ?_
            refine me_iadd (q := 115) C dX12_deal_114 rfl ?_
            obtain ⟨g21, eg21, hf⟩ := mm_lt_some hf
            refine me_putI (q := 118) C eg21 dX12_deal_115 mf_X12_472 mp_X12_13_43 rfl (by decide) rfl (mm_kI eg19 k14) rfl ?_
            refine me_aload_n (q := 119) C dX12_deal_118 rfl rfl rfl ?_
            refine me_getR (q := 122) C dX12_deal_119 mf_X12_100 rfl rfl (mm_kI eg21 (mm_kI eg19 k14)) rfl ?_
            refine me_iload (q := 124) C dX12_deal_122 rfl rfl ?_
            refine me_iload_n (q := 125) C dX12_deal_124 rfl rfl rfl ?_
            obtain ⟨u22, eu22, hf⟩ := mm_rf_some hf
            obtain ⟨k23, hf⟩ := mm_ck_some hf
            obtain ⟨k24, hf⟩ := mm_ck_some hf
            obtain ⟨g25, eg25, hf⟩ := mm_lt_some hf
            refine me_iastH (q := 126) C eg25 dX12_deal_125 eu22 k23 k24 rfl ?_
            refine me_aload_n (q := 127) C dX12_deal_126 rfl rfl rfl ?_
            refine me_getR (q := 130) C dX12_deal_127 mf_X12_103 rfl rfl (mm_kI eg25 (mm_kI eg21 (mm_kI eg19 k14))) rfl ?_
            refine me_iload (q := 132) C dX12_deal_130 rfl rfl ?_
            refine me_iload_n (q := 133) C dX12_deal_132 rfl rfl rfl ?_
            obtain ⟨u26, eu26, hf⟩ := mm_rf_some hf
            obtain ⟨k27, hf⟩ := mm_ck_some hf
            obtain ⟨k28, hf⟩ := mm_ck_some hf
            obtain ⟨g29, eg29, hf⟩ := mm_lt_some hf
            refine me_iastH (q := 134) C eg29 dX12_deal_133 eu26 k27 k28 rfl ?_
            refine me_aload_n (q := 135) C dX12_deal_134 rfl rfl rfl ?_
            refine me_getR (q := 138) C dX12_deal_135 mf_X12_106 rfl rfl (mm_kI eg29 (mm_kI eg25 (mm_kI eg21 (mm_kI eg19 k14)))) rfl ?_
            refine me_iload (q := 140) C dX12_deal_138 rfl rfl ?_
            refine me_aload_n (q := 141) C dX12_deal_140 rfl rfl rfl ?_
            refine me_iload_n (q := 142) C dX12_deal_141 rfl rfl rfl ?_
            refine me_aload_n (q := 143) C dX12_deal_142 rfl rfl rfl ?_
            refine me_getR (q := 146) C dX12_deal_143 mf_X12_32 rfl rfl (mm_kI eg29 (mm_kI eg25 (mm_kI eg21 (mm_kI eg19 k14)))) rfl ?_
            refine me_iload_n (q := 147) C dX12_deal_146 rfl rfl rfl ?_
            obtain ⟨u30, eu30, hf⟩ := mm_rf_some hf
            obtain ⟨k31, hf⟩ := mm_ck_some hf
            obtain ⟨k32, hf⟩ := mm_ck_some hf
            refine me_iald (q := 148) C dX12_deal_147 eu30 k31 k32 rfl ?_
            refine me_iload (q := 150) C dX12_deal_148 rfl rfl ?_
            refine me_iload_n (q := 151) C dX12_deal_150 rfl rfl rfl ?_
            obtain ⟨v33, g34, e35, hf⟩ := mm_cl_some hf
            refine me_callV (q := 154) (c2 := 0) (s2 := 0) (st := [vI v20, vR (mm_r g29 a0 46)]) C (cX12_comes_ok _ e35) mt_X12_291 mv_X12_comes rfl (by decide) dX12_deal_151 rfl (mm_kI eg29 (mm_kI eg25 (mm_kI eg21 (mm_kI eg19 k14)))) rfl rfl rfl (Nat.le_of_ble_eq_true rfl) rfl (Nat.le_of_ble_eq_true rfl) rfl (Nat.le_of_ble_eq_true rfl) rfl rfl ?_
            obtain ⟨u36, eu36, hf⟩ := mm_rf_some hf
            obtain ⟨k37, hf⟩ := mm_ck_some hf
            obtain ⟨k38, hf⟩ := mm_ck_some hf
            obtain ⟨g39, eg39, hf⟩ := mm_lt_some hf
            refine me_iastH (q := 155) C eg39 dX12_deal_154 eu36 k37 k38 rfl ?_
            refine me_aload_n (q := 156) C dX12_deal_155 rfl rfl rfl ?_
            obtain ⟨k40, hf⟩ := mm_ck_some hf
            refine me_getR (q := 159) C dX12_deal_156 mf_X12_109 rfl rfl k40 rfl ?_
            refine me_iload (q := 161) C dX12_deal_159 rfl rfl ?_
            refine me_iload (q := 163) C dX12_deal_161 rfl rfl ?_
            obtain ⟨u41, eu41, hf⟩ := mm_rf_some hf
            obtain ⟨k42, hf⟩ := mm_ck_some hf
            obtain ⟨k43, hf⟩ := mm_ck_some hf
            obtain ⟨g44, eg44, hf⟩ := mm_lt_some hf
            refine me_iastH (q := 164) C eg44 dX12_deal_163 eu41 k42 k43 rfl ?_
            refine me_aload_n (q := 165) C dX12_deal_164 rfl rfl rfl ?_
            refine me_getR (q := 168) C dX12_deal_165 mf_X12_112 rfl rfl (mm_kI eg44 k40) rfl ?_
            refine me_iload (q := 170) C dX12_deal_168 rfl rfl ?_
            refine me_iload (q := 172) C dX12_deal_170 rfl rfl ?_
            obtain ⟨q46, eq46, hf⟩ := mm_jn_some hf
            have Hq46 : ∀ (v45 : Int32), q46 v45 = some (r, h1) → mm_E X g44 0 0 181 [some (vR (some a0)), some (vI a1), some (vI a2), none, none, some (vI a5), some (vI a6), none, none, some (vI v9), some (vI v20), none] [vI v45, vI v20, vR (mm_r g44 a0 48)] := by
              intro v45 hf
              subst eq46
              obtain ⟨u47, eu47, hf⟩ := mm_rf_some hf
              obtain ⟨k48, hf⟩ := mm_ck_some hf
              obtain ⟨k49, hf⟩ := mm_ck_some hf
              obtain ⟨g50, eg50, hf⟩ := mm_lt_some hf
              refine me_iastH (q := 182) C eg50 dX12_deal_181 eu47 k48 k49 rfl ?_
              refine me_aload_n (q := 183) C dX12_deal_182 rfl rfl rfl ?_
              refine me_getR (q := 186) C dX12_deal_183 mf_X12_115 rfl rfl (mm_kI eg50 (mm_kI eg44 k40)) rfl ?_
              refine me_iload (q := 188) C dX12_deal_186 rfl rfl ?_
              refine me_iload (q := 190) C dX12_deal_188 rfl rfl ?_
              obtain ⟨q52, eq52, hf⟩ := mm_jn_some hf
              have Hq52 : ∀ (v51 : Int32), q52 v51 = some (r, h1) → mm_E X g50 0 0 204 [some (vR (some a0)), some (vI a1), some (vI a2), none, none, some (vI a5), some (vI a6), none, none, some (vI v9), some (vI v20), none] [vI v51, vI v20, vR (mm_r g50 a0 49)] := by
                intro v51 hf
                subst eq52
                obtain ⟨u53, eu53, hf⟩ := mm_rf_some hf
                obtain ⟨k54, hf⟩ := mm_ck_some hf
                obtain ⟨k55, hf⟩ := mm_ck_some hf
                obtain ⟨g56, eg56, hf⟩ := mm_lt_some hf
                refine me_iastH (q := 205) C eg56 dX12_deal_204 eu53 k54 k55 rfl ?_
                refine me_aload_n (q := 206) C dX12_deal_205 rfl rfl rfl ?_
                refine me_getR (q := 209) C dX12_deal_206 mf_X12_121 rfl rfl (mm_kI eg56 (mm_kI eg50 (mm_kI eg44 k40))) rfl ?_
                refine me_iload (q := 211) C dX12_deal_209 rfl rfl ?_
                refine me_aload_n (q := 212) C dX12_deal_211 rfl rfl rfl ?_
                refine me_getI (q := 215) C dX12_deal_212 mf_X12_273 rfl rfl (mm_kI eg56 (mm_kI eg50 (mm_kI eg44 k40))) rfl ?_
                obtain ⟨u57, eu57, hf⟩ := mm_rf_some hf
                obtain ⟨k58, hf⟩ := mm_ck_some hf
                obtain ⟨k59, hf⟩ := mm_ck_some hf
                obtain ⟨g60, eg60, hf⟩ := mm_lt_some hf
                refine me_iastH (q := 216) C eg60 dX12_deal_215 eu57 k58 k59 rfl ?_
                refine me_aload_n (q := 217) C dX12_deal_216 rfl rfl rfl ?_
                refine me_getR (q := 220) C dX12_deal_217 mf_X12_124 rfl rfl (mm_kI eg60 (mm_kI eg56 (mm_kI eg50 (mm_kI eg44 k40)))) rfl ?_
                refine me_iload (q := 222) C dX12_deal_220 rfl rfl ?_
                refine me_iload_n (q := 223) C dX12_deal_222 rfl rfl rfl ?_
                obtain ⟨u61, eu61, hf⟩ := mm_rf_some hf
                obtain ⟨k62, hf⟩ := mm_ck_some hf
                obtain ⟨k63, hf⟩ := mm_ck_some hf
                obtain ⟨g64, eg64, hf⟩ := mm_lt_some hf
                refine me_iastH (q := 224) C eg64 dX12_deal_223 eu61 k62 k63 rfl ?_
                refine me_aload_n (q := 225) C dX12_deal_224 rfl rfl rfl ?_
                refine me_getR (q := 228) C dX12_deal_225 mf_X12_127 rfl rfl (mm_kI eg64 (mm_kI eg60 (mm_kI eg56 (mm_kI eg50 (mm_kI eg44 k40))))) rfl ?_
                refine me_iload (q := 230) C dX12_deal_228 rfl rfl ?_
                refine me_aload_n (q := 231) C dX12_deal_230 rfl rfl rfl ?_
                refine me_getR (q := 234) C dX12_deal_231 mf_X12_9 rfl rfl (mm_kI eg64 (mm_kI eg60 (mm_kI eg56 (mm_kI eg50 (mm_kI eg44 k40))))) rfl ?_
                refine me_iload_n (q := 235) C dX12_deal_234 rfl rfl rfl ?_
                obtain ⟨u65, eu65, hf⟩ := mm_rf_some hf
                obtain ⟨k66, hf⟩ := mm_ck_some hf
                obtain ⟨k67, hf⟩ := mm_ck_some hf
                refine me_iald (q := 236) C dX12_deal_235 eu65 k66 k67 rfl ?_
                obtain ⟨u68, eu68, hf⟩ := mm_rf_some hf
                obtain ⟨k69, hf⟩ := mm_ck_some hf
                obtain ⟨k70, hf⟩ := mm_ck_some hf
                obtain ⟨g71, eg71, hf⟩ := mm_lt_some hf
                refine me_iastH (q := 237) C eg71 dX12_deal_236 eu68 k69 k70 rfl ?_
                refine me_iload (q := 239) C dX12_deal_237 rfl rfl ?_
                obtain ⟨q73, eq73, hf⟩ := mm_jn_some hf
                have Hq73 : ∀ (g72 : mm_H), q73 g72 = some (r, h1) → mm_E X g72 0 0 264 [some (vR (some a0)), some (vI a1), none, none, none, none, none, none, none, some (vI v9), some (vI v20), none] [] := by
                  intro g72 hf
                  subst eq73
                  refine me_iload (q := 266) C dX12_deal_264 rfl rfl ?_
                  refine me_bipush (v := (10 : Int32)) (q := 268) C dX12_deal_266 (by decide) rfl ?_
                  obtain ⟨q75, eq75, hf⟩ := mm_jn_some hf
                  have Hq75 : ∀ (v74 : Int32), q75 v74 = some (r, h1) → mm_E X g72 0 0 303 [some (vR (some a0)), some (vI a1), none, none, none, none, none, none, none, none, some (vI v20), none] [vI v74] := by
                    intro v74 hf
                    subst eq75
                    refine me_istore (q := 305) (lv2 := [some (vR (some a0)), some (vI a1), none, none, none, none, none, none, none, none, some (vI v20), some (vI v74)]) C dX12_deal_303 (Nat.le_of_ble_eq_true rfl) rfl rfl rfl ?_
                    refine me_aload_n (q := 306) C dX12_deal_305 rfl rfl rfl ?_
                    obtain ⟨k76, hf⟩ := mm_ck_some hf
                    refine me_getR (q := 309) C dX12_deal_306 mf_X12_13 rfl rfl k76 rfl ?_
                    refine me_iload_n (q := 310) C dX12_deal_309 rfl rfl rfl ?_
                    refine me_dup2_11 (q := 311) C dX12_deal_310 rfl rfl rfl ?_
                    obtain ⟨u77, eu77, hf⟩ := mm_rf_some hf
                    obtain ⟨k78, hf⟩ := mm_ck_some hf
                    obtain ⟨k79, hf⟩ := mm_ck_some hf
                    refine me_iald (q := 312) C dX12_deal_311 eu77 k78 k79 rfl ?_
                    refine me_iload (q := 314) C dX12_deal_312 rfl rfl ?_
                    refine me_isub (q := 315) C dX12_deal_314 rfl ?_
                    obtain ⟨k80, hf⟩ := mm_ck_some hf
                    obtain ⟨g81, eg81, hf⟩ := mm_lt_some hf
                    refine me_iastH (q := 316) C eg81 dX12_deal_315 eu77 k78 k80 rfl ?_
                    refine me_aload_n (q := 317) C dX12_deal_316 rfl rfl rfl ?_
                    refine me_getR (q := 320) C dX12_deal_317 mf_X12_25 rfl rfl (mm_kI eg81 k76) rfl ?_
                    refine me_bipush (v := (9 : Int32)) (q := 322) C dX12_deal_320 (by decide) rfl ?_
                    refine me_dup2_11 (q := 323) C dX12_deal_322 rfl rfl rfl ?_
                    obtain ⟨u82, eu82, hf⟩ := mm_rf_some hf
                    obtain ⟨k83, hf⟩ := mm_ck_some hf
                    obtain ⟨k84, hf⟩ := mm_ck_some hf
                    refine me_iald (q := 324) C dX12_deal_323 eu82 k83 k84 rfl ?_
                    refine me_iload (q := 326) C dX12_deal_324 rfl rfl ?_
                    refine me_iconst (v := (1 : Int32)) (q := 327) C dX12_deal_326 (by decide) rfl ?_
                    refine me_iadd (q := 328) C dX12_deal_327 rfl ?_
                    refine me_iconst (v := (2 : Int32)) (q := 329) C dX12_deal_328 (by decide) rfl ?_
                    refine me_idiv (q := 330) C dX12_deal_329 (by decide) rfl ?_
                    refine me_iadd (q := 331) C dX12_deal_330 rfl ?_
                    obtain ⟨k85, hf⟩ := mm_ck_some hf
                    obtain ⟨g86, eg86, hf⟩ := mm_lt_some hf
                    refine me_iastH (q := 332) C eg86 dX12_deal_331 eu82 k83 k85 rfl ?_
                    refine me_aload_n (q := 333) C dX12_deal_332 rfl rfl rfl ?_
                    refine me_getR (q := 336) C dX12_deal_333 mf_X12_25 rfl rfl (mm_kI eg86 (mm_kI eg81 k76)) rfl ?_
                    refine me_aload_n (q := 337) C dX12_deal_336 rfl rfl rfl ?_
                    refine me_getR (q := 340) C dX12_deal_337 mf_X12_9 rfl rfl (mm_kI eg86 (mm_kI eg81 k76)) rfl ?_
                    refine me_iload_n (q := 341) C dX12_deal_340 rfl rfl rfl ?_
                    obtain ⟨u87, eu87, hf⟩ := mm_rf_some hf
                    obtain ⟨k88, hf⟩ := mm_ck_some hf
                    obtain ⟨k89, hf⟩ := mm_ck_some hf
                    refine me_iald (q := 342) C dX12_deal_341 eu87 k88 k89 rfl ?_
                    refine me_dup2_11 (q := 343) C dX12_deal_342 rfl rfl rfl ?_
                    obtain ⟨u90, eu90, hf⟩ := mm_rf_some hf
                    obtain ⟨k91, hf⟩ := mm_ck_some hf
                    obtain ⟨k92, hf⟩ := mm_ck_some hf
                    refine me_iald (q := 344) C dX12_deal_343 eu90 k91 k92 rfl ?_
                    refine me_iload (q := 346) C dX12_deal_344 rfl rfl ?_
                    refine me_iconst (v := (2 : Int32)) (q := 347) C dX12_deal_346 (by decide) rfl ?_
                    refine me_idiv (q := 348) C dX12_deal_347 (by decide) rfl ?_
                    refine me_iadd (q := 349) C dX12_deal_348 rfl ?_
                    obtain ⟨k93, hf⟩ := mm_ck_some hf
                    obtain ⟨g94, eg94, hf⟩ := mm_lt_some hf
                    refine me_iastH (q := 350) C eg94 dX12_deal_349 eu90 k91 k93 rfl ?_
                    refine me_aload_n (q := 351) C dX12_deal_350 rfl rfl rfl ?_
                    refine me_getR (q := 354) C dX12_deal_351 mf_X12_118 rfl rfl (mm_kI eg94 (mm_kI eg86 (mm_kI eg81 k76))) rfl ?_
                    refine me_iload (q := 356) C dX12_deal_354 rfl rfl ?_
                    refine me_iload (q := 358) C dX12_deal_356 rfl rfl ?_
                    obtain ⟨u95, eu95, hf⟩ := mm_rf_some hf
                    obtain ⟨k96, hf⟩ := mm_ck_some hf
                    obtain ⟨k97, hf⟩ := mm_ck_some hf
                    obtain ⟨g98, eg98, hf⟩ := mm_lt_some hf
                    refine me_iastH (q := 359) C eg98 dX12_deal_358 eu95 k96 k97 rfl ?_
                    refine me_bipush (v := (100 : Int32)) (q := 361) C dX12_deal_359 (by decide) rfl ?_
                    refine me_iload (q := 363) C dX12_deal_361 rfl rfl ?_
                    refine me_iadd (q := 364) C dX12_deal_363 rfl ?_
                    exact me_iret C hE (Nat.le_of_ble_eq_true rfl) (Nat.le_of_ble_eq_true rfl) rfl dX12_deal_364 (mm_ri hf)
                  refine me_icmp_ge (q2 := 275) (q := 271) C dX12_deal_268 (by decide) rfl (fun c99 => ?_) (fun c99 => ?_)
                  · have hf := mm_if_t c99 hf
                    refine me_iload (q := 277) C dX12_deal_275 rfl rfl ?_
                    refine me_bipush (v := (10 : Int32)) (q := 279) C dX12_deal_277 (by decide) rfl ?_
                    refine me_isub (q := 280) C dX12_deal_279 rfl ?_
                    refine me_aload_n (q := 281) C dX12_deal_280 rfl rfl rfl ?_
                    obtain ⟨k100, hf⟩ := mm_ck_some hf
                    refine me_getR (q := 284) C dX12_deal_281 mf_X12_13 rfl rfl k100 rfl ?_
                    refine me_iload_n (q := 285) C dX12_deal_284 rfl rfl rfl ?_
                    obtain ⟨u101, eu101, hf⟩ := mm_rf_some hf
                    obtain ⟨k102, hf⟩ := mm_ck_some hf
                    obtain ⟨k103, hf⟩ := mm_ck_some hf
                    refine me_iald (q := 286) C dX12_deal_285 eu101 k102 k103 rfl ?_
                    refine me_icmp_ge (q2 := 297) (q := 289) C dX12_deal_286 (by decide) rfl (fun c104 => ?_) (fun c104 => ?_)
                    · have hf := mm_if_t c104 hf
                      refine me_aload_n (q := 298) C dX12_deal_297 rfl rfl rfl ?_
                      refine me_getR (q := 301) C dX12_deal_298 mf_X12_13 rfl rfl k100 rfl ?_
                      refine me_iload_n (q := 302) C dX12_deal_301 rfl rfl rfl ?_
                      obtain ⟨k105, hf⟩ := mm_ck_some hf
                      refine me_iald (q := 303) C dX12_deal_302 eu101 k102 k105 rfl ?_
                      refine me_mask [true, true, false, false, false, false, false, false, false, false, true, false] (lv2 := [some (vR (some a0)), some (vI a1), none, none, none, none, none, none, none, none, some (vI v20), none]) rfl ?_
                      exact Hq75 _ hf
                    · have hf := mm_if_f c104 hf
                      refine me_iload (q := 291) C dX12_deal_289 rfl rfl ?_
                      refine me_bipush (v := (10 : Int32)) (q := 293) C dX12_deal_291 (by decide) rfl ?_
                      refine me_isub (q := 294) C dX12_deal_293 rfl ?_
                      refine me_goto (q := 303) C dX12_deal_294 (by decide) ?_
                      refine me_mask [true, true, false, false, false, false, false, false, false, false, true, false] (lv2 := [some (vR (some a0)), some (vI a1), none, none, none, none, none, none, none, none, some (vI v20), none]) rfl ?_
                      exact Hq75 _ hf
                  · have hf := mm_if_f c99 hf
                    refine me_iconst (v := (0 : Int32)) (q := 272) C dX12_deal_271 (by decide) rfl ?_
                    refine me_goto (q := 303) C dX12_deal_272 (by decide) ?_
                    refine me_mask [true, true, false, false, false, false, false, false, false, false, true, false] (lv2 := [some (vR (some a0)), some (vI a1), none, none, none, none, none, none, none, none, some (vI v20), none]) rfl ?_
                    exact Hq75 _ hf
                refine me_if_ne (q2 := 264) (q := 242) C dX12_deal_239 (by decide) rfl (fun c106 => ?_) (fun c106 => ?_)
                · have hf := mm_if_t c106 hf
                  refine me_mask [true, true, false, false, false, false, false, false, false, true, true, false] (lv2 := [some (vR (some a0)), some (vI a1), none, none, none, none, none, none, none, some (vI v9), some (vI v20), none]) rfl ?_
                  exact Hq73 _ hf
                · have hf := mm_if_f c106 hf
                  refine me_aload_n (q := 243) C dX12_deal_242 rfl rfl rfl ?_
                  refine me_getR (q := 246) C dX12_deal_243 mf_X12_13 rfl rfl (mm_kI eg71 (mm_kI eg64 (mm_kI eg60 (mm_kI eg56 (mm_kI eg50 (mm_kI eg44 k40)))))) rfl ?_
                  refine me_iload_n (q := 247) C dX12_deal_246 rfl rfl rfl ?_
                  refine me_dup2_11 (q := 248) C dX12_deal_247 rfl rfl rfl ?_
                  obtain ⟨u107, eu107, hf⟩ := mm_rf_some hf
                  obtain ⟨k108, hf⟩ := mm_ck_some hf
                  obtain ⟨k109, hf⟩ := mm_ck_some hf
                  refine me_iald (q := 249) C dX12_deal_248 eu107 k108 k109 rfl ?_
                  refine me_iload (q := 251) C dX12_deal_249 rfl rfl ?_
                  refine me_isub (q := 252) C dX12_deal_251 rfl ?_
                  obtain ⟨k110, hf⟩ := mm_ck_some hf
                  obtain ⟨g111, eg111, hf⟩ := mm_lt_some hf
                  refine me_iastH (q := 253) C eg111 dX12_deal_252 eu107 k108 k110 rfl ?_
                  refine me_aload_n (q := 254) C dX12_deal_253 rfl rfl rfl ?_
                  refine me_getR (q := 257) C dX12_deal_254 mf_X12_13 rfl rfl (mm_kI eg111 (mm_kI eg71 (mm_kI eg64 (mm_kI eg60 (mm_kI eg56 (mm_kI eg50 (mm_kI eg44 k40))))))) rfl ?_
                  refine me_iload_n (q := 258) C dX12_deal_257 rfl rfl rfl ?_
                  refine me_dup2_11 (q := 259) C dX12_deal_258 rfl rfl rfl ?_
                  obtain ⟨u112, eu112, hf⟩ := mm_rf_some hf
                  obtain ⟨k113, hf⟩ := mm_ck_some hf
                  obtain ⟨k114, hf⟩ := mm_ck_some hf
                  refine me_iald (q := 260) C dX12_deal_259 eu112 k113 k114 rfl ?_
                  refine me_iload (q := 262) C dX12_deal_260 rfl rfl ?_
                  refine me_iadd (q := 263) C dX12_deal_262 rfl ?_
                  obtain ⟨k115, hf⟩ := mm_ck_some hf
                  obtain ⟨g116, eg116, hf⟩ := mm_lt_some hf
                  refine me_iastH (q := 264) C eg116 dX12_deal_263 eu112 k113 k115 rfl ?_
                  refine me_mask [true, true, false, false, false, false, false, false, false, true, true, false] (lv2 := [some (vR (some a0)), some (vI a1), none, none, none, none, none, none, none, some (vI v9), some (vI v20), none]) rfl ?_
                  exact Hq73 _ hf
              refine me_if_ne (q2 := 197) (q := 193) C dX12_deal_190 (by decide) rfl (fun c117 => ?_) (fun c117 => ?_)
              · have hf := mm_if_t c117 hf
                refine me_aload_n (q := 198) C dX12_deal_197 rfl rfl rfl ?_
                refine me_getI (q := 201) C dX12_deal_198 mf_X12_273 rfl rfl (mm_kI eg50 (mm_kI eg44 k40)) rfl ?_
                refine me_iload (q := 203) C dX12_deal_201 rfl rfl ?_
                refine me_iadd (q := 204) C dX12_deal_203 rfl ?_
                exact Hq52 _ hf
              · have hf := mm_if_f c117 hf
                refine me_iconst (v := (-1 : Int32)) (q := 194) C dX12_deal_193 (by decide) rfl ?_
                refine me_goto (q := 204) C dX12_deal_194 (by decide) ?_
                exact Hq52 _ hf
            refine me_if_ne (q2 := 179) (q := 175) C dX12_deal_172 (by decide) rfl (fun c118 => ?_) (fun c118 => ?_)
            · have hf := mm_if_t c118 hf
              refine me_iload (q := 181) C dX12_deal_179 rfl rfl ?_
              refine me_mask [true, true, true, false, false, true, true, false, false, true, true, false] (lv2 := [some (vR (some a0)), some (vI a1), some (vI a2), none, none, some (vI a5), some (vI a6), none, none, some (vI v9), some (vI v20), none]) rfl ?_
              exact Hq46 _ hf
            · have hf := mm_if_f c118 hf
              refine me_iconst (v := (0 : Int32)) (q := 176) C dX12_deal_175 (by decide) rfl ?_
              refine me_goto (q := 181) C dX12_deal_176 (by decide) ?_
              refine me_mask [true, true, true, false, false, true, true, false, false, true, true, false] (lv2 := [some (vR (some a0)), some (vI a1), some (vI a2), none, none, some (vI a5), some (vI a6), none, none, some (vI v9), some (vI v20), none]) rfl ?_
              exact Hq46 _ hf
          refine me_if_ne (q2 := 91) (q := 77) C dX12_deal_74 (by decide) rfl (fun c119 => ?_) (fun c119 => ?_)
          · have hf := mm_if_t c119 hf
            refine me_mask [true, true, true, true, true, true, true, false, false, true, false, false] (lv2 := [some (vR (some a0)), some (vI a1), some (vI a2), some (vI a3), some (vI a4), some (vI a5), some (vI a6), none, none, some (vI v9), none, none]) rfl ?_
            exact Hq13 () hf
          · have hf := mm_if_f c119 hf
            refine me_aload_n (q := 78) C dX12_deal_77 rfl rfl rfl ?_
            obtain ⟨k120, hf⟩ := mm_ck_some hf
            refine me_getR (q := 81) C dX12_deal_78 mf_X12_13 rfl rfl k120 rfl ?_
            refine me_iload_n (q := 82) C dX12_deal_81 rfl rfl rfl ?_
            obtain ⟨u121, eu121, hf⟩ := mm_rf_some hf
            obtain ⟨k122, hf⟩ := mm_ck_some hf
            obtain ⟨k123, hf⟩ := mm_ck_some hf
            refine me_iald (q := 83) C dX12_deal_82 eu121 k122 k123 rfl ?_
            refine me_iload (q := 85) C dX12_deal_83 rfl rfl ?_
            refine me_icmp_ge (q2 := 91) (q := 88) C dX12_deal_85 (by decide) rfl (fun c124 => ?_) (fun c124 => ?_)
            · have hf := mm_if_t c124 hf
              refine me_mask [true, true, true, true, true, true, true, false, false, true, false, false] (lv2 := [some (vR (some a0)), some (vI a1), some (vI a2), some (vI a3), some (vI a4), some (vI a5), some (vI a6), none, none, some (vI v9), none, none]) rfl ?_
              exact Hq13 () hf
            · have hf := mm_if_f c124 hf
              refine me_bipush (v := (6 : Int32)) (q := 90) C dX12_deal_88 (by decide) rfl ?_
              exact me_iret C hE (Nat.le_of_ble_eq_true rfl) (Nat.le_of_ble_eq_true rfl) rfl dX12_deal_90 (mm_ri hf)
        · have hf := mm_if_f c12 hf
          refine me_iconst (v := (5 : Int32)) (q := 71) C dX12_deal_70 (by decide) rfl ?_
          exact me_iret C hE (Nat.le_of_ble_eq_true rfl) (Nat.le_of_ble_eq_true rfl) rfl dX12_deal_71 (mm_ri hf)
      · have hf := mm_if_f c8 hf
        refine me_iconst (v := (4 : Int32)) (q := 46) C dX12_deal_45 (by decide) rfl ?_
        exact me_iret C hE (Nat.le_of_ble_eq_true rfl) (Nat.le_of_ble_eq_true rfl) rfl dX12_deal_46 (mm_ri hf)
  · have hf := mm_if_f c5 hf
    refine me_iload (q := 24) C dX12_deal_22 rfl rfl ?_
    exact me_iret C hE (Nat.le_of_ble_eq_true rfl) (Nat.le_of_ble_eq_true rfl) rfl dX12_deal_24 (mm_ri hf)
set_option maxRecDepth 100000 in
set_option maxHeartbeats 4000000 in
theorem cX12_isBargain_ok (l : Launch) {a0 : Nat} {a1 : Int32} {h : mm_H} {r : Int32} {h1 : mm_H} (hf : fX12_isBargain a0 a1 h = some (r, h1)) : mm_M l yX12_isBargain cX12_isBargain 2 (some .boolean) 4 0 0 [vR (some a0), vI a1] h (some (vI r)) h1 := by
  refine mm_enter (lv := [some (vR (some a0)), some (vI a1)]) (by decide) rfl (Nat.le_of_ble_eq_true rfl) ?_
  intro X hl C hE
  subst hl
  unfold fX12_isBargain at hf
  refine me_iload_n (q := 1) C dX12_isBargain_0 rfl rfl rfl ?_
  refine me_iconst (v := (0 : Int32)) (q := 2) C dX12_isBargain_1 (by decide) rfl ?_
  refine me_aload_n (q := 3) C dX12_isBargain_2 rfl rfl rfl ?_
  obtain ⟨k1, hf⟩ := mm_ck_some hf
  refine me_getI (q := 6) C dX12_isBargain_3 mf_X12_472 rfl rfl k1 rfl ?_
  refine me_iconst (v := (1 : Int32)) (q := 7) C dX12_isBargain_6 (by decide) rfl ?_
  refine me_isub (q := 8) C dX12_isBargain_7 rfl ?_
  obtain ⟨v2, g3, e4, hf⟩ := mm_cl_some hf
  refine me_callS (q := 11) (c2 := 0) (s2 := 0) (st := []) C (cX12_in_ok _ e4) mt_X12_269 ms_X12_in dX12_isBargain_8 rfl rfl rfl (Nat.le_of_ble_eq_true rfl) rfl (Nat.le_of_ble_eq_true rfl) rfl (Nat.le_of_ble_eq_true rfl) rfl rfl ?_
  obtain ⟨k5, hf⟩ := mm_ck_some hf
  exact me_zret C hE (Nat.le_of_ble_eq_true rfl) (Nat.le_of_ble_eq_true rfl) rfl k5 dX12_isBargain_11 (mm_ri hf)
set_option maxRecDepth 100000 in
set_option maxHeartbeats 4000000 in
theorem cX12_bargain_ok (l : Launch) {a0 : Nat} {a1 : Int32} {a2 : Int32} {h : mm_H} {r : Int32} {h1 : mm_H} (hf : fX12_bargain a0 a1 a2 h = some (r, h1)) : mm_M l yX12_bargain cX12_bargain 3 (some .int) 6 0 0 [vR (some a0), vI a1, vI a2] h (some (vI r)) h1 := by
  refine mm_enter (lv := [some (vR (some a0)), some (vI a1), some (vI a2)]) (by decide) rfl (Nat.le_of_ble_eq_true rfl) ?_
  intro X hl C hE
  subst hl
  unfold fX12_bargain at hf
  refine me_aload_n (q := 1) C dX12_bargain_0 rfl rfl rfl ?_
  refine me_iload_n (q := 2) C dX12_bargain_1 rfl rfl rfl ?_
  obtain ⟨k1, hf⟩ := mm_ck_some hf
  obtain ⟨v2, g3, e4, hf⟩ := mm_cl_some hf
  refine me_callV (q := 5) (c2 := 0) (s2 := 0) (st := []) C (cX12_isBargain_ok _ e4) mt_X12_496 mv_X12_isBargain rfl (by decide) dX12_bargain_2 rfl k1 rfl rfl rfl (Nat.le_of_ble_eq_true rfl) rfl (Nat.le_of_ble_eq_true rfl) rfl (Nat.le_of_ble_eq_true rfl) rfl rfl ?_
  refine me_if_ne (q2 := 10) (q := 8) C dX12_bargain_5 (by decide) rfl (fun c5 => ?_) (fun c5 => ?_)
  · have hf := mm_if_t c5 hf
    refine me_iload_n (q := 11) C dX12_bargain_10 rfl rfl rfl ?_
    by_cases c6 : a2 = 0
    · have hf := mm_if_t c6 hf
      refine me_tabIn (q := 64) C dX12_bargain_11 (by rw [c6]; decide) (by rw [c6]; decide) (by rw [c6]; rfl) (by decide) ?_
      refine me_aload_n (q := 65) C dX12_bargain_64 rfl rfl rfl ?_
      obtain ⟨k7, hf⟩ := mm_ck_some hf
      refine me_getR (q := 68) C dX12_bargain_65 mf_X12_100 rfl rfl k7 rfl ?_
      refine me_iload_n (q := 69) C dX12_bargain_68 rfl rfl rfl ?_
      obtain ⟨u8, eu8, hf⟩ := mm_rf_some hf
      obtain ⟨k9, hf⟩ := mm_ck_some hf
      obtain ⟨k10, hf⟩ := mm_ck_some hf
      refine me_iald (q := 70) C dX12_bargain_69 eu8 k9 k10 rfl ?_
      exact me_iret C hE (Nat.le_of_ble_eq_true rfl) (Nat.le_of_ble_eq_true rfl) rfl dX12_bargain_70 (mm_ri hf)
    have hf := mm_if_f c6 hf
    by_cases c11 : a2 = 1
    · have hf := mm_if_t c11 hf
      refine me_tabIn (q := 71) C dX12_bargain_11 (by rw [c11]; decide) (by rw [c11]; decide) (by rw [c11]; rfl) (by decide) ?_
      refine me_aload_n (q := 72) C dX12_bargain_71 rfl rfl rfl ?_
      obtain ⟨k12, hf⟩ := mm_ck_some hf
      refine me_getR (q := 75) C dX12_bargain_72 mf_X12_103 rfl rfl k12 rfl ?_
      refine me_iload_n (q := 76) C dX12_bargain_75 rfl rfl rfl ?_
      obtain ⟨u13, eu13, hf⟩ := mm_rf_some hf
      obtain ⟨k14, hf⟩ := mm_ck_some hf
      obtain ⟨k15, hf⟩ := mm_ck_some hf
      refine me_iald (q := 77) C dX12_bargain_76 eu13 k14 k15 rfl ?_
      exact me_iret C hE (Nat.le_of_ble_eq_true rfl) (Nat.le_of_ble_eq_true rfl) rfl dX12_bargain_77 (mm_ri hf)
    have hf := mm_if_f c11 hf
    by_cases c16 : a2 = 2
    · have hf := mm_if_t c16 hf
      refine me_tabIn (q := 78) C dX12_bargain_11 (by rw [c16]; decide) (by rw [c16]; decide) (by rw [c16]; rfl) (by decide) ?_
      refine me_aload_n (q := 79) C dX12_bargain_78 rfl rfl rfl ?_
      obtain ⟨k17, hf⟩ := mm_ck_some hf
      refine me_getR (q := 82) C dX12_bargain_79 mf_X12_106 rfl rfl k17 rfl ?_
      refine me_iload_n (q := 83) C dX12_bargain_82 rfl rfl rfl ?_
      obtain ⟨u18, eu18, hf⟩ := mm_rf_some hf
      obtain ⟨k19, hf⟩ := mm_ck_some hf
      obtain ⟨k20, hf⟩ := mm_ck_some hf
      refine me_iald (q := 84) C dX12_bargain_83 eu18 k19 k20 rfl ?_
      exact me_iret C hE (Nat.le_of_ble_eq_true rfl) (Nat.le_of_ble_eq_true rfl) rfl dX12_bargain_84 (mm_ri hf)
    have hf := mm_if_f c16 hf
    by_cases c21 : a2 = 3
    · have hf := mm_if_t c21 hf
      refine me_tabIn (q := 85) C dX12_bargain_11 (by rw [c21]; decide) (by rw [c21]; decide) (by rw [c21]; rfl) (by decide) ?_
      refine me_aload_n (q := 86) C dX12_bargain_85 rfl rfl rfl ?_
      obtain ⟨k22, hf⟩ := mm_ck_some hf
      refine me_getR (q := 89) C dX12_bargain_86 mf_X12_109 rfl rfl k22 rfl ?_
      refine me_iload_n (q := 90) C dX12_bargain_89 rfl rfl rfl ?_
      obtain ⟨u23, eu23, hf⟩ := mm_rf_some hf
      obtain ⟨k24, hf⟩ := mm_ck_some hf
      obtain ⟨k25, hf⟩ := mm_ck_some hf
      refine me_iald (q := 91) C dX12_bargain_90 eu23 k24 k25 rfl ?_
      exact me_iret C hE (Nat.le_of_ble_eq_true rfl) (Nat.le_of_ble_eq_true rfl) rfl dX12_bargain_91 (mm_ri hf)
    have hf := mm_if_f c21 hf
    by_cases c26 : a2 = 4
    · have hf := mm_if_t c26 hf
      refine me_tabIn (q := 92) C dX12_bargain_11 (by rw [c26]; decide) (by rw [c26]; decide) (by rw [c26]; rfl) (by decide) ?_
      refine me_aload_n (q := 93) C dX12_bargain_92 rfl rfl rfl ?_
      obtain ⟨k27, hf⟩ := mm_ck_some hf
      refine me_getR (q := 96) C dX12_bargain_93 mf_X12_112 rfl rfl k27 rfl ?_
      refine me_iload_n (q := 97) C dX12_bargain_96 rfl rfl rfl ?_
      obtain ⟨u28, eu28, hf⟩ := mm_rf_some hf
      obtain ⟨k29, hf⟩ := mm_ck_some hf
      obtain ⟨k30, hf⟩ := mm_ck_some hf
      refine me_iald (q := 98) C dX12_bargain_97 eu28 k29 k30 rfl ?_
      exact me_iret C hE (Nat.le_of_ble_eq_true rfl) (Nat.le_of_ble_eq_true rfl) rfl dX12_bargain_98 (mm_ri hf)
    have hf := mm_if_f c26 hf
    by_cases c31 : a2 = 5
    · have hf := mm_if_t c31 hf
      refine me_tabIn (q := 99) C dX12_bargain_11 (by rw [c31]; decide) (by rw [c31]; decide) (by rw [c31]; rfl) (by decide) ?_
      refine me_aload_n (q := 100) C dX12_bargain_99 rfl rfl rfl ?_
      obtain ⟨k32, hf⟩ := mm_ck_some hf
      refine me_getR (q := 103) C dX12_bargain_100 mf_X12_115 rfl rfl k32 rfl ?_
      refine me_iload_n (q := 104) C dX12_bargain_103 rfl rfl rfl ?_
      obtain ⟨u33, eu33, hf⟩ := mm_rf_some hf
      obtain ⟨k34, hf⟩ := mm_ck_some hf
      obtain ⟨k35, hf⟩ := mm_ck_some hf
      refine me_iald (q := 105) C dX12_bargain_104 eu33 k34 k35 rfl ?_
      exact me_iret C hE (Nat.le_of_ble_eq_true rfl) (Nat.le_of_ble_eq_true rfl) rfl dX12_bargain_105 (mm_ri hf)
    have hf := mm_if_f c31 hf
    by_cases c36 : a2 = 6
    · have hf := mm_if_t c36 hf
      refine me_tabIn (q := 106) C dX12_bargain_11 (by rw [c36]; decide) (by rw [c36]; decide) (by rw [c36]; rfl) (by decide) ?_
      refine me_aload_n (q := 107) C dX12_bargain_106 rfl rfl rfl ?_
      obtain ⟨k37, hf⟩ := mm_ck_some hf
      refine me_getR (q := 110) C dX12_bargain_107 mf_X12_130 rfl rfl k37 rfl ?_
      refine me_iload_n (q := 111) C dX12_bargain_110 rfl rfl rfl ?_
      obtain ⟨u38, eu38, hf⟩ := mm_rf_some hf
      obtain ⟨k39, hf⟩ := mm_ck_some hf
      obtain ⟨k40, hf⟩ := mm_ck_some hf
      refine me_iald (q := 112) C dX12_bargain_111 eu38 k39 k40 rfl ?_
      exact me_iret C hE (Nat.le_of_ble_eq_true rfl) (Nat.le_of_ble_eq_true rfl) rfl dX12_bargain_112 (mm_ri hf)
    have hf := mm_if_f c36 hf
    by_cases c41 : a2 = 7
    · have hf := mm_if_t c41 hf
      refine me_tabIn (q := 113) C dX12_bargain_11 (by rw [c41]; decide) (by rw [c41]; decide) (by rw [c41]; rfl) (by decide) ?_
      refine me_aload_n (q := 114) C dX12_bargain_113 rfl rfl rfl ?_
      obtain ⟨k42, hf⟩ := mm_ck_some hf
      refine me_getR (q := 117) C dX12_bargain_114 mf_X12_118 rfl rfl k42 rfl ?_
      refine me_iload_n (q := 118) C dX12_bargain_117 rfl rfl rfl ?_
      obtain ⟨u43, eu43, hf⟩ := mm_rf_some hf
      obtain ⟨k44, hf⟩ := mm_ck_some hf
      obtain ⟨k45, hf⟩ := mm_ck_some hf
      refine me_iald (q := 119) C dX12_bargain_118 eu43 k44 k45 rfl ?_
      exact me_iret C hE (Nat.le_of_ble_eq_true rfl) (Nat.le_of_ble_eq_true rfl) rfl dX12_bargain_119 (mm_ri hf)
    have hf := mm_if_f c41 hf
    by_cases c46 : a2 = 8
    · have hf := mm_if_t c46 hf
      refine me_tabIn (q := 120) C dX12_bargain_11 (by rw [c46]; decide) (by rw [c46]; decide) (by rw [c46]; rfl) (by decide) ?_
      refine me_aload_n (q := 121) C dX12_bargain_120 rfl rfl rfl ?_
      obtain ⟨k47, hf⟩ := mm_ck_some hf
      refine me_getR (q := 124) C dX12_bargain_121 mf_X12_121 rfl rfl k47 rfl ?_
      refine me_iload_n (q := 125) C dX12_bargain_124 rfl rfl rfl ?_
      obtain ⟨u48, eu48, hf⟩ := mm_rf_some hf
      obtain ⟨k49, hf⟩ := mm_ck_some hf
      obtain ⟨k50, hf⟩ := mm_ck_some hf
      refine me_iald (q := 126) C dX12_bargain_125 eu48 k49 k50 rfl ?_
      exact me_iret C hE (Nat.le_of_ble_eq_true rfl) (Nat.le_of_ble_eq_true rfl) rfl dX12_bargain_126 (mm_ri hf)
    have hf := mm_if_f c46 hf
    by_cases c51 : a2 = 9
    · have hf := mm_if_t c51 hf
      refine me_tabIn (q := 127) C dX12_bargain_11 (by rw [c51]; decide) (by rw [c51]; decide) (by rw [c51]; rfl) (by decide) ?_
      refine me_aload_n (q := 128) C dX12_bargain_127 rfl rfl rfl ?_
      obtain ⟨k52, hf⟩ := mm_ck_some hf
      refine me_getR (q := 131) C dX12_bargain_128 mf_X12_124 rfl rfl k52 rfl ?_
      refine me_iload_n (q := 132) C dX12_bargain_131 rfl rfl rfl ?_
      obtain ⟨u53, eu53, hf⟩ := mm_rf_some hf
      obtain ⟨k54, hf⟩ := mm_ck_some hf
      obtain ⟨k55, hf⟩ := mm_ck_some hf
      refine me_iald (q := 133) C dX12_bargain_132 eu53 k54 k55 rfl ?_
      exact me_iret C hE (Nat.le_of_ble_eq_true rfl) (Nat.le_of_ble_eq_true rfl) rfl dX12_bargain_133 (mm_ri hf)
    have hf := mm_if_f c51 hf
    refine me_tabOut (q := 134) C dX12_bargain_11 ?_ (by decide) ?_
    · by_cases hz : a2.toInt < 0 ∨ 9 < a2.toInt
      · exact hz
      · exfalso
        have hw : a2.toInt = 0 ∨ a2.toInt = 1 ∨ a2.toInt = 2 ∨ a2.toInt = 3 ∨ a2.toInt = 4 ∨ a2.toInt = 5 ∨ a2.toInt = 6 ∨ a2.toInt = 7 ∨ a2.toInt = 8 ∨ a2.toInt = 9 := by omega
        rcases hw with hw | hw | hw | hw | hw | hw | hw | hw | hw | hw
        · exact c6 (mm_sw hw)
        · exact c11 (mm_sw hw)
        · exact c16 (mm_sw hw)
        · exact c21 (mm_sw hw)
        · exact c26 (mm_sw hw)
        · exact c31 (mm_sw hw)
        · exact c36 (mm_sw hw)
        · exact c41 (mm_sw hw)
        · exact c46 (mm_sw hw)
        · exact c51 (mm_sw hw)
    · refine me_iconst (v := (-1 : Int32)) (q := 135) C dX12_bargain_134 (by decide) rfl ?_
      exact me_iret C hE (Nat.le_of_ble_eq_true rfl) (Nat.le_of_ble_eq_true rfl) rfl dX12_bargain_135 (mm_ri hf)
  · have hf := mm_if_f c5 hf
    refine me_iconst (v := (-1 : Int32)) (q := 9) C dX12_bargain_8 (by decide) rfl ?_
    exact me_iret C hE (Nat.le_of_ble_eq_true rfl) (Nat.le_of_ble_eq_true rfl) rfl dX12_bargain_9 (mm_ri hf)
set_option maxRecDepth 100000 in
set_option maxHeartbeats 4000000 in
theorem cX12_surety_L59 {X : mm_X} (C : mm_C X cX12_surety yX12_surety 8 0 0) {r : Int32} {h1 : mm_H} (hE : mm_End X 0 0 (some .int) (some (vI r)) h1) {b0 : Nat} {b1 : Int32} {b2 : Int32} (K91 : mm_H → Option (Int32 × mm_H)) : ∀ (n : Nat) (x3 : Int32) (h : mm_H), fX12_surety_L59 b0 b1 b2 K91 n x3 h = some (r, h1) → (∀ (h : mm_H), K91 h = some (r, h1) → mm_E X h 0 0 91 [some (vR (some b0)), some (vI b1), some (vI b2), none] []) → mm_E X h 0 0 59 [some (vR (some b0)), some (vI b1), some (vI b2), some (vI x3)] [] := by
  intro n
  induction n with
  | zero =>
    intro x3 h hf
    exact absurd (show (none : Option (Int32 × mm_H)) = some (r, h1) from hf) (by simp)
  | succ n ih =>
    intro x3 h hf hk91
    have hf : fX12_surety_L59_b b0 b1 b2 K91 (fX12_surety_L59 b0 b1 b2 K91 n) x3 h = some (r, h1) := hf
    unfold fX12_surety_L59_b at hf
    refine me_iload_n (q := 60) C dX12_surety_59 rfl rfl rfl ?_
    refine me_aload_n (q := 61) C dX12_surety_60 rfl rfl rfl ?_
    obtain ⟨k28, hf⟩ := mm_ck_some hf
    refine me_getR (q := 64) C dX12_surety_61 mf_X12_130 rfl rfl k28 rfl ?_
    refine me_iload_n (q := 65) C dX12_surety_64 rfl rfl rfl ?_
    obtain ⟨u29, eu29, hf⟩ := mm_rf_some hf
    obtain ⟨k30, hf⟩ := mm_ck_some hf
    obtain ⟨k31, hf⟩ := mm_ck_some hf
    refine me_iald (q := 66) C dX12_surety_65 eu29 k30 k31 rfl ?_
    refine me_icmp_ge (q2 := 91) (q := 69) C dX12_surety_66 (by decide) rfl (fun c32 => ?_) (fun c32 => ?_)
    · have hf := mm_if_t c32 hf
      refine me_mask [true, true, true, false] (lv2 := [some (vR (some b0)), some (vI b1), some (vI b2), none]) rfl ?_
      exact hk91 _ hf
    · have hf := mm_if_f c32 hf
      refine me_aload_n (q := 70) C dX12_surety_69 rfl rfl rfl ?_
      refine me_getR (q := 73) C dX12_surety_70 mf_X12_133 rfl rfl k28 rfl ?_
      refine me_iconst (v := (3 : Int32)) (q := 74) C dX12_surety_73 (by decide) rfl ?_
      refine me_iload_n (q := 75) C dX12_surety_74 rfl rfl rfl ?_
      refine me_imul (q := 76) C dX12_surety_75 rfl ?_
      refine me_iload_n (q := 77) C dX12_surety_76 rfl rfl rfl ?_
      refine me_iadd (q := 78) C dX12_surety_77 rfl ?_
      obtain ⟨u33, eu33, hf⟩ := mm_rf_some hf
      obtain ⟨k34, hf⟩ := mm_ck_some hf
      obtain ⟨k35, hf⟩ := mm_ck_some hf
      refine me_iald (q := 79) C dX12_surety_78 eu33 k34 k35 rfl ?_
      refine me_iload_n (q := 80) C dX12_surety_79 rfl rfl rfl ?_
      refine me_icmp_ne (q2 := 85) (q := 83) C dX12_surety_80 (by decide) rfl (fun c36 => ?_) (fun c36 => ?_)
      · have hf := mm_if_t c36 hf
        obtain ⟨v37, ev37, hf⟩ := mm_lt_some hf
        refine me_iinc (q := 88) (v := v37) (lv2 := [some (vR (some b0)), some (vI b1), some (vI b2), some (vI v37)]) C dX12_surety_85 rfl (by rw [ev37]; rfl) (Nat.le_of_ble_eq_true rfl) rfl rfl rfl ?_
        refine me_goto (q := 59) C dX12_surety_88 (by decide) ?_
        exact ih _ _ hf hk91
      · have hf := mm_if_f c36 hf
        refine me_iconst (v := (-1 : Int32)) (q := 84) C dX12_surety_83 (by decide) rfl ?_
        exact me_iret C hE (Nat.le_of_ble_eq_true rfl) (Nat.le_of_ble_eq_true rfl) rfl dX12_surety_84 (mm_ri hf)
set_option maxRecDepth 100000 in
set_option maxHeartbeats 4000000 in
theorem cX12_surety_ok (l : Launch) {a0 : Nat} {a1 : Int32} {a2 : Int32} {h : mm_H} {r : Int32} {h1 : mm_H} (hf : fX12_surety a0 a1 a2 h = some (r, h1)) : mm_M l yX12_surety cX12_surety 4 (some .int) 8 0 0 [vR (some a0), vI a1, vI a2] h (some (vI r)) h1 := by
  refine mm_enter (lv := [some (vR (some a0)), some (vI a1), some (vI a2), none]) (by decide) rfl (Nat.le_of_ble_eq_true rfl) ?_
  intro X hl C hE
  subst hl
  unfold fX12_surety at hf
  refine me_aload_n (q := 1) C dX12_surety_0 rfl rfl rfl ?_
  refine me_iload_n (q := 2) C dX12_surety_1 rfl rfl rfl ?_
  obtain ⟨k1, hf⟩ := mm_ck_some hf
  obtain ⟨v2, g3, e4, hf⟩ := mm_cl_some hf
  refine me_callV (q := 5) (c2 := 0) (s2 := 0) (st := []) C (cX12_isBargain_ok _ e4) mt_X12_496 mv_X12_isBargain rfl (by decide) dX12_surety_2 rfl k1 rfl rfl rfl (Nat.le_of_ble_eq_true rfl) rfl (Nat.le_of_ble_eq_true rfl) rfl (Nat.le_of_ble_eq_true rfl) rfl rfl ?_
  refine me_if_eq (q2 := 55) (q := 8) C dX12_surety_5 (by decide) rfl (fun c5 => ?_) (fun c5 => ?_)
  · have hf := mm_if_t c5 hf
    refine me_iconst (v := (-1 : Int32)) (q := 56) C dX12_surety_55 (by decide) rfl ?_
    exact me_iret C hE (Nat.le_of_ble_eq_true rfl) (Nat.le_of_ble_eq_true rfl) rfl dX12_surety_56 (mm_ri hf)
  · have hf := mm_if_f c5 hf
    refine me_aload_n (q := 9) C dX12_surety_8 rfl rfl rfl ?_
    obtain ⟨k6, hf⟩ := mm_ck_some hf
    refine me_getR (q := 12) C dX12_surety_9 mf_X12_130 rfl rfl k6 rfl ?_
    refine me_iload_n (q := 13) C dX12_surety_12 rfl rfl rfl ?_
    obtain ⟨u7, eu7, hf⟩ := mm_rf_some hf
    obtain ⟨k8, hf⟩ := mm_ck_some hf
    obtain ⟨k9, hf⟩ := mm_ck_some hf
    refine me_iald (q := 14) C dX12_surety_13 eu7 k8 k9 rfl ?_
    refine me_iconst (v := (3 : Int32)) (q := 15) C dX12_surety_14 (by decide) rfl ?_
    refine me_icmp_eq (q2 := 55) (q := 18) C dX12_surety_15 (by decide) rfl (fun c10 => ?_) (fun c10 => ?_)
    · have hf := mm_if_t c10 hf
      refine me_iconst (v := (-1 : Int32)) (q := 56) C dX12_surety_55 (by decide) rfl ?_
      exact me_iret C hE (Nat.le_of_ble_eq_true rfl) (Nat.le_of_ble_eq_true rfl) rfl dX12_surety_56 (mm_ri hf)
    · have hf := mm_if_f c10 hf
      refine me_aload_n (q := 19) C dX12_surety_18 rfl rfl rfl ?_
      refine me_getR (q := 22) C dX12_surety_19 mf_X12_112 rfl rfl k6 rfl ?_
      refine me_iload_n (q := 23) C dX12_surety_22 rfl rfl rfl ?_
      obtain ⟨u11, eu11, hf⟩ := mm_rf_some hf
      obtain ⟨k12, hf⟩ := mm_ck_some hf
      obtain ⟨k13, hf⟩ := mm_ck_some hf
      refine me_iald (q := 24) C dX12_surety_23 eu11 k12 k13 rfl ?_
      refine me_if_eq (q2 := 55) (q := 27) C dX12_surety_24 (by decide) rfl (fun c14 => ?_) (fun c14 => ?_)
      · have hf := mm_if_t c14 hf
        refine me_iconst (v := (-1 : Int32)) (q := 56) C dX12_surety_55 (by decide) rfl ?_
        exact me_iret C hE (Nat.le_of_ble_eq_true rfl) (Nat.le_of_ble_eq_true rfl) rfl dX12_surety_56 (mm_ri hf)
      · have hf := mm_if_f c14 hf
        refine me_aload_n (q := 28) C dX12_surety_27 rfl rfl rfl ?_
        refine me_iload_n (q := 29) C dX12_surety_28 rfl rfl rfl ?_
        obtain ⟨v15, g16, e17, hf⟩ := mm_cl_some hf
        refine me_callV (q := 32) (c2 := 0) (s2 := 0) (st := []) C (cX12_isThere_ok _ e17) mt_X12_285 mv_X12_isThere rfl (by decide) dX12_surety_29 rfl k6 rfl rfl rfl (Nat.le_of_ble_eq_true rfl) rfl (Nat.le_of_ble_eq_true rfl) rfl (Nat.le_of_ble_eq_true rfl) rfl rfl ?_
        refine me_if_eq (q2 := 55) (q := 35) C dX12_surety_32 (by decide) rfl (fun c18 => ?_) (fun c18 => ?_)
        · have hf := mm_if_t c18 hf
          refine me_iconst (v := (-1 : Int32)) (q := 56) C dX12_surety_55 (by decide) rfl ?_
          exact me_iret C hE (Nat.le_of_ble_eq_true rfl) (Nat.le_of_ble_eq_true rfl) rfl dX12_surety_56 (mm_ri hf)
        · have hf := mm_if_f c18 hf
          refine me_iload_n (q := 36) C dX12_surety_35 rfl rfl rfl ?_
          refine me_aload_n (q := 37) C dX12_surety_36 rfl rfl rfl ?_
          obtain ⟨k19, hf⟩ := mm_ck_some hf
          refine me_getR (q := 40) C dX12_surety_37 mf_X12_100 rfl rfl k19 rfl ?_
          refine me_iload_n (q := 41) C dX12_surety_40 rfl rfl rfl ?_
          obtain ⟨u20, eu20, hf⟩ := mm_rf_some hf
          obtain ⟨k21, hf⟩ := mm_ck_some hf
          obtain ⟨k22, hf⟩ := mm_ck_some hf
          refine me_iald (q := 42) C dX12_surety_41 eu20 k21 k22 rfl ?_
          refine me_icmp_eq (q2 := 55) (q := 45) C dX12_surety_42 (by decide) rfl (fun c23 => ?_) (fun c23 => ?_)
          · have hf := mm_if_t c23 hf
            refine me_iconst (v := (-1 : Int32)) (q := 56) C dX12_surety_55 (by decide) rfl ?_
            exact me_iret C hE (Nat.le_of_ble_eq_true rfl) (Nat.le_of_ble_eq_true rfl) rfl dX12_surety_56 (mm_ri hf)
          · have hf := mm_if_f c23 hf
            refine me_iload_n (q := 46) C dX12_surety_45 rfl rfl rfl ?_
            refine me_aload_n (q := 47) C dX12_surety_46 rfl rfl rfl ?_
            refine me_getR (q := 50) C dX12_surety_47 mf_X12_103 rfl rfl k19 rfl ?_
            refine me_iload_n (q := 51) C dX12_surety_50 rfl rfl rfl ?_
            obtain ⟨u24, eu24, hf⟩ := mm_rf_some hf
            obtain ⟨k25, hf⟩ := mm_ck_some hf
            obtain ⟨k26, hf⟩ := mm_ck_some hf
            refine me_iald (q := 52) C dX12_surety_51 eu24 k25 k26 rfl ?_
            refine me_icmp_ne (q2 := 57) (q := 55) C dX12_surety_52 (by decide) rfl (fun c27 => ?_) (fun c27 => ?_)
            · have hf := mm_if_t c27 hf
              refine me_iconst (v := (0 : Int32)) (q := 58) C dX12_surety_57 (by decide) rfl ?_
              refine me_istore_n (q := 59) (lv2 := [some (vR (some a0)), some (vI a1), some (vI a2), some (vI (0 : Int32))]) C dX12_surety_58 rfl (Nat.le_of_ble_eq_true rfl) rfl rfl rfl ?_
              refine cX12_surety_L59 C hE _ _ _ _ hf ?_
              · intro g38 hf
                refine me_iconst (v := (3 : Int32)) (q := 92) C dX12_surety_91 (by decide) rfl ?_
                refine me_iload_n (q := 93) C dX12_surety_92 rfl rfl rfl ?_
                refine me_imul (q := 94) C dX12_surety_93 rfl ?_
                refine me_aload_n (q := 95) C dX12_surety_94 rfl rfl rfl ?_
                obtain ⟨k39, hf⟩ := mm_ck_some hf
                refine me_getR (q := 98) C dX12_surety_95 mf_X12_130 rfl rfl k39 rfl ?_
                refine me_iload_n (q := 99) C dX12_surety_98 rfl rfl rfl ?_
                obtain ⟨u40, eu40, hf⟩ := mm_rf_some hf
                obtain ⟨k41, hf⟩ := mm_ck_some hf
                obtain ⟨k42, hf⟩ := mm_ck_some hf
                refine me_iald (q := 100) C dX12_surety_99 eu40 k41 k42 rfl ?_
                refine me_iadd (q := 101) C dX12_surety_100 rfl ?_
                obtain ⟨v43, ev43, hf⟩ := mm_lt_some hf
                refine me_topI ev43 ?_
                refine me_istore_n (q := 102) (lv2 := [some (vR (some a0)), some (vI a1), some (vI a2), some (vI v43)]) C dX12_surety_101 rfl (Nat.le_of_ble_eq_true rfl) rfl rfl rfl ?_
                refine me_aload_n (q := 103) C dX12_surety_102 rfl rfl rfl ?_
                refine me_getR (q := 106) C dX12_surety_103 mf_X12_133 rfl rfl k39 rfl ?_
                refine me_iload_n (q := 107) C dX12_surety_106 rfl rfl rfl ?_
                refine me_iload_n (q := 108) C dX12_surety_107 rfl rfl rfl ?_
                obtain ⟨u44, eu44, hf⟩ := mm_rf_some hf
                obtain ⟨k45, hf⟩ := mm_ck_some hf
                obtain ⟨k46, hf⟩ := mm_ck_some hf
                obtain ⟨g47, eg47, hf⟩ := mm_lt_some hf
                refine me_iastH (q := 109) C eg47 dX12_surety_108 eu44 k45 k46 rfl ?_
                refine me_aload_n (q := 110) C dX12_surety_109 rfl rfl rfl ?_
                refine me_getR (q := 113) C dX12_surety_110 mf_X12_136 rfl rfl (mm_kI eg47 k39) rfl ?_
                refine me_iload_n (q := 114) C dX12_surety_113 rfl rfl rfl ?_
                refine me_iconst (v := (0 : Int32)) (q := 115) C dX12_surety_114 (by decide) rfl ?_
                obtain ⟨u48, eu48, hf⟩ := mm_rf_some hf
                obtain ⟨k49, hf⟩ := mm_ck_some hf
                obtain ⟨k50, hf⟩ := mm_ck_some hf
                obtain ⟨g51, eg51, hf⟩ := mm_lt_some hf
                refine me_iastH (q := 116) C eg51 dX12_surety_115 eu48 k49 k50 rfl ?_
                refine me_aload_n (q := 117) C dX12_surety_116 rfl rfl rfl ?_
                refine me_getR (q := 120) C dX12_surety_117 mf_X12_139 rfl rfl (mm_kI eg51 (mm_kI eg47 k39)) rfl ?_
                refine me_iload_n (q := 121) C dX12_surety_120 rfl rfl rfl ?_
                refine me_iload_n (q := 122) C dX12_surety_121 rfl rfl rfl ?_
                obtain ⟨u52, eu52, hf⟩ := mm_rf_some hf
                obtain ⟨k53, hf⟩ := mm_ck_some hf
                obtain ⟨k54, hf⟩ := mm_ck_some hf
                obtain ⟨g55, eg55, hf⟩ := mm_lt_some hf
                refine me_iastH (q := 123) C eg55 dX12_surety_122 eu52 k53 k54 rfl ?_
                refine me_aload_n (q := 124) C dX12_surety_123 rfl rfl rfl ?_
                refine me_getR (q := 127) C dX12_surety_124 mf_X12_142 rfl rfl (mm_kI eg55 (mm_kI eg51 (mm_kI eg47 k39))) rfl ?_
                refine me_iload_n (q := 128) C dX12_surety_127 rfl rfl rfl ?_
                refine me_aload_n (q := 129) C dX12_surety_128 rfl rfl rfl ?_
                refine me_getR (q := 132) C dX12_surety_129 mf_X12_9 rfl rfl (mm_kI eg55 (mm_kI eg51 (mm_kI eg47 k39))) rfl ?_
                refine me_iload_n (q := 133) C dX12_surety_132 rfl rfl rfl ?_
                obtain ⟨u56, eu56, hf⟩ := mm_rf_some hf
                obtain ⟨k57, hf⟩ := mm_ck_some hf
                obtain ⟨k58, hf⟩ := mm_ck_some hf
                refine me_iald (q := 134) C dX12_surety_133 eu56 k57 k58 rfl ?_
                obtain ⟨u59, eu59, hf⟩ := mm_rf_some hf
                obtain ⟨k60, hf⟩ := mm_ck_some hf
                obtain ⟨k61, hf⟩ := mm_ck_some hf
                obtain ⟨g62, eg62, hf⟩ := mm_lt_some hf
                refine me_iastH (q := 135) C eg62 dX12_surety_134 eu59 k60 k61 rfl ?_
                refine me_aload_n (q := 136) C dX12_surety_135 rfl rfl rfl ?_
                refine me_getR (q := 139) C dX12_surety_136 mf_X12_130 rfl rfl (mm_kI eg62 (mm_kI eg55 (mm_kI eg51 (mm_kI eg47 k39)))) rfl ?_
                refine me_iload_n (q := 140) C dX12_surety_139 rfl rfl rfl ?_
                refine me_dup2_11 (q := 141) C dX12_surety_140 rfl rfl rfl ?_
                obtain ⟨u63, eu63, hf⟩ := mm_rf_some hf
                obtain ⟨k64, hf⟩ := mm_ck_some hf
                obtain ⟨k65, hf⟩ := mm_ck_some hf
                refine me_iald (q := 142) C dX12_surety_141 eu63 k64 k65 rfl ?_
                refine me_iconst (v := (1 : Int32)) (q := 143) C dX12_surety_142 (by decide) rfl ?_
                refine me_iadd (q := 144) C dX12_surety_143 rfl ?_
                obtain ⟨k66, hf⟩ := mm_ck_some hf
                obtain ⟨g67, eg67, hf⟩ := mm_lt_some hf
                refine me_iastH (q := 145) C eg67 dX12_surety_144 eu63 k64 k66 rfl ?_
                refine me_aload_n (q := 146) C dX12_surety_145 rfl rfl rfl ?_
                refine me_getR (q := 149) C dX12_surety_146 mf_X12_130 rfl rfl (mm_kI eg67 (mm_kI eg62 (mm_kI eg55 (mm_kI eg51 (mm_kI eg47 k39))))) rfl ?_
                refine me_iload_n (q := 150) C dX12_surety_149 rfl rfl rfl ?_
                obtain ⟨u68, eu68, hf⟩ := mm_rf_some hf
                obtain ⟨k69, hf⟩ := mm_ck_some hf
                obtain ⟨k70, hf⟩ := mm_ck_some hf
                refine me_iald (q := 151) C dX12_surety_150 eu68 k69 k70 rfl ?_
                exact me_iret C hE (Nat.le_of_ble_eq_true rfl) (Nat.le_of_ble_eq_true rfl) rfl dX12_surety_151 (mm_ri hf)
            · have hf := mm_if_f c27 hf
              refine me_iconst (v := (-1 : Int32)) (q := 56) C dX12_surety_55 (by decide) rfl ?_
              exact me_iret C hE (Nat.le_of_ble_eq_true rfl) (Nat.le_of_ble_eq_true rfl) rfl dX12_surety_56 (mm_ri hf)
set_option maxRecDepth 100000 in
set_option maxHeartbeats 4000000 in
theorem cX12_sureties_ok (l : Launch) {a0 : Nat} {a1 : Int32} {a2 : Int32} {a3 : Int32} {h : mm_H} {r : Int32} {h1 : mm_H} (hf : fX12_sureties a0 a1 a2 a3 h = some (r, h1)) : mm_M l yX12_sureties cX12_sureties 4 (some .int) 6 0 0 [vR (some a0), vI a1, vI a2, vI a3] h (some (vI r)) h1 := by
  refine mm_enter (lv := [some (vR (some a0)), some (vI a1), some (vI a2), some (vI a3)]) (by decide) rfl (Nat.le_of_ble_eq_true rfl) ?_
  intro X hl C hE
  subst hl
  unfold fX12_sureties at hf
  refine me_aload_n (q := 1) C dX12_sureties_0 rfl rfl rfl ?_
  refine me_iload_n (q := 2) C dX12_sureties_1 rfl rfl rfl ?_
  obtain ⟨k1, hf⟩ := mm_ck_some hf
  obtain ⟨v2, g3, e4, hf⟩ := mm_cl_some hf
  refine me_callV (q := 5) (c2 := 0) (s2 := 0) (st := []) C (cX12_isBargain_ok _ e4) mt_X12_496 mv_X12_isBargain rfl (by decide) dX12_sureties_2 rfl k1 rfl rfl rfl (Nat.le_of_ble_eq_true rfl) rfl (Nat.le_of_ble_eq_true rfl) rfl (Nat.le_of_ble_eq_true rfl) rfl rfl ?_
  refine me_if_eq (q2 := 24) (q := 8) C dX12_sureties_5 (by decide) rfl (fun c5 => ?_) (fun c5 => ?_)
  · have hf := mm_if_t c5 hf
    refine me_iconst (v := (-1 : Int32)) (q := 25) C dX12_sureties_24 (by decide) rfl ?_
    refine me_goto (q := 82) C dX12_sureties_25 (by decide) ?_
    exact me_iret C hE (Nat.le_of_ble_eq_true rfl) (Nat.le_of_ble_eq_true rfl) rfl dX12_sureties_82 (mm_ri hf)
  · have hf := mm_if_f c5 hf
    refine me_iload_n (q := 9) C dX12_sureties_8 rfl rfl rfl ?_
    refine me_iconst (v := (0 : Int32)) (q := 10) C dX12_sureties_9 (by decide) rfl ?_
    refine me_aload_n (q := 11) C dX12_sureties_10 rfl rfl rfl ?_
    obtain ⟨k6, hf⟩ := mm_ck_some hf
    refine me_getR (q := 14) C dX12_sureties_11 mf_X12_130 rfl rfl k6 rfl ?_
    refine me_iload_n (q := 15) C dX12_sureties_14 rfl rfl rfl ?_
    obtain ⟨u7, eu7, hf⟩ := mm_rf_some hf
    obtain ⟨k8, hf⟩ := mm_ck_some hf
    obtain ⟨k9, hf⟩ := mm_ck_some hf
    refine me_iald (q := 16) C dX12_sureties_15 eu7 k8 k9 rfl ?_
    refine me_iconst (v := (1 : Int32)) (q := 17) C dX12_sureties_16 (by decide) rfl ?_
    refine me_isub (q := 18) C dX12_sureties_17 rfl ?_
    obtain ⟨v10, g11, e12, hf⟩ := mm_cl_some hf
    refine me_callS (q := 21) (c2 := 0) (s2 := 0) (st := []) C (cX12_in_ok _ e12) mt_X12_269 ms_X12_in dX12_sureties_18 rfl rfl rfl (Nat.le_of_ble_eq_true rfl) rfl (Nat.le_of_ble_eq_true rfl) rfl (Nat.le_of_ble_eq_true rfl) rfl rfl ?_
    refine me_if_ne (q2 := 28) (q := 24) C dX12_sureties_21 (by decide) rfl (fun c13 => ?_) (fun c13 => ?_)
    · have hf := mm_if_t c13 hf
      refine me_iload_n (q := 29) C dX12_sureties_28 rfl rfl rfl ?_
      refine me_if_ne (q2 := 45) (q := 32) C dX12_sureties_29 (by decide) rfl (fun c14 => ?_) (fun c14 => ?_)
      · have hf := mm_if_t c14 hf
        refine me_iload_n (q := 46) C dX12_sureties_45 rfl rfl rfl ?_
        refine me_iconst (v := (1 : Int32)) (q := 47) C dX12_sureties_46 (by decide) rfl ?_
        refine me_icmp_ne (q2 := 63) (q := 50) C dX12_sureties_47 (by decide) rfl (fun c15 => ?_) (fun c15 => ?_)
        · have hf := mm_if_t c15 hf
          refine me_iload_n (q := 64) C dX12_sureties_63 rfl rfl rfl ?_
          refine me_iconst (v := (2 : Int32)) (q := 65) C dX12_sureties_64 (by decide) rfl ?_
          refine me_icmp_ne (q2 := 81) (q := 68) C dX12_sureties_65 (by decide) rfl (fun c16 => ?_) (fun c16 => ?_)
          · have hf := mm_if_t c16 hf
            refine me_iconst (v := (-1 : Int32)) (q := 82) C dX12_sureties_81 (by decide) rfl ?_
            exact me_iret C hE (Nat.le_of_ble_eq_true rfl) (Nat.le_of_ble_eq_true rfl) rfl dX12_sureties_82 (mm_ri hf)
          · have hf := mm_if_f c16 hf
            refine me_aload_n (q := 69) C dX12_sureties_68 rfl rfl rfl ?_
            obtain ⟨k17, hf⟩ := mm_ck_some hf
            refine me_getR (q := 72) C dX12_sureties_69 mf_X12_139 rfl rfl k17 rfl ?_
            refine me_iconst (v := (3 : Int32)) (q := 73) C dX12_sureties_72 (by decide) rfl ?_
            refine me_iload_n (q := 74) C dX12_sureties_73 rfl rfl rfl ?_
            refine me_imul (q := 75) C dX12_sureties_74 rfl ?_
            refine me_iload_n (q := 76) C dX12_sureties_75 rfl rfl rfl ?_
            refine me_iadd (q := 77) C dX12_sureties_76 rfl ?_
            obtain ⟨u18, eu18, hf⟩ := mm_rf_some hf
            obtain ⟨k19, hf⟩ := mm_ck_some hf
            obtain ⟨k20, hf⟩ := mm_ck_some hf
            refine me_iald (q := 78) C dX12_sureties_77 eu18 k19 k20 rfl ?_
            refine me_goto (q := 82) C dX12_sureties_78 (by decide) ?_
            exact me_iret C hE (Nat.le_of_ble_eq_true rfl) (Nat.le_of_ble_eq_true rfl) rfl dX12_sureties_82 (mm_ri hf)
        · have hf := mm_if_f c15 hf
          refine me_aload_n (q := 51) C dX12_sureties_50 rfl rfl rfl ?_
          obtain ⟨k21, hf⟩ := mm_ck_some hf
          refine me_getR (q := 54) C dX12_sureties_51 mf_X12_136 rfl rfl k21 rfl ?_
          refine me_iconst (v := (3 : Int32)) (q := 55) C dX12_sureties_54 (by decide) rfl ?_
          refine me_iload_n (q := 56) C dX12_sureties_55 rfl rfl rfl ?_
          refine me_imul (q := 57) C dX12_sureties_56 rfl ?_
          refine me_iload_n (q := 58) C dX12_sureties_57 rfl rfl rfl ?_
          refine me_iadd (q := 59) C dX12_sureties_58 rfl ?_
          obtain ⟨u22, eu22, hf⟩ := mm_rf_some hf
          obtain ⟨k23, hf⟩ := mm_ck_some hf
          obtain ⟨k24, hf⟩ := mm_ck_some hf
          refine me_iald (q := 60) C dX12_sureties_59 eu22 k23 k24 rfl ?_
          refine me_goto (q := 82) C dX12_sureties_60 (by decide) ?_
          exact me_iret C hE (Nat.le_of_ble_eq_true rfl) (Nat.le_of_ble_eq_true rfl) rfl dX12_sureties_82 (mm_ri hf)
      · have hf := mm_if_f c14 hf
        refine me_aload_n (q := 33) C dX12_sureties_32 rfl rfl rfl ?_
        obtain ⟨k25, hf⟩ := mm_ck_some hf
        refine me_getR (q := 36) C dX12_sureties_33 mf_X12_133 rfl rfl k25 rfl ?_
        refine me_iconst (v := (3 : Int32)) (q := 37) C dX12_sureties_36 (by decide) rfl ?_
        refine me_iload_n (q := 38) C dX12_sureties_37 rfl rfl rfl ?_
        refine me_imul (q := 39) C dX12_sureties_38 rfl ?_
        refine me_iload_n (q := 40) C dX12_sureties_39 rfl rfl rfl ?_
        refine me_iadd (q := 41) C dX12_sureties_40 rfl ?_
        obtain ⟨u26, eu26, hf⟩ := mm_rf_some hf
        obtain ⟨k27, hf⟩ := mm_ck_some hf
        obtain ⟨k28, hf⟩ := mm_ck_some hf
        refine me_iald (q := 42) C dX12_sureties_41 eu26 k27 k28 rfl ?_
        refine me_goto (q := 82) C dX12_sureties_42 (by decide) ?_
        exact me_iret C hE (Nat.le_of_ble_eq_true rfl) (Nat.le_of_ble_eq_true rfl) rfl dX12_sureties_82 (mm_ri hf)
    · have hf := mm_if_f c13 hf
      refine me_iconst (v := (-1 : Int32)) (q := 25) C dX12_sureties_24 (by decide) rfl ?_
      refine me_goto (q := 82) C dX12_sureties_25 (by decide) ?_
      exact me_iret C hE (Nat.le_of_ble_eq_true rfl) (Nat.le_of_ble_eq_true rfl) rfl dX12_sureties_82 (mm_ri hf)
set_option maxRecDepth 100000 in
set_option maxHeartbeats 4000000 in
theorem cX12_goes_ok (l : Launch) {a0 : Nat} {a1 : Int32} {a2 : Int32} {a3 : Int32} {h : mm_H} {r : Unit} {h1 : mm_H} (hf : fX12_goes a0 a1 a2 a3 h = some (r, h1)) : mm_M l yX12_goes cX12_goes 4 none 2 0 0 [vR (some a0), vI a1, vI a2, vI a3] h none h1 := by
  refine mm_enter (lv := [some (vR (some a0)), some (vI a1), some (vI a2), some (vI a3)]) (by decide) rfl (Nat.le_of_ble_eq_true rfl) ?_
  intro X hl C hE
  subst hl
  unfold fX12_goes at hf
  refine me_iload_n (q := 1) C dX12_goes_0 rfl rfl rfl ?_
  refine me_iconst (v := (-1 : Int32)) (q := 2) C dX12_goes_1 (by decide) rfl ?_
  refine me_icmp_ne (q2 := 18) (q := 5) C dX12_goes_2 (by decide) rfl (fun c1 => ?_) (fun c1 => ?_)
  · have hf := mm_if_t c1 hf
    refine me_aload_n (q := 19) C dX12_goes_18 rfl rfl rfl ?_
    obtain ⟨k2, hf⟩ := mm_ck_some hf
    refine me_getR (q := 22) C dX12_goes_19 mf_X12_13 rfl rfl k2 rfl ?_
    refine me_iload_n (q := 23) C dX12_goes_22 rfl rfl rfl ?_
    refine me_dup2_11 (q := 24) C dX12_goes_23 rfl rfl rfl ?_
    obtain ⟨u3, eu3, hf⟩ := mm_rf_some hf
    obtain ⟨k4, hf⟩ := mm_ck_some hf
    obtain ⟨k5, hf⟩ := mm_ck_some hf
    refine me_iald (q := 25) C dX12_goes_24 eu3 k4 k5 rfl ?_
    refine me_iload_n (q := 26) C dX12_goes_25 rfl rfl rfl ?_
    refine me_iadd (q := 27) C dX12_goes_26 rfl ?_
    obtain ⟨k6, hf⟩ := mm_ck_some hf
    obtain ⟨g7, eg7, hf⟩ := mm_lt_some hf
    refine me_iastH (q := 28) C eg7 dX12_goes_27 eu3 k4 k6 rfl ?_
    exact me_vret C hE (Nat.le_of_ble_eq_true rfl) (Nat.le_of_ble_eq_true rfl) rfl dX12_goes_28 (mm_ru hf)
  · have hf := mm_if_f c1 hf
    refine me_aload_n (q := 6) C dX12_goes_5 rfl rfl rfl ?_
    obtain ⟨k8, hf⟩ := mm_ck_some hf
    refine me_getR (q := 9) C dX12_goes_6 mf_X12_25 rfl rfl k8 rfl ?_
    refine me_iload_n (q := 10) C dX12_goes_9 rfl rfl rfl ?_
    refine me_dup2_11 (q := 11) C dX12_goes_10 rfl rfl rfl ?_
    obtain ⟨u9, eu9, hf⟩ := mm_rf_some hf
    obtain ⟨k10, hf⟩ := mm_ck_some hf
    obtain ⟨k11, hf⟩ := mm_ck_some hf
    refine me_iald (q := 12) C dX12_goes_11 eu9 k10 k11 rfl ?_
    refine me_iload_n (q := 13) C dX12_goes_12 rfl rfl rfl ?_
    refine me_iadd (q := 14) C dX12_goes_13 rfl ?_
    obtain ⟨k12, hf⟩ := mm_ck_some hf
    obtain ⟨g13, eg13, hf⟩ := mm_lt_some hf
    refine me_iastH (q := 15) C eg13 dX12_goes_14 eu9 k10 k12 rfl ?_
    refine me_goto (q := 28) C dX12_goes_15 (by decide) ?_
    exact me_vret C hE (Nat.le_of_ble_eq_true rfl) (Nat.le_of_ble_eq_true rfl) rfl dX12_goes_28 (mm_ru hf)
set_option maxRecDepth 100000 in
set_option maxHeartbeats 4000000 in
theorem cX12_pays_ok (l : Launch) {a0 : Nat} {a1 : Int32} {a2 : Int32} {h : mm_H} {r : Int32} {h1 : mm_H} (hf : fX12_pays a0 a1 a2 h = some (r, h1)) : mm_M l yX12_pays cX12_pays 4 (some .int) 4 0 0 [vR (some a0), vI a1, vI a2] h (some (vI r)) h1 := by
  refine mm_enter (lv := [some (vR (some a0)), some (vI a1), some (vI a2), none]) (by decide) rfl (Nat.le_of_ble_eq_true rfl) ?_
  intro X hl C hE
  subst hl
  unfold fX12_pays at hf
  refine me_iload_n (q := 1) C dX12_pays_0 rfl rfl rfl ?_
  refine me_aload_n (q := 2) C dX12_pays_1 rfl rfl rfl ?_
  obtain ⟨k1, hf⟩ := mm_ck_some hf
  refine me_getR (q := 5) C dX12_pays_2 mf_X12_112 rfl rfl k1 rfl ?_
  refine me_iload_n (q := 6) C dX12_pays_5 rfl rfl rfl ?_
  obtain ⟨u2, eu2, hf⟩ := mm_rf_some hf
  obtain ⟨k3, hf⟩ := mm_ck_some hf
  obtain ⟨k4, hf⟩ := mm_ck_some hf
  refine me_iald (q := 7) C dX12_pays_6 eu2 k3 k4 rfl ?_
  obtain ⟨q6, eq6, hf⟩ := mm_jn_some hf
  have Hq6 : ∀ (v5 : Int32), q6 v5 = some (r, h1) → mm_E X h 0 0 20 [some (vR (some a0)), some (vI a1), none, none] [vI v5] := by
    intro v5 hf
    subst eq6
    refine me_istore_n (q := 21) (lv2 := [some (vR (some a0)), some (vI a1), none, some (vI v5)]) C dX12_pays_20 rfl (Nat.le_of_ble_eq_true rfl) rfl rfl rfl ?_
    refine me_iload_n (q := 22) C dX12_pays_21 rfl rfl rfl ?_
    refine me_aload_n (q := 23) C dX12_pays_22 rfl rfl rfl ?_
    refine me_getR (q := 26) C dX12_pays_23 mf_X12_13 rfl rfl k1 rfl ?_
    refine me_aload_n (q := 27) C dX12_pays_26 rfl rfl rfl ?_
    refine me_getR (q := 30) C dX12_pays_27 mf_X12_103 rfl rfl k1 rfl ?_
    refine me_iload_n (q := 31) C dX12_pays_30 rfl rfl rfl ?_
    obtain ⟨u7, eu7, hf⟩ := mm_rf_some hf
    obtain ⟨k8, hf⟩ := mm_ck_some hf
    obtain ⟨k9, hf⟩ := mm_ck_some hf
    refine me_iald (q := 32) C dX12_pays_31 eu7 k8 k9 rfl ?_
    obtain ⟨u10, eu10, hf⟩ := mm_rf_some hf
    obtain ⟨k11, hf⟩ := mm_ck_some hf
    obtain ⟨k12, hf⟩ := mm_ck_some hf
    refine me_iald (q := 33) C dX12_pays_32 eu10 k11 k12 rfl ?_
    obtain ⟨q14, eq14, hf⟩ := mm_jn_some hf
    have Hq14 : ∀ (v13 : Int32), q14 v13 = some (r, h1) → mm_E X h 0 0 51 [some (vR (some a0)), some (vI a1), none, none] [vI v13] := by
      intro v13 hf
      subst eq14
      refine me_istore_n (q := 52) (lv2 := [some (vR (some a0)), some (vI a1), none, some (vI v13)]) C dX12_pays_51 rfl (Nat.le_of_ble_eq_true rfl) rfl rfl rfl ?_
      refine me_aload_n (q := 53) C dX12_pays_52 rfl rfl rfl ?_
      refine me_getR (q := 56) C dX12_pays_53 mf_X12_13 rfl rfl k1 rfl ?_
      refine me_aload_n (q := 57) C dX12_pays_56 rfl rfl rfl ?_
      refine me_getR (q := 60) C dX12_pays_57 mf_X12_103 rfl rfl k1 rfl ?_
      refine me_iload_n (q := 61) C dX12_pays_60 rfl rfl rfl ?_
      obtain ⟨k15, hf⟩ := mm_ck_some hf
      refine me_iald (q := 62) C dX12_pays_61 eu7 k8 k15 rfl ?_
      refine me_dup2_11 (q := 63) C dX12_pays_62 rfl rfl rfl ?_
      obtain ⟨k16, hf⟩ := mm_ck_some hf
      refine me_iald (q := 64) C dX12_pays_63 eu10 k11 k16 rfl ?_
      refine me_iload_n (q := 65) C dX12_pays_64 rfl rfl rfl ?_
      refine me_isub (q := 66) C dX12_pays_65 rfl ?_
      obtain ⟨k17, hf⟩ := mm_ck_some hf
      obtain ⟨g18, eg18, hf⟩ := mm_lt_some hf
      refine me_iastH (q := 67) C eg18 dX12_pays_66 eu10 k11 k17 rfl ?_
      refine me_aload_n (q := 68) C dX12_pays_67 rfl rfl rfl ?_
      refine me_getR (q := 71) C dX12_pays_68 mf_X12_112 rfl rfl (mm_kI eg18 k1) rfl ?_
      refine me_iload_n (q := 72) C dX12_pays_71 rfl rfl rfl ?_
      refine me_dup2_11 (q := 73) C dX12_pays_72 rfl rfl rfl ?_
      obtain ⟨u19, eu19, hf⟩ := mm_rf_some hf
      obtain ⟨k20, hf⟩ := mm_ck_some hf
      obtain ⟨k21, hf⟩ := mm_ck_some hf
      refine me_iald (q := 74) C dX12_pays_73 eu19 k20 k21 rfl ?_
      refine me_iload_n (q := 75) C dX12_pays_74 rfl rfl rfl ?_
      refine me_isub (q := 76) C dX12_pays_75 rfl ?_
      obtain ⟨k22, hf⟩ := mm_ck_some hf
      obtain ⟨g23, eg23, hf⟩ := mm_lt_some hf
      refine me_iastH (q := 77) C eg23 dX12_pays_76 eu19 k20 k22 rfl ?_
      refine me_aload_n (q := 78) C dX12_pays_77 rfl rfl rfl ?_
      refine me_iload_n (q := 79) C dX12_pays_78 rfl rfl rfl ?_
      refine me_aload_n (q := 80) C dX12_pays_79 rfl rfl rfl ?_
      refine me_getR (q := 83) C dX12_pays_80 mf_X12_124 rfl rfl (mm_kI eg23 (mm_kI eg18 k1)) rfl ?_
      refine me_iload_n (q := 84) C dX12_pays_83 rfl rfl rfl ?_
      obtain ⟨u24, eu24, hf⟩ := mm_rf_some hf
      obtain ⟨k25, hf⟩ := mm_ck_some hf
      obtain ⟨k26, hf⟩ := mm_ck_some hf
      refine me_iald (q := 85) C dX12_pays_84 eu24 k25 k26 rfl ?_
      refine me_aload_n (q := 86) C dX12_pays_85 rfl rfl rfl ?_
      refine me_getR (q := 89) C dX12_pays_86 mf_X12_127 rfl rfl (mm_kI eg23 (mm_kI eg18 k1)) rfl ?_
      refine me_iload_n (q := 90) C dX12_pays_89 rfl rfl rfl ?_
      obtain ⟨u27, eu27, hf⟩ := mm_rf_some hf
      obtain ⟨k28, hf⟩ := mm_ck_some hf
      obtain ⟨k29, hf⟩ := mm_ck_some hf
      refine me_iald (q := 91) C dX12_pays_90 eu27 k28 k29 rfl ?_
      obtain ⟨_, g30, e31, hf⟩ := mm_cl_some hf
      refine me_callV (q := 94) (c2 := 0) (s2 := 0) (st := []) C (cX12_goes_ok _ e31) mt_X12_499 mv_X12_goes rfl (by decide) dX12_pays_91 rfl (mm_kI eg23 (mm_kI eg18 k1)) rfl rfl rfl (Nat.le_of_ble_eq_true rfl) rfl (Nat.le_of_ble_eq_true rfl) rfl (Nat.le_of_ble_eq_true rfl) rfl rfl ?_
      refine me_iload_n (q := 95) C dX12_pays_94 rfl rfl rfl ?_
      exact me_iret C hE (Nat.le_of_ble_eq_true rfl) (Nat.le_of_ble_eq_true rfl) rfl dX12_pays_95 (mm_ri hf)
    refine me_icmp_ge (q2 := 40) (q := 36) C dX12_pays_33 (by decide) rfl (fun c32 => ?_) (fun c32 => ?_)
    · have hf := mm_if_t c32 hf
      refine me_aload_n (q := 41) C dX12_pays_40 rfl rfl rfl ?_
      refine me_getR (q := 44) C dX12_pays_41 mf_X12_13 rfl rfl k1 rfl ?_
      refine me_aload_n (q := 45) C dX12_pays_44 rfl rfl rfl ?_
      refine me_getR (q := 48) C dX12_pays_45 mf_X12_103 rfl rfl k1 rfl ?_
      refine me_iload_n (q := 49) C dX12_pays_48 rfl rfl rfl ?_
      obtain ⟨k33, hf⟩ := mm_ck_some hf
      refine me_iald (q := 50) C dX12_pays_49 eu7 k8 k33 rfl ?_
      obtain ⟨k34, hf⟩ := mm_ck_some hf
      refine me_iald (q := 51) C dX12_pays_50 eu10 k11 k34 rfl ?_
      refine me_mask [true, true, false, false] (lv2 := [some (vR (some a0)), some (vI a1), none, none]) rfl ?_
      exact Hq14 _ hf
    · have hf := mm_if_f c32 hf
      refine me_iload_n (q := 37) C dX12_pays_36 rfl rfl rfl ?_
      refine me_goto (q := 51) C dX12_pays_37 (by decide) ?_
      refine me_mask [true, true, false, false] (lv2 := [some (vR (some a0)), some (vI a1), none, none]) rfl ?_
      exact Hq14 _ hf
  refine me_icmp_ge (q2 := 14) (q := 10) C dX12_pays_7 (by decide) rfl (fun c35 => ?_) (fun c35 => ?_)
  · have hf := mm_if_t c35 hf
    refine me_aload_n (q := 15) C dX12_pays_14 rfl rfl rfl ?_
    refine me_getR (q := 18) C dX12_pays_15 mf_X12_112 rfl rfl k1 rfl ?_
    refine me_iload_n (q := 19) C dX12_pays_18 rfl rfl rfl ?_
    obtain ⟨k36, hf⟩ := mm_ck_some hf
    refine me_iald (q := 20) C dX12_pays_19 eu2 k3 k36 rfl ?_
    refine me_mask [true, true, false, false] (lv2 := [some (vR (some a0)), some (vI a1), none, none]) rfl ?_
    exact Hq6 _ hf
  · have hf := mm_if_f c35 hf
    refine me_iload_n (q := 11) C dX12_pays_10 rfl rfl rfl ?_
    refine me_goto (q := 20) C dX12_pays_11 (by decide) ?_
    refine me_mask [true, true, false, false] (lv2 := [some (vR (some a0)), some (vI a1), none, none]) rfl ?_
    exact Hq6 _ hf
set_option maxRecDepth 100000 in
set_option maxHeartbeats 4000000 in
theorem cX12_pay_ok (l : Launch) {a0 : Nat} {a1 : Int32} {a2 : Int32} {h : mm_H} {r : Int32} {h1 : mm_H} (hf : fX12_pay a0 a1 a2 h = some (r, h1)) : mm_M l yX12_pay cX12_pay 3 (some .int) 6 0 0 [vR (some a0), vI a1, vI a2] h (some (vI r)) h1 := by
  refine mm_enter (lv := [some (vR (some a0)), some (vI a1), some (vI a2)]) (by decide) rfl (Nat.le_of_ble_eq_true rfl) ?_
  intro X hl C hE
  subst hl
  unfold fX12_pay at hf
  refine me_aload_n (q := 1) C dX12_pay_0 rfl rfl rfl ?_
  refine me_iload_n (q := 2) C dX12_pay_1 rfl rfl rfl ?_
  obtain ⟨k1, hf⟩ := mm_ck_some hf
  obtain ⟨v2, g3, e4, hf⟩ := mm_cl_some hf
  refine me_callV (q := 5) (c2 := 0) (s2 := 0) (st := []) C (cX12_isBargain_ok _ e4) mt_X12_496 mv_X12_isBargain rfl (by decide) dX12_pay_2 rfl k1 rfl rfl rfl (Nat.le_of_ble_eq_true rfl) rfl (Nat.le_of_ble_eq_true rfl) rfl (Nat.le_of_ble_eq_true rfl) rfl rfl ?_
  refine me_if_eq (q2 := 22) (q := 8) C dX12_pay_5 (by decide) rfl (fun c5 => ?_) (fun c5 => ?_)
  · have hf := mm_if_t c5 hf
    refine me_iconst (v := (-1 : Int32)) (q := 23) C dX12_pay_22 (by decide) rfl ?_
    refine me_goto (q := 32) C dX12_pay_23 (by decide) ?_
    exact me_iret C hE (Nat.le_of_ble_eq_true rfl) (Nat.le_of_ble_eq_true rfl) rfl dX12_pay_32 (mm_ri hf)
  · have hf := mm_if_f c5 hf
    refine me_aload_n (q := 9) C dX12_pay_8 rfl rfl rfl ?_
    obtain ⟨k6, hf⟩ := mm_ck_some hf
    refine me_getR (q := 12) C dX12_pay_9 mf_X12_112 rfl rfl k6 rfl ?_
    refine me_iload_n (q := 13) C dX12_pay_12 rfl rfl rfl ?_
    obtain ⟨u7, eu7, hf⟩ := mm_rf_some hf
    obtain ⟨k8, hf⟩ := mm_ck_some hf
    obtain ⟨k9, hf⟩ := mm_ck_some hf
    refine me_iald (q := 14) C dX12_pay_13 eu7 k8 k9 rfl ?_
    refine me_if_eq (q2 := 22) (q := 17) C dX12_pay_14 (by decide) rfl (fun c10 => ?_) (fun c10 => ?_)
    · have hf := mm_if_t c10 hf
      refine me_iconst (v := (-1 : Int32)) (q := 23) C dX12_pay_22 (by decide) rfl ?_
      refine me_goto (q := 32) C dX12_pay_23 (by decide) ?_
      exact me_iret C hE (Nat.le_of_ble_eq_true rfl) (Nat.le_of_ble_eq_true rfl) rfl dX12_pay_32 (mm_ri hf)
    · have hf := mm_if_f c10 hf
      refine me_iload_n (q := 18) C dX12_pay_17 rfl rfl rfl ?_
      refine me_iconst (v := (1 : Int32)) (q := 19) C dX12_pay_18 (by decide) rfl ?_
      refine me_icmp_ge (q2 := 26) (q := 22) C dX12_pay_19 (by decide) rfl (fun c11 => ?_) (fun c11 => ?_)
      · have hf := mm_if_t c11 hf
        refine me_aload_n (q := 27) C dX12_pay_26 rfl rfl rfl ?_
        refine me_iload_n (q := 28) C dX12_pay_27 rfl rfl rfl ?_
        refine me_iload_n (q := 29) C dX12_pay_28 rfl rfl rfl ?_
        obtain ⟨v12, g13, e14, hf⟩ := mm_cl_some hf
        refine me_callV (q := 32) (c2 := 0) (s2 := 0) (st := []) C (cX12_pays_ok _ e14) mt_X12_503 mv_X12_pays rfl (by decide) dX12_pay_29 rfl k6 rfl rfl rfl (Nat.le_of_ble_eq_true rfl) rfl (Nat.le_of_ble_eq_true rfl) rfl (Nat.le_of_ble_eq_true rfl) rfl rfl ?_
        exact me_iret C hE (Nat.le_of_ble_eq_true rfl) (Nat.le_of_ble_eq_true rfl) rfl dX12_pay_32 (mm_ri hf)
      · have hf := mm_if_f c11 hf
        refine me_iconst (v := (-1 : Int32)) (q := 23) C dX12_pay_22 (by decide) rfl ?_
        refine me_goto (q := 32) C dX12_pay_23 (by decide) ?_
        exact me_iret C hE (Nat.le_of_ble_eq_true rfl) (Nat.le_of_ble_eq_true rfl) rfl dX12_pay_32 (mm_ri hf)
set_option maxRecDepth 100000 in
set_option maxHeartbeats 4000000 in
theorem cX12_call_L46 {X : mm_X} (C : mm_C X cX12_call yX12_call 6 0 0) {r : Int32} {h1 : mm_H} (hE : mm_End X 0 0 (some .int) (some (vI r)) h1) {b0 : Nat} {b1 : Int32} (K187 : Int32 → mm_H → Option (Int32 × mm_H)) : ∀ (n : Nat) (x2 : Int32) (x3 : Int32) (h : mm_H), fX12_call_L46 b0 b1 K187 n x2 x3 h = some (r, h1) → (∀ (y2 : Int32) (h : mm_H), K187 y2 h = some (r, h1) → mm_E X h 0 0 187 [none, none, some (vI y2), none, none, none, none] []) → mm_E X h 0 0 46 [some (vR (some b0)), some (vI b1), some (vI x2), some (vI x3), none, none, none] [] := by
  intro n
  induction n with
  | zero =>
    intro x2 x3 h hf
    exact absurd (show (none : Option (Int32 × mm_H)) = some (r, h1) from hf) (by simp)
  | succ n ih =>
    intro x2 x3 h hf hk187
    have hf : fX12_call_L46_b b0 b1 K187 (fX12_call_L46 b0 b1 K187 n) x2 x3 h = some (r, h1) := hf
    unfold fX12_call_L46_b at hf
    refine me_iload_n (q := 47) C dX12_call_46 rfl rfl rfl ?_
    refine me_aload_n (q := 48) C dX12_call_47 rfl rfl rfl ?_
    obtain ⟨k19, hf⟩ := mm_ck_some hf
    refine me_getR (q := 51) C dX12_call_48 mf_X12_130 rfl rfl k19 rfl ?_
    refine me_iload_n (q := 52) C dX12_call_51 rfl rfl rfl ?_
    obtain ⟨u20, eu20, hf⟩ := mm_rf_some hf
    obtain ⟨k21, hf⟩ := mm_ck_some hf
    obtain ⟨k22, hf⟩ := mm_ck_some hf
    refine me_iald (q := 53) C dX12_call_52 eu20 k21 k22 rfl ?_
    refine me_icmp_ge (q2 := 187) (q := 56) C dX12_call_53 (by decide) rfl (fun c23 => ?_) (fun c23 => ?_)
    · have hf := mm_if_t c23 hf
      refine me_mask [false, false, true, false, false, false, false] (lv2 := [none, none, some (vI x2), none, none, none, none]) rfl ?_
      exact hk187 _ _ hf
    · have hf := mm_if_f c23 hf
      refine me_aload_n (q := 57) C dX12_call_56 rfl rfl rfl ?_
      refine me_getR (q := 60) C dX12_call_57 mf_X12_130 rfl rfl k19 rfl ?_
      refine me_iload_n (q := 61) C dX12_call_60 rfl rfl rfl ?_
      obtain ⟨k24, hf⟩ := mm_ck_some hf
      refine me_iald (q := 62) C dX12_call_61 eu20 k21 k24 rfl ?_
      refine me_iload_n (q := 63) C dX12_call_62 rfl rfl rfl ?_
      refine me_isub (q := 64) C dX12_call_63 rfl ?_
      obtain ⟨v25, ev25, hf⟩ := mm_lt_some hf
      refine me_topI ev25 ?_
      refine me_istore (q := 66) (lv2 := [some (vR (some b0)), some (vI b1), some (vI x2), some (vI x3), some (vI v25), none, none]) C dX12_call_64 (Nat.le_of_ble_eq_true rfl) rfl rfl rfl ?_
      refine me_aload_n (q := 67) C dX12_call_66 rfl rfl rfl ?_
      refine me_getR (q := 70) C dX12_call_67 mf_X12_133 rfl rfl k19 rfl ?_
      refine me_iconst (v := (3 : Int32)) (q := 71) C dX12_call_70 (by decide) rfl ?_
      refine me_iload_n (q := 72) C dX12_call_71 rfl rfl rfl ?_
      refine me_imul (q := 73) C dX12_call_72 rfl ?_
      refine me_iload_n (q := 74) C dX12_call_73 rfl rfl rfl ?_
      refine me_iadd (q := 75) C dX12_call_74 rfl ?_
      obtain ⟨u26, eu26, hf⟩ := mm_rf_some hf
      obtain ⟨k27, hf⟩ := mm_ck_some hf
      obtain ⟨k28, hf⟩ := mm_ck_some hf
      refine me_iald (q := 76) C dX12_call_75 eu26 k27 k28 rfl ?_
      obtain ⟨v29, ev29, hf⟩ := mm_lt_some hf
      refine me_topI ev29 ?_
      refine me_istore (q := 78) (lv2 := [some (vR (some b0)), some (vI b1), some (vI x2), some (vI x3), some (vI v25), some (vI v29), none]) C dX12_call_76 (Nat.le_of_ble_eq_true rfl) rfl rfl rfl ?_
      refine me_aload_n (q := 79) C dX12_call_78 rfl rfl rfl ?_
      refine me_getR (q := 82) C dX12_call_79 mf_X12_112 rfl rfl k19 rfl ?_
      refine me_iload_n (q := 83) C dX12_call_82 rfl rfl rfl ?_
      obtain ⟨u30, eu30, hf⟩ := mm_rf_some hf
      obtain ⟨k31, hf⟩ := mm_ck_some hf
      obtain ⟨k32, hf⟩ := mm_ck_some hf
      refine me_iald (q := 84) C dX12_call_83 eu30 k31 k32 rfl ?_
      refine me_iload (q := 86) C dX12_call_84 rfl rfl ?_
      refine me_iadd (q := 87) C dX12_call_86 rfl ?_
      refine me_iconst (v := (1 : Int32)) (q := 88) C dX12_call_87 (by decide) rfl ?_
      refine me_isub (q := 89) C dX12_call_88 rfl ?_
      refine me_iload (q := 91) C dX12_call_89 rfl rfl ?_
      obtain ⟨k33, hf⟩ := mm_ck_some hf
      refine me_idiv (q := 92) C dX12_call_91 k33 rfl ?_
      obtain ⟨v34, ev34, hf⟩ := mm_lt_some hf
      refine me_topI ev34 ?_
      refine me_istore (q := 94) (lv2 := [some (vR (some b0)), some (vI b1), some (vI x2), some (vI x3), some (vI v25), some (vI v29), some (vI v34)]) C dX12_call_92 (Nat.le_of_ble_eq_true rfl) rfl rfl rfl ?_
      refine me_iload (q := 96) C dX12_call_94 rfl rfl ?_
      refine me_aload_n (q := 97) C dX12_call_96 rfl rfl rfl ?_
      refine me_getR (q := 100) C dX12_call_97 mf_X12_13 rfl rfl k19 rfl ?_
      refine me_iload (q := 102) C dX12_call_100 rfl rfl ?_
      obtain ⟨u35, eu35, hf⟩ := mm_rf_some hf
      obtain ⟨k36, hf⟩ := mm_ck_some hf
      obtain ⟨k37, hf⟩ := mm_ck_some hf
      refine me_iald (q := 103) C dX12_call_102 eu35 k36 k37 rfl ?_
      obtain ⟨q39, eq39, hf⟩ := mm_jn_some hf
      have Hq39 : ∀ (v38 : Int32), q39 v38 = some (r, h1) → mm_E X h 0 0 118 [some (vR (some b0)), some (vI b1), some (vI x2), some (vI x3), none, some (vI v29), none] [vI v38] := by
        intro v38 hf
        subst eq39
        refine me_istore (q := 120) (lv2 := [some (vR (some b0)), some (vI b1), some (vI x2), some (vI x3), none, some (vI v29), some (vI v38)]) C dX12_call_118 (Nat.le_of_ble_eq_true rfl) rfl rfl rfl ?_
        refine me_aload_n (q := 121) C dX12_call_120 rfl rfl rfl ?_
        refine me_getR (q := 124) C dX12_call_121 mf_X12_13 rfl rfl k19 rfl ?_
        refine me_iload (q := 126) C dX12_call_124 rfl rfl ?_
        refine me_dup2_11 (q := 127) C dX12_call_126 rfl rfl rfl ?_
        obtain ⟨k40, hf⟩ := mm_ck_some hf
        refine me_iald (q := 128) C dX12_call_127 eu35 k36 k40 rfl ?_
        refine me_iload (q := 130) C dX12_call_128 rfl rfl ?_
        refine me_isub (q := 131) C dX12_call_130 rfl ?_
        obtain ⟨k41, hf⟩ := mm_ck_some hf
        obtain ⟨g42, eg42, hf⟩ := mm_lt_some hf
        refine me_iastH (q := 132) C eg42 dX12_call_131 eu35 k36 k41 rfl ?_
        refine me_aload_n (q := 133) C dX12_call_132 rfl rfl rfl ?_
        refine me_getR (q := 136) C dX12_call_133 mf_X12_112 rfl rfl (mm_kI eg42 k19) rfl ?_
        refine me_iload_n (q := 137) C dX12_call_136 rfl rfl rfl ?_
        refine me_dup2_11 (q := 138) C dX12_call_137 rfl rfl rfl ?_
        obtain ⟨u43, eu43, hf⟩ := mm_rf_some hf
        obtain ⟨k44, hf⟩ := mm_ck_some hf
        obtain ⟨k45, hf⟩ := mm_ck_some hf
        refine me_iald (q := 139) C dX12_call_138 eu43 k44 k45 rfl ?_
        refine me_iload (q := 141) C dX12_call_139 rfl rfl ?_
        refine me_isub (q := 142) C dX12_call_141 rfl ?_
        obtain ⟨k46, hf⟩ := mm_ck_some hf
        obtain ⟨g47, eg47, hf⟩ := mm_lt_some hf
        refine me_iastH (q := 143) C eg47 dX12_call_142 eu43 k44 k46 rfl ?_
        refine me_aload_n (q := 144) C dX12_call_143 rfl rfl rfl ?_
        refine me_getR (q := 147) C dX12_call_144 mf_X12_136 rfl rfl (mm_kI eg47 (mm_kI eg42 k19)) rfl ?_
        refine me_iconst (v := (3 : Int32)) (q := 148) C dX12_call_147 (by decide) rfl ?_
        refine me_iload_n (q := 149) C dX12_call_148 rfl rfl rfl ?_
        refine me_imul (q := 150) C dX12_call_149 rfl ?_
        refine me_iload_n (q := 151) C dX12_call_150 rfl rfl rfl ?_
        refine me_iadd (q := 152) C dX12_call_151 rfl ?_
        refine me_dup2_11 (q := 153) C dX12_call_152 rfl rfl rfl ?_
        obtain ⟨u48, eu48, hf⟩ := mm_rf_some hf
        obtain ⟨k49, hf⟩ := mm_ck_some hf
        obtain ⟨k50, hf⟩ := mm_ck_some hf
        refine me_iald (q := 154) C dX12_call_153 eu48 k49 k50 rfl ?_
        refine me_iload (q := 156) C dX12_call_154 rfl rfl ?_
        refine me_iadd (q := 157) C dX12_call_156 rfl ?_
        obtain ⟨k51, hf⟩ := mm_ck_some hf
        obtain ⟨g52, eg52, hf⟩ := mm_lt_some hf
        refine me_iastH (q := 158) C eg52 dX12_call_157 eu48 k49 k51 rfl ?_
        refine me_aload_n (q := 159) C dX12_call_158 rfl rfl rfl ?_
        refine me_iload (q := 161) C dX12_call_159 rfl rfl ?_
        refine me_aload_n (q := 162) C dX12_call_161 rfl rfl rfl ?_
        refine me_getR (q := 165) C dX12_call_162 mf_X12_124 rfl rfl (mm_kI eg52 (mm_kI eg47 (mm_kI eg42 k19))) rfl ?_
        refine me_iload_n (q := 166) C dX12_call_165 rfl rfl rfl ?_
        obtain ⟨u53, eu53, hf⟩ := mm_rf_some hf
        obtain ⟨k54, hf⟩ := mm_ck_some hf
        obtain ⟨k55, hf⟩ := mm_ck_some hf
        refine me_iald (q := 167) C dX12_call_166 eu53 k54 k55 rfl ?_
        refine me_aload_n (q := 168) C dX12_call_167 rfl rfl rfl ?_
        refine me_getR (q := 171) C dX12_call_168 mf_X12_127 rfl rfl (mm_kI eg52 (mm_kI eg47 (mm_kI eg42 k19))) rfl ?_
        refine me_iload_n (q := 172) C dX12_call_171 rfl rfl rfl ?_
        obtain ⟨u56, eu56, hf⟩ := mm_rf_some hf
        obtain ⟨k57, hf⟩ := mm_ck_some hf
        obtain ⟨k58, hf⟩ := mm_ck_some hf
        refine me_iald (q := 173) C dX12_call_172 eu56 k57 k58 rfl ?_
        obtain ⟨_, g59, e60, hf⟩ := mm_cl_some hf
        refine me_callV (q := 176) (c2 := 0) (s2 := 0) (st := []) C (cX12_goes_ok _ e60) mt_X12_499 mv_X12_goes rfl (by decide) dX12_call_173 rfl (mm_kI eg52 (mm_kI eg47 (mm_kI eg42 k19))) rfl rfl rfl (Nat.le_of_ble_eq_true rfl) rfl (Nat.le_of_ble_eq_true rfl) rfl (Nat.le_of_ble_eq_true rfl) rfl rfl ?_
        refine me_iload_n (q := 177) C dX12_call_176 rfl rfl rfl ?_
        refine me_iload (q := 179) C dX12_call_177 rfl rfl ?_
        refine me_iadd (q := 180) C dX12_call_179 rfl ?_
        obtain ⟨v61, ev61, hf⟩ := mm_lt_some hf
        refine me_topI ev61 ?_
        refine me_istore_n (q := 181) (lv2 := [some (vR (some b0)), some (vI b1), some (vI v61), some (vI x3), none, some (vI v29), some (vI v38)]) C dX12_call_180 rfl (Nat.le_of_ble_eq_true rfl) rfl rfl rfl ?_
        obtain ⟨v62, ev62, hf⟩ := mm_lt_some hf
        refine me_iinc (q := 184) (v := v62) (lv2 := [some (vR (some b0)), some (vI b1), some (vI v61), some (vI v62), none, some (vI v29), some (vI v38)]) C dX12_call_181 rfl (by rw [ev62]; rfl) (Nat.le_of_ble_eq_true rfl) rfl rfl rfl ?_
        refine me_goto (q := 46) C dX12_call_184 (by decide) ?_
        refine me_mask [true, true, true, true, false, false, false] (lv2 := [some (vR (some b0)), some (vI b1), some (vI v61), some (vI v62), none, none, none]) rfl ?_
        exact ih _ _ _ hf hk187
      refine me_icmp_ge (q2 := 111) (q := 106) C dX12_call_103 (by decide) rfl (fun c63 => ?_) (fun c63 => ?_)
      · have hf := mm_if_t c63 hf
        refine me_aload_n (q := 112) C dX12_call_111 rfl rfl rfl ?_
        refine me_getR (q := 115) C dX12_call_112 mf_X12_13 rfl rfl k19 rfl ?_
        refine me_iload (q := 117) C dX12_call_115 rfl rfl ?_
        obtain ⟨k64, hf⟩ := mm_ck_some hf
        refine me_iald (q := 118) C dX12_call_117 eu35 k36 k64 rfl ?_
        refine me_mask [true, true, true, true, false, true, false] (lv2 := [some (vR (some b0)), some (vI b1), some (vI x2), some (vI x3), none, some (vI v29), none]) rfl ?_
        exact Hq39 _ hf
      · have hf := mm_if_f c63 hf
        refine me_iload (q := 108) C dX12_call_106 rfl rfl ?_
        refine me_goto (q := 118) C dX12_call_108 (by decide) ?_
        refine me_mask [true, true, true, true, false, true, false] (lv2 := [some (vR (some b0)), some (vI b1), some (vI x2), some (vI x3), none, some (vI v29), none]) rfl ?_
        exact Hq39 _ hf
set_option maxRecDepth 100000 in
set_option maxHeartbeats 4000000 in
theorem cX12_call_ok (l : Launch) {a0 : Nat} {a1 : Int32} {h : mm_H} {r : Int32} {h1 : mm_H} (hf : fX12_call a0 a1 h = some (r, h1)) : mm_M l yX12_call cX12_call 7 (some .int) 6 0 0 [vR (some a0), vI a1] h (some (vI r)) h1 := by
  refine mm_enter (lv := [some (vR (some a0)), some (vI a1), none, none, none, none, none]) (by decide) rfl (Nat.le_of_ble_eq_true rfl) ?_
  intro X hl C hE
  subst hl
  unfold fX12_call at hf
  refine me_aload_n (q := 1) C dX12_call_0 rfl rfl rfl ?_
  refine me_iload_n (q := 2) C dX12_call_1 rfl rfl rfl ?_
  obtain ⟨k1, hf⟩ := mm_ck_some hf
  obtain ⟨v2, g3, e4, hf⟩ := mm_cl_some hf
  refine me_callV (q := 5) (c2 := 0) (s2 := 0) (st := []) C (cX12_isBargain_ok _ e4) mt_X12_496 mv_X12_isBargain rfl (by decide) dX12_call_2 rfl k1 rfl rfl rfl (Nat.le_of_ble_eq_true rfl) rfl (Nat.le_of_ble_eq_true rfl) rfl (Nat.le_of_ble_eq_true rfl) rfl rfl ?_
  refine me_if_eq (q2 := 30) (q := 8) C dX12_call_5 (by decide) rfl (fun c5 => ?_) (fun c5 => ?_)
  · have hf := mm_if_t c5 hf
    refine me_iconst (v := (-1 : Int32)) (q := 31) C dX12_call_30 (by decide) rfl ?_
    exact me_iret C hE (Nat.le_of_ble_eq_true rfl) (Nat.le_of_ble_eq_true rfl) rfl dX12_call_31 (mm_ri hf)
  · have hf := mm_if_f c5 hf
    refine me_aload_n (q := 9) C dX12_call_8 rfl rfl rfl ?_
    obtain ⟨k6, hf⟩ := mm_ck_some hf
    refine me_getR (q := 12) C dX12_call_9 mf_X12_112 rfl rfl k6 rfl ?_
    refine me_iload_n (q := 13) C dX12_call_12 rfl rfl rfl ?_
    obtain ⟨u7, eu7, hf⟩ := mm_rf_some hf
    obtain ⟨k8, hf⟩ := mm_ck_some hf
    obtain ⟨k9, hf⟩ := mm_ck_some hf
    refine me_iald (q := 14) C dX12_call_13 eu7 k8 k9 rfl ?_
    refine me_if_eq (q2 := 30) (q := 17) C dX12_call_14 (by decide) rfl (fun c10 => ?_) (fun c10 => ?_)
    · have hf := mm_if_t c10 hf
      refine me_iconst (v := (-1 : Int32)) (q := 31) C dX12_call_30 (by decide) rfl ?_
      exact me_iret C hE (Nat.le_of_ble_eq_true rfl) (Nat.le_of_ble_eq_true rfl) rfl dX12_call_31 (mm_ri hf)
    · have hf := mm_if_f c10 hf
      refine me_aload_n (q := 18) C dX12_call_17 rfl rfl rfl ?_
      refine me_getI (q := 21) C dX12_call_18 mf_X12_273 rfl rfl k6 rfl ?_
      refine me_aload_n (q := 22) C dX12_call_21 rfl rfl rfl ?_
      refine me_getR (q := 25) C dX12_call_22 mf_X12_115 rfl rfl k6 rfl ?_
      refine me_iload_n (q := 26) C dX12_call_25 rfl rfl rfl ?_
      obtain ⟨u11, eu11, hf⟩ := mm_rf_some hf
      obtain ⟨k12, hf⟩ := mm_ck_some hf
      obtain ⟨k13, hf⟩ := mm_ck_some hf
      refine me_iald (q := 27) C dX12_call_26 eu11 k12 k13 rfl ?_
      refine me_icmp_gt (q2 := 32) (q := 30) C dX12_call_27 (by decide) rfl (fun c14 => ?_) (fun c14 => ?_)
      · have hf := mm_if_t c14 hf
        refine me_aload_n (q := 33) C dX12_call_32 rfl rfl rfl ?_
        refine me_iload_n (q := 34) C dX12_call_33 rfl rfl rfl ?_
        refine me_aload_n (q := 35) C dX12_call_34 rfl rfl rfl ?_
        refine me_getR (q := 38) C dX12_call_35 mf_X12_112 rfl rfl k6 rfl ?_
        refine me_iload_n (q := 39) C dX12_call_38 rfl rfl rfl ?_
        obtain ⟨k15, hf⟩ := mm_ck_some hf
        refine me_iald (q := 40) C dX12_call_39 eu7 k8 k15 rfl ?_
        obtain ⟨v16, g17, e18, hf⟩ := mm_cl_some hf
        refine me_callV (q := 43) (c2 := 0) (s2 := 0) (st := []) C (cX12_pays_ok _ e18) mt_X12_503 mv_X12_pays rfl (by decide) dX12_call_40 rfl k6 rfl rfl rfl (Nat.le_of_ble_eq_true rfl) rfl (Nat.le_of_ble_eq_true rfl) rfl (Nat.le_of_ble_eq_true rfl) rfl rfl ?_
        refine me_istore_n (q := 44) (lv2 := [some (vR (some a0)), some (vI a1), some (vI v16), none, none, none, none]) C dX12_call_43 rfl (Nat.le_of_ble_eq_true rfl) rfl rfl rfl ?_
        refine me_iconst (v := (0 : Int32)) (q := 45) C dX12_call_44 (by decide) rfl ?_
        refine me_istore_n (q := 46) (lv2 := [some (vR (some a0)), some (vI a1), some (vI v16), some (vI (0 : Int32)), none, none, none]) C dX12_call_45 rfl (Nat.le_of_ble_eq_true rfl) rfl rfl rfl ?_
        refine cX12_call_L46 C hE _ _ _ _ _ hf ?_
        · intro z65 g66 hf
          refine me_iload_n (q := 188) C dX12_call_187 rfl rfl rfl ?_
          exact me_iret C hE (Nat.le_of_ble_eq_true rfl) (Nat.le_of_ble_eq_true rfl) rfl dX12_call_188 (mm_ri hf)
      · have hf := mm_if_f c14 hf
        refine me_iconst (v := (-1 : Int32)) (q := 31) C dX12_call_30 (by decide) rfl ?_
        exact me_iret C hE (Nat.le_of_ble_eq_true rfl) (Nat.le_of_ble_eq_true rfl) rfl dX12_call_31 (mm_ri hf)
set_option maxRecDepth 100000 in
set_option maxHeartbeats 4000000 in
theorem cX12_claims_ok (l : Launch) {a0 : Nat} {a1 : Int32} {a2 : Int32} {a3 : Int32} {h : mm_H} {r : Int32} {h1 : mm_H} (hf : fX12_claims a0 a1 a2 a3 h = some (r, h1)) : mm_M l yX12_claims cX12_claims 6 (some .int) 4 0 0 [vR (some a0), vI a1, vI a2, vI a3] h (some (vI r)) h1 := by
  refine mm_enter (lv := [some (vR (some a0)), some (vI a1), some (vI a2), some (vI a3), none, none]) (by decide) rfl (Nat.le_of_ble_eq_true rfl) ?_
  intro X hl C hE
  subst hl
  unfold fX12_claims at hf
  refine me_iconst (v := (3 : Int32)) (q := 1) C dX12_claims_0 (by decide) rfl ?_
  refine me_iload_n (q := 2) C dX12_claims_1 rfl rfl rfl ?_
  refine me_imul (q := 3) C dX12_claims_2 rfl ?_
  refine me_iload_n (q := 4) C dX12_claims_3 rfl rfl rfl ?_
  refine me_iadd (q := 5) C dX12_claims_4 rfl ?_
  obtain ⟨v1, ev1, hf⟩ := mm_lt_some hf
  refine me_topI ev1 ?_
  refine me_istore (q := 7) (lv2 := [some (vR (some a0)), some (vI a1), some (vI a2), some (vI a3), some (vI v1), none]) C dX12_claims_5 (Nat.le_of_ble_eq_true rfl) rfl rfl rfl ?_
  refine me_iload_n (q := 8) C dX12_claims_7 rfl rfl rfl ?_
  refine me_aload_n (q := 9) C dX12_claims_8 rfl rfl rfl ?_
  obtain ⟨k2, hf⟩ := mm_ck_some hf
  refine me_getR (q := 12) C dX12_claims_9 mf_X12_136 rfl rfl k2 rfl ?_
  refine me_iload (q := 14) C dX12_claims_12 rfl rfl ?_
  obtain ⟨u3, eu3, hf⟩ := mm_rf_some hf
  obtain ⟨k4, hf⟩ := mm_ck_some hf
  obtain ⟨k5, hf⟩ := mm_ck_some hf
  refine me_iald (q := 15) C dX12_claims_14 eu3 k4 k5 rfl ?_
  obtain ⟨q7, eq7, hf⟩ := mm_jn_some hf
  have Hq7 : ∀ (v6 : Int32), q7 v6 = some (r, h1) → mm_E X h 0 0 29 [some (vR (some a0)), some (vI a1), none, none, some (vI v1), none] [vI v6] := by
    intro v6 hf
    subst eq7
    refine me_istore (q := 31) (lv2 := [some (vR (some a0)), some (vI a1), none, none, some (vI v1), some (vI v6)]) C dX12_claims_29 (Nat.le_of_ble_eq_true rfl) rfl rfl rfl ?_
    refine me_iload (q := 33) C dX12_claims_31 rfl rfl ?_
    refine me_aload_n (q := 34) C dX12_claims_33 rfl rfl rfl ?_
    refine me_getR (q := 37) C dX12_claims_34 mf_X12_13 rfl rfl k2 rfl ?_
    refine me_aload_n (q := 38) C dX12_claims_37 rfl rfl rfl ?_
    refine me_getR (q := 41) C dX12_claims_38 mf_X12_103 rfl rfl k2 rfl ?_
    refine me_iload_n (q := 42) C dX12_claims_41 rfl rfl rfl ?_
    obtain ⟨u8, eu8, hf⟩ := mm_rf_some hf
    obtain ⟨k9, hf⟩ := mm_ck_some hf
    obtain ⟨k10, hf⟩ := mm_ck_some hf
    refine me_iald (q := 43) C dX12_claims_42 eu8 k9 k10 rfl ?_
    obtain ⟨u11, eu11, hf⟩ := mm_rf_some hf
    obtain ⟨k12, hf⟩ := mm_ck_some hf
    obtain ⟨k13, hf⟩ := mm_ck_some hf
    refine me_iald (q := 44) C dX12_claims_43 eu11 k12 k13 rfl ?_
    obtain ⟨q15, eq15, hf⟩ := mm_jn_some hf
    have Hq15 : ∀ (v14 : Int32), q15 v14 = some (r, h1) → mm_E X h 0 0 63 [some (vR (some a0)), some (vI a1), none, none, some (vI v1), none] [vI v14] := by
      intro v14 hf
      subst eq15
      refine me_istore (q := 65) (lv2 := [some (vR (some a0)), some (vI a1), none, none, some (vI v1), some (vI v14)]) C dX12_claims_63 (Nat.le_of_ble_eq_true rfl) rfl rfl rfl ?_
      refine me_aload_n (q := 66) C dX12_claims_65 rfl rfl rfl ?_
      refine me_getR (q := 69) C dX12_claims_66 mf_X12_13 rfl rfl k2 rfl ?_
      refine me_aload_n (q := 70) C dX12_claims_69 rfl rfl rfl ?_
      refine me_getR (q := 73) C dX12_claims_70 mf_X12_103 rfl rfl k2 rfl ?_
      refine me_iload_n (q := 74) C dX12_claims_73 rfl rfl rfl ?_
      obtain ⟨k16, hf⟩ := mm_ck_some hf
      refine me_iald (q := 75) C dX12_claims_74 eu8 k9 k16 rfl ?_
      refine me_dup2_11 (q := 76) C dX12_claims_75 rfl rfl rfl ?_
      obtain ⟨k17, hf⟩ := mm_ck_some hf
      refine me_iald (q := 77) C dX12_claims_76 eu11 k12 k17 rfl ?_
      refine me_iload (q := 79) C dX12_claims_77 rfl rfl ?_
      refine me_isub (q := 80) C dX12_claims_79 rfl ?_
      obtain ⟨k18, hf⟩ := mm_ck_some hf
      obtain ⟨g19, eg19, hf⟩ := mm_lt_some hf
      refine me_iastH (q := 81) C eg19 dX12_claims_80 eu11 k12 k18 rfl ?_
      refine me_aload_n (q := 82) C dX12_claims_81 rfl rfl rfl ?_
      refine me_getR (q := 85) C dX12_claims_82 mf_X12_136 rfl rfl (mm_kI eg19 k2) rfl ?_
      refine me_iload (q := 87) C dX12_claims_85 rfl rfl ?_
      refine me_dup2_11 (q := 88) C dX12_claims_87 rfl rfl rfl ?_
      obtain ⟨u20, eu20, hf⟩ := mm_rf_some hf
      obtain ⟨k21, hf⟩ := mm_ck_some hf
      obtain ⟨k22, hf⟩ := mm_ck_some hf
      refine me_iald (q := 89) C dX12_claims_88 eu20 k21 k22 rfl ?_
      refine me_iload (q := 91) C dX12_claims_89 rfl rfl ?_
      refine me_isub (q := 92) C dX12_claims_91 rfl ?_
      obtain ⟨k23, hf⟩ := mm_ck_some hf
      obtain ⟨g24, eg24, hf⟩ := mm_lt_some hf
      refine me_iastH (q := 93) C eg24 dX12_claims_92 eu20 k21 k23 rfl ?_
      refine me_aload_n (q := 94) C dX12_claims_93 rfl rfl rfl ?_
      refine me_iload (q := 96) C dX12_claims_94 rfl rfl ?_
      refine me_aload_n (q := 97) C dX12_claims_96 rfl rfl rfl ?_
      refine me_getR (q := 100) C dX12_claims_97 mf_X12_139 rfl rfl (mm_kI eg24 (mm_kI eg19 k2)) rfl ?_
      refine me_iload (q := 102) C dX12_claims_100 rfl rfl ?_
      obtain ⟨u25, eu25, hf⟩ := mm_rf_some hf
      obtain ⟨k26, hf⟩ := mm_ck_some hf
      obtain ⟨k27, hf⟩ := mm_ck_some hf
      refine me_iald (q := 103) C dX12_claims_102 eu25 k26 k27 rfl ?_
      refine me_aload_n (q := 104) C dX12_claims_103 rfl rfl rfl ?_
      refine me_getR (q := 107) C dX12_claims_104 mf_X12_142 rfl rfl (mm_kI eg24 (mm_kI eg19 k2)) rfl ?_
      refine me_iload (q := 109) C dX12_claims_107 rfl rfl ?_
      obtain ⟨u28, eu28, hf⟩ := mm_rf_some hf
      obtain ⟨k29, hf⟩ := mm_ck_some hf
      obtain ⟨k30, hf⟩ := mm_ck_some hf
      refine me_iald (q := 110) C dX12_claims_109 eu28 k29 k30 rfl ?_
      obtain ⟨_, g31, e32, hf⟩ := mm_cl_some hf
      refine me_callV (q := 113) (c2 := 0) (s2 := 0) (st := []) C (cX12_goes_ok _ e32) mt_X12_499 mv_X12_goes rfl (by decide) dX12_claims_110 rfl (mm_kI eg24 (mm_kI eg19 k2)) rfl rfl rfl (Nat.le_of_ble_eq_true rfl) rfl (Nat.le_of_ble_eq_true rfl) rfl (Nat.le_of_ble_eq_true rfl) rfl rfl ?_
      refine me_iload (q := 115) C dX12_claims_113 rfl rfl ?_
      exact me_iret C hE (Nat.le_of_ble_eq_true rfl) (Nat.le_of_ble_eq_true rfl) rfl dX12_claims_115 (mm_ri hf)
    refine me_icmp_ge (q2 := 52) (q := 47) C dX12_claims_44 (by decide) rfl (fun c33 => ?_) (fun c33 => ?_)
    · have hf := mm_if_t c33 hf
      refine me_aload_n (q := 53) C dX12_claims_52 rfl rfl rfl ?_
      refine me_getR (q := 56) C dX12_claims_53 mf_X12_13 rfl rfl k2 rfl ?_
      refine me_aload_n (q := 57) C dX12_claims_56 rfl rfl rfl ?_
      refine me_getR (q := 60) C dX12_claims_57 mf_X12_103 rfl rfl k2 rfl ?_
      refine me_iload_n (q := 61) C dX12_claims_60 rfl rfl rfl ?_
      obtain ⟨k34, hf⟩ := mm_ck_some hf
      refine me_iald (q := 62) C dX12_claims_61 eu8 k9 k34 rfl ?_
      obtain ⟨k35, hf⟩ := mm_ck_some hf
      refine me_iald (q := 63) C dX12_claims_62 eu11 k12 k35 rfl ?_
      refine me_mask [true, true, false, false, true, false] (lv2 := [some (vR (some a0)), some (vI a1), none, none, some (vI v1), none]) rfl ?_
      exact Hq15 _ hf
    · have hf := mm_if_f c33 hf
      refine me_iload (q := 49) C dX12_claims_47 rfl rfl ?_
      refine me_goto (q := 63) C dX12_claims_49 (by decide) ?_
      refine me_mask [true, true, false, false, true, false] (lv2 := [some (vR (some a0)), some (vI a1), none, none, some (vI v1), none]) rfl ?_
      exact Hq15 _ hf
  refine me_icmp_ge (q2 := 22) (q := 18) C dX12_claims_15 (by decide) rfl (fun c36 => ?_) (fun c36 => ?_)
  · have hf := mm_if_t c36 hf
    refine me_aload_n (q := 23) C dX12_claims_22 rfl rfl rfl ?_
    refine me_getR (q := 26) C dX12_claims_23 mf_X12_136 rfl rfl k2 rfl ?_
    refine me_iload (q := 28) C dX12_claims_26 rfl rfl ?_
    obtain ⟨k37, hf⟩ := mm_ck_some hf
    refine me_iald (q := 29) C dX12_claims_28 eu3 k4 k37 rfl ?_
    refine me_mask [true, true, false, false, true, false] (lv2 := [some (vR (some a0)), some (vI a1), none, none, some (vI v1), none]) rfl ?_
    exact Hq7 _ hf
  · have hf := mm_if_f c36 hf
    refine me_iload_n (q := 19) C dX12_claims_18 rfl rfl rfl ?_
    refine me_goto (q := 29) C dX12_claims_19 (by decide) ?_
    refine me_mask [true, true, false, false, true, false] (lv2 := [some (vR (some a0)), some (vI a1), none, none, some (vI v1), none]) rfl ?_
    exact Hq7 _ hf
set_option maxRecDepth 100000 in
set_option maxHeartbeats 4000000 in
theorem cX12_claim_ok (l : Launch) {a0 : Nat} {a1 : Int32} {a2 : Int32} {a3 : Int32} {h : mm_H} {r : Int32} {h1 : mm_H} (hf : fX12_claim a0 a1 a2 a3 h = some (r, h1)) : mm_M l yX12_claim cX12_claim 4 (some .int) 6 0 0 [vR (some a0), vI a1, vI a2, vI a3] h (some (vI r)) h1 := by
  refine mm_enter (lv := [some (vR (some a0)), some (vI a1), some (vI a2), some (vI a3)]) (by decide) rfl (Nat.le_of_ble_eq_true rfl) ?_
  intro X hl C hE
  subst hl
  unfold fX12_claim at hf
  refine me_aload_n (q := 1) C dX12_claim_0 rfl rfl rfl ?_
  refine me_iload_n (q := 2) C dX12_claim_1 rfl rfl rfl ?_
  obtain ⟨k1, hf⟩ := mm_ck_some hf
  obtain ⟨v2, g3, e4, hf⟩ := mm_cl_some hf
  refine me_callV (q := 5) (c2 := 0) (s2 := 0) (st := []) C (cX12_isBargain_ok _ e4) mt_X12_496 mv_X12_isBargain rfl (by decide) dX12_claim_2 rfl k1 rfl rfl rfl (Nat.le_of_ble_eq_true rfl) rfl (Nat.le_of_ble_eq_true rfl) rfl (Nat.le_of_ble_eq_true rfl) rfl rfl ?_
  refine me_if_eq (q2 := 42) (q := 8) C dX12_claim_5 (by decide) rfl (fun c5 => ?_) (fun c5 => ?_)
  · have hf := mm_if_t c5 hf
    refine me_iconst (v := (-1 : Int32)) (q := 43) C dX12_claim_42 (by decide) rfl ?_
    refine me_goto (q := 53) C dX12_claim_43 (by decide) ?_
    exact me_iret C hE (Nat.le_of_ble_eq_true rfl) (Nat.le_of_ble_eq_true rfl) rfl dX12_claim_53 (mm_ri hf)
  · have hf := mm_if_f c5 hf
    refine me_iload_n (q := 9) C dX12_claim_8 rfl rfl rfl ?_
    refine me_iconst (v := (0 : Int32)) (q := 10) C dX12_claim_9 (by decide) rfl ?_
    refine me_aload_n (q := 11) C dX12_claim_10 rfl rfl rfl ?_
    obtain ⟨k6, hf⟩ := mm_ck_some hf
    refine me_getR (q := 14) C dX12_claim_11 mf_X12_130 rfl rfl k6 rfl ?_
    refine me_iload_n (q := 15) C dX12_claim_14 rfl rfl rfl ?_
    obtain ⟨u7, eu7, hf⟩ := mm_rf_some hf
    obtain ⟨k8, hf⟩ := mm_ck_some hf
    obtain ⟨k9, hf⟩ := mm_ck_some hf
    refine me_iald (q := 16) C dX12_claim_15 eu7 k8 k9 rfl ?_
    refine me_iconst (v := (1 : Int32)) (q := 17) C dX12_claim_16 (by decide) rfl ?_
    refine me_isub (q := 18) C dX12_claim_17 rfl ?_
    obtain ⟨v10, g11, e12, hf⟩ := mm_cl_some hf
    refine me_callS (q := 21) (c2 := 0) (s2 := 0) (st := []) C (cX12_in_ok _ e12) mt_X12_269 ms_X12_in dX12_claim_18 rfl rfl rfl (Nat.le_of_ble_eq_true rfl) rfl (Nat.le_of_ble_eq_true rfl) rfl (Nat.le_of_ble_eq_true rfl) rfl rfl ?_
    refine me_if_eq (q2 := 42) (q := 24) C dX12_claim_21 (by decide) rfl (fun c13 => ?_) (fun c13 => ?_)
    · have hf := mm_if_t c13 hf
      refine me_iconst (v := (-1 : Int32)) (q := 43) C dX12_claim_42 (by decide) rfl ?_
      refine me_goto (q := 53) C dX12_claim_43 (by decide) ?_
      exact me_iret C hE (Nat.le_of_ble_eq_true rfl) (Nat.le_of_ble_eq_true rfl) rfl dX12_claim_53 (mm_ri hf)
    · have hf := mm_if_f c13 hf
      refine me_aload_n (q := 25) C dX12_claim_24 rfl rfl rfl ?_
      obtain ⟨k14, hf⟩ := mm_ck_some hf
      refine me_getR (q := 28) C dX12_claim_25 mf_X12_136 rfl rfl k14 rfl ?_
      refine me_iconst (v := (3 : Int32)) (q := 29) C dX12_claim_28 (by decide) rfl ?_
      refine me_iload_n (q := 30) C dX12_claim_29 rfl rfl rfl ?_
      refine me_imul (q := 31) C dX12_claim_30 rfl ?_
      refine me_iload_n (q := 32) C dX12_claim_31 rfl rfl rfl ?_
      refine me_iadd (q := 33) C dX12_claim_32 rfl ?_
      obtain ⟨u15, eu15, hf⟩ := mm_rf_some hf
      obtain ⟨k16, hf⟩ := mm_ck_some hf
      obtain ⟨k17, hf⟩ := mm_ck_some hf
      refine me_iald (q := 34) C dX12_claim_33 eu15 k16 k17 rfl ?_
      refine me_if_eq (q2 := 42) (q := 37) C dX12_claim_34 (by decide) rfl (fun c18 => ?_) (fun c18 => ?_)
      · have hf := mm_if_t c18 hf
        refine me_iconst (v := (-1 : Int32)) (q := 43) C dX12_claim_42 (by decide) rfl ?_
        refine me_goto (q := 53) C dX12_claim_43 (by decide) ?_
        exact me_iret C hE (Nat.le_of_ble_eq_true rfl) (Nat.le_of_ble_eq_true rfl) rfl dX12_claim_53 (mm_ri hf)
      · have hf := mm_if_f c18 hf
        refine me_iload_n (q := 38) C dX12_claim_37 rfl rfl rfl ?_
        refine me_iconst (v := (1 : Int32)) (q := 39) C dX12_claim_38 (by decide) rfl ?_
        refine me_icmp_ge (q2 := 46) (q := 42) C dX12_claim_39 (by decide) rfl (fun c19 => ?_) (fun c19 => ?_)
        · have hf := mm_if_t c19 hf
          refine me_aload_n (q := 47) C dX12_claim_46 rfl rfl rfl ?_
          refine me_iload_n (q := 48) C dX12_claim_47 rfl rfl rfl ?_
          refine me_iload_n (q := 49) C dX12_claim_48 rfl rfl rfl ?_
          refine me_iload_n (q := 50) C dX12_claim_49 rfl rfl rfl ?_
          obtain ⟨v20, g21, e22, hf⟩ := mm_cl_some hf
          refine me_callV (q := 53) (c2 := 0) (s2 := 0) (st := []) C (cX12_claims_ok _ e22) mt_X12_506 mv_X12_claims rfl (by decide) dX12_claim_50 rfl k14 rfl rfl rfl (Nat.le_of_ble_eq_true rfl) rfl (Nat.le_of_ble_eq_true rfl) rfl (Nat.le_of_ble_eq_true rfl) rfl rfl ?_
          exact me_iret C hE (Nat.le_of_ble_eq_true rfl) (Nat.le_of_ble_eq_true rfl) rfl dX12_claim_53 (mm_ri hf)
        · have hf := mm_if_f c19 hf
          refine me_iconst (v := (-1 : Int32)) (q := 43) C dX12_claim_42 (by decide) rfl ?_
          refine me_goto (q := 53) C dX12_claim_43 (by decide) ?_
          exact me_iret C hE (Nat.le_of_ble_eq_true rfl) (Nat.le_of_ble_eq_true rfl) rfl dX12_claim_53 (mm_ri hf)
set_option maxRecDepth 100000 in
set_option maxHeartbeats 4000000 in
theorem cX12_chest_ok (l : Launch) {a0 : Nat} {a1 : Int32} {h : mm_H} {r : Int32} {h1 : mm_H} (hf : fX12_chest a0 a1 h = some (r, h1)) : mm_M l yX12_chest cX12_chest 2 (some .int) 4 0 0 [vR (some a0), vI a1] h (some (vI r)) h1 := by
  refine mm_enter (lv := [some (vR (some a0)), some (vI a1)]) (by decide) rfl (Nat.le_of_ble_eq_true rfl) ?_
  intro X hl C hE
  subst hl
  unfold fX12_chest at hf
  refine me_iload_n (q := 1) C dX12_chest_0 rfl rfl rfl ?_
  refine me_iconst (v := (0 : Int32)) (q := 2) C dX12_chest_1 (by decide) rfl ?_
  refine me_bipush (v := (9 : Int32)) (q := 4) C dX12_chest_2 (by decide) rfl ?_
  obtain ⟨v1, g2, e3, hf⟩ := mm_cl_some hf
  refine me_callS (q := 7) (c2 := 0) (s2 := 0) (st := []) C (cX12_in_ok _ e3) mt_X12_269 ms_X12_in dX12_chest_4 rfl rfl rfl (Nat.le_of_ble_eq_true rfl) rfl (Nat.le_of_ble_eq_true rfl) rfl (Nat.le_of_ble_eq_true rfl) rfl rfl ?_
  refine me_if_eq (q2 := 19) (q := 10) C dX12_chest_7 (by decide) rfl (fun c4 => ?_) (fun c4 => ?_)
  · have hf := mm_if_t c4 hf
    refine me_iconst (v := (-1 : Int32)) (q := 20) C dX12_chest_19 (by decide) rfl ?_
    exact me_iret C hE (Nat.le_of_ble_eq_true rfl) (Nat.le_of_ble_eq_true rfl) rfl dX12_chest_20 (mm_ri hf)
  · have hf := mm_if_f c4 hf
    refine me_aload_n (q := 11) C dX12_chest_10 rfl rfl rfl ?_
    obtain ⟨k5, hf⟩ := mm_ck_some hf
    refine me_getR (q := 14) C dX12_chest_11 mf_X12_25 rfl rfl k5 rfl ?_
    refine me_iload_n (q := 15) C dX12_chest_14 rfl rfl rfl ?_
    obtain ⟨u6, eu6, hf⟩ := mm_rf_some hf
    obtain ⟨k7, hf⟩ := mm_ck_some hf
    obtain ⟨k8, hf⟩ := mm_ck_some hf
    refine me_iald (q := 16) C dX12_chest_15 eu6 k7 k8 rfl ?_
    refine me_goto (q := 20) C dX12_chest_16 (by decide) ?_
    exact me_iret C hE (Nat.le_of_ble_eq_true rfl) (Nat.le_of_ble_eq_true rfl) rfl dX12_chest_20 (mm_ri hf)
set_option maxRecDepth 100000 in
set_option maxHeartbeats 4000000 in
theorem cX12_die_L25 {X : mm_X} (C : mm_C X cX12_die yX12_die 8 0 0) {r : Int32} {h1 : mm_H} (hE : mm_End X 0 0 (some .int) (some (vI r)) h1) {b0 : Nat} {b1 : Int32} {b2 : Int32} (K46 : mm_H → Option (Int32 × mm_H)) : ∀ (n : Nat) (x3 : Int32) (h : mm_H), fX12_die_L25 b0 b1 b2 K46 n x3 h = some (r, h1) → (∀ (h : mm_H), K46 h = some (r, h1) → mm_E X h 0 0 46 [some (vR (some b0)), some (vI b1), some (vI b2), none, none, none] []) → mm_E X h 0 0 25 [some (vR (some b0)), some (vI b1), some (vI b2), some (vI x3), none, none] [] := by
  intro n
  induction n with
  | zero =>
    intro x3 h hf
    exact absurd (show (none : Option (Int32 × mm_H)) = some (r, h1) from hf) (by simp)
  | succ n ih =>
    intro x3 h hf hk46
    have hf : fX12_die_L25_b b0 b1 b2 K46 (fX12_die_L25 b0 b1 b2 K46 n) x3 h = some (r, h1) := hf
    unfold fX12_die_L25_b at hf
    refine me_iload_n (q := 26) C dX12_die_25 rfl rfl rfl ?_
    refine me_aload_n (q := 27) C dX12_die_26 rfl rfl rfl ?_
    obtain ⟨k11, hf⟩ := mm_ck_some hf
    refine me_getI (q := 30) C dX12_die_27 mf_X12_472 rfl rfl k11 rfl ?_
    refine me_icmp_ge (q2 := 46) (q := 33) C dX12_die_30 (by decide) rfl (fun c12 => ?_) (fun c12 => ?_)
    · have hf := mm_if_t c12 hf
      refine me_mask [true, true, true, false, false, false] (lv2 := [some (vR (some b0)), some (vI b1), some (vI b2), none, none, none]) rfl ?_
      exact hk46 _ hf
    · have hf := mm_if_f c12 hf
      refine me_aload_n (q := 34) C dX12_die_33 rfl rfl rfl ?_
      refine me_getR (q := 37) C dX12_die_34 mf_X12_224 rfl rfl k11 rfl ?_
      refine me_iload_n (q := 38) C dX12_die_37 rfl rfl rfl ?_
      refine me_iconst (v := (0 : Int32)) (q := 39) C dX12_die_38 (by decide) rfl ?_
      obtain ⟨u13, eu13, hf⟩ := mm_rf_some hf
      obtain ⟨k14, hf⟩ := mm_ck_some hf
      obtain ⟨k15, hf⟩ := mm_ck_some hf
      obtain ⟨g16, eg16, hf⟩ := mm_lt_some hf
      refine me_zastH (q := 40) C eg16 dX12_die_39 eu13 k14 k15 rfl ?_
      obtain ⟨v17, ev17, hf⟩ := mm_lt_some hf
      refine me_iinc (q := 43) (v := v17) (lv2 := [some (vR (some b0)), some (vI b1), some (vI b2), some (vI v17), none, none]) C dX12_die_40 rfl (by rw [ev17]; rfl) (Nat.le_of_ble_eq_true rfl) rfl rfl rfl ?_
      refine me_goto (q := 25) C dX12_die_43 (by decide) ?_
      exact ih _ _ hf hk46
set_option maxRecDepth 100000 in
set_option maxHeartbeats 4000000 in
theorem cX12_die_L55 {X : mm_X} (C : mm_C X cX12_die yX12_die 8 0 0) {r : Int32} {h1 : mm_H} (hE : mm_End X 0 0 (some .int) (some (vI r)) h1) {b0 : Nat} {b1 : Int32} (K125 : Int32 → mm_H → Option (Int32 × mm_H)) : ∀ (n : Nat) (x3 : Int32) (x4 : Int32) (h : mm_H), fX12_die_L55 b0 b1 K125 n x3 x4 h = some (r, h1) → (∀ (y3 : Int32) (h : mm_H), K125 y3 h = some (r, h1) → mm_E X h 0 0 125 [some (vR (some b0)), some (vI b1), none, some (vI y3), none, none] []) → mm_E X h 0 0 55 [some (vR (some b0)), some (vI b1), none, some (vI x3), some (vI x4), none] [] := by
  intro n
  induction n with
  | zero =>
    intro x3 x4 h hf
    exact absurd (show (none : Option (Int32 × mm_H)) = some (r, h1) from hf) (by simp)
  | succ n ih =>
    intro x3 x4 h hf hk125
    have hf : fX12_die_L55_b b0 b1 K125 (fX12_die_L55 b0 b1 K125 n) x3 x4 h = some (r, h1) := hf
    unfold fX12_die_L55_b at hf
    refine me_iload (q := 57) C dX12_die_55 rfl rfl ?_
    refine me_aload_n (q := 58) C dX12_die_57 rfl rfl rfl ?_
    obtain ⟨k20, hf⟩ := mm_ck_some hf
    refine me_getI (q := 61) C dX12_die_58 mf_X12_472 rfl rfl k20 rfl ?_
    refine me_icmp_ge (q2 := 125) (q := 64) C dX12_die_61 (by decide) rfl (fun c21 => ?_) (fun c21 => ?_)
    · have hf := mm_if_t c21 hf
      refine me_mask [true, true, false, true, false, false] (lv2 := [some (vR (some b0)), some (vI b1), none, some (vI x3), none, none]) rfl ?_
      exact hk125 _ _ hf
    · have hf := mm_if_f c21 hf
      refine me_aload_n (q := 65) C dX12_die_64 rfl rfl rfl ?_
      refine me_getR (q := 68) C dX12_die_65 mf_X12_103 rfl rfl k20 rfl ?_
      refine me_iload (q := 70) C dX12_die_68 rfl rfl ?_
      obtain ⟨u22, eu22, hf⟩ := mm_rf_some hf
      obtain ⟨k23, hf⟩ := mm_ck_some hf
      obtain ⟨k24, hf⟩ := mm_ck_some hf
      refine me_iald (q := 71) C dX12_die_70 eu22 k23 k24 rfl ?_
      refine me_iload_n (q := 72) C dX12_die_71 rfl rfl rfl ?_
      obtain ⟨q26, eq26, hf⟩ := mm_jn_some hf
      have Hq26 : ∀ (v25 : Int32), q26 v25 = some (r, h1) → mm_E X h 0 0 119 [some (vR (some b0)), some (vI b1), none, some (vI v25), some (vI x4), none] [] := by
        intro v25 hf
        subst eq26
        obtain ⟨v27, ev27, hf⟩ := mm_lt_some hf
        refine me_iinc (q := 122) (v := v27) (lv2 := [some (vR (some b0)), some (vI b1), none, some (vI v25), some (vI v27), none]) C dX12_die_119 rfl (by rw [ev27]; rfl) (Nat.le_of_ble_eq_true rfl) rfl rfl rfl ?_
        refine me_goto (q := 55) C dX12_die_122 (by decide) ?_
        exact ih _ _ _ hf hk125
      refine me_icmp_ne (q2 := 119) (q := 75) C dX12_die_72 (by decide) rfl (fun c28 => ?_) (fun c28 => ?_)
      · have hf := mm_if_t c28 hf
        exact Hq26 _ hf
      · have hf := mm_if_f c28 hf
        refine me_aload_n (q := 76) C dX12_die_75 rfl rfl rfl ?_
        refine me_getR (q := 79) C dX12_die_76 mf_X12_112 rfl rfl k20 rfl ?_
        refine me_iload (q := 81) C dX12_die_79 rfl rfl ?_
        obtain ⟨u29, eu29, hf⟩ := mm_rf_some hf
        obtain ⟨k30, hf⟩ := mm_ck_some hf
        obtain ⟨k31, hf⟩ := mm_ck_some hf
        refine me_iald (q := 82) C dX12_die_81 eu29 k30 k31 rfl ?_
        refine me_if_le (q2 := 119) (q := 85) C dX12_die_82 (by decide) rfl (fun c32 => ?_) (fun c32 => ?_)
        · have hf := mm_if_t c32 hf
          exact Hq26 _ hf
        · have hf := mm_if_f c32 hf
          refine me_aload_n (q := 86) C dX12_die_85 rfl rfl rfl ?_
          refine me_getR (q := 89) C dX12_die_86 mf_X12_224 rfl rfl k20 rfl ?_
          refine me_iload (q := 91) C dX12_die_89 rfl rfl ?_
          obtain ⟨u33, eu33, hf⟩ := mm_rf_some hf
          obtain ⟨k34, hf⟩ := mm_ck_some hf
          obtain ⟨k35, hf⟩ := mm_ck_some hf
          refine me_zald (q := 92) C dX12_die_91 eu33 k34 k35 rfl ?_
          refine me_if_ne (q2 := 119) (q := 95) C dX12_die_92 (by decide) rfl (fun c36 => ?_) (fun c36 => ?_)
          · have hf := mm_if_t c36 hf
            exact Hq26 _ hf
          · have hf := mm_if_f c36 hf
            refine me_iload_n (q := 96) C dX12_die_95 rfl rfl rfl ?_
            refine me_iconst (v := (-1 : Int32)) (q := 97) C dX12_die_96 (by decide) rfl ?_
            obtain ⟨q37, eq37, hf⟩ := mm_jn_some hf
            have Hq37 : ∀ (_u : Unit), q37 _u = some (r, h1) → mm_E X h 0 0 116 [some (vR (some b0)), some (vI b1), none, none, some (vI x4), none] [] := by
              intro _u hf
              subst eq37
              refine me_iload (q := 118) C dX12_die_116 rfl rfl ?_
              refine me_istore_n (q := 119) (lv2 := [some (vR (some b0)), some (vI b1), none, some (vI x4), some (vI x4), none]) C dX12_die_118 rfl (Nat.le_of_ble_eq_true rfl) rfl rfl rfl ?_
              exact Hq26 _ hf
            refine me_icmp_eq (q2 := 116) (q := 100) C dX12_die_97 (by decide) rfl (fun c38 => ?_) (fun c38 => ?_)
            · have hf := mm_if_t c38 hf
              refine me_mask [true, true, false, false, true, false] (lv2 := [some (vR (some b0)), some (vI b1), none, none, some (vI x4), none]) rfl ?_
              exact Hq37 () hf
            · have hf := mm_if_f c38 hf
              refine me_aload_n (q := 101) C dX12_die_100 rfl rfl rfl ?_
              refine me_getR (q := 104) C dX12_die_101 mf_X12_115 rfl rfl k20 rfl ?_
              refine me_iload (q := 106) C dX12_die_104 rfl rfl ?_
              obtain ⟨u39, eu39, hf⟩ := mm_rf_some hf
              obtain ⟨k40, hf⟩ := mm_ck_some hf
              obtain ⟨k41, hf⟩ := mm_ck_some hf
              refine me_iald (q := 107) C dX12_die_106 eu39 k40 k41 rfl ?_
              refine me_aload_n (q := 108) C dX12_die_107 rfl rfl rfl ?_
              refine me_getR (q := 111) C dX12_die_108 mf_X12_115 rfl rfl k20 rfl ?_
              refine me_iload_n (q := 112) C dX12_die_111 rfl rfl rfl ?_
              obtain ⟨k42, hf⟩ := mm_ck_some hf
              refine me_iald (q := 113) C dX12_die_112 eu39 k40 k42 rfl ?_
              refine me_icmp_ge (q2 := 119) (q := 116) C dX12_die_113 (by decide) rfl (fun c43 => ?_) (fun c43 => ?_)
              · have hf := mm_if_t c43 hf
                exact Hq26 _ hf
              · have hf := mm_if_f c43 hf
                refine me_mask [true, true, false, false, true, false] (lv2 := [some (vR (some b0)), some (vI b1), none, none, some (vI x4), none]) rfl ?_
                exact Hq37 () hf
set_option maxRecDepth 100000 in
set_option maxHeartbeats 4000000 in
theorem cX12_die_L46 {X : mm_X} (C : mm_C X cX12_die yX12_die 8 0 0) {r : Int32} {h1 : mm_H} (hE : mm_End X 0 0 (some .int) (some (vI r)) h1) {b0 : Nat} {b1 : Int32} (K162 : mm_H → Option (Int32 × mm_H)) : ∀ (n : Nat) (x2 : Int32) (h : mm_H), fX12_die_L46 b0 b1 K162 n x2 h = some (r, h1) → (∀ (h : mm_H), K162 h = some (r, h1) → mm_E X h 0 0 162 [some (vR (some b0)), some (vI b1), none, none, none, none] []) → mm_E X h 0 0 46 [some (vR (some b0)), some (vI b1), some (vI x2), none, none, none] [] := by
  intro n
  induction n with
  | zero =>
    intro x2 h hf
    exact absurd (show (none : Option (Int32 × mm_H)) = some (r, h1) from hf) (by simp)
  | succ n ih =>
    intro x2 h hf hk162
    have hf : fX12_die_L46_b b0 b1 K162 (fX12_die_L46 b0 b1 K162 n) x2 h = some (r, h1) := hf
    unfold fX12_die_L46_b at hf
    refine me_iload_n (q := 47) C dX12_die_46 rfl rfl rfl ?_
    refine me_if_eq (q2 := 162) (q := 50) C dX12_die_47 (by decide) rfl (fun c19 => ?_) (fun c19 => ?_)
    · have hf := mm_if_t c19 hf
      refine me_mask [true, true, false, false, false, false] (lv2 := [some (vR (some b0)), some (vI b1), none, none, none, none]) rfl ?_
      exact hk162 _ hf
    · have hf := mm_if_f c19 hf
      refine me_iconst (v := (-1 : Int32)) (q := 51) C dX12_die_50 (by decide) rfl ?_
      refine me_istore_n (q := 52) (lv2 := [some (vR (some b0)), some (vI b1), some (vI x2), some (vI (-1 : Int32)), none, none]) C dX12_die_51 rfl (Nat.le_of_ble_eq_true rfl) rfl rfl rfl ?_
      refine me_iconst (v := (0 : Int32)) (q := 53) C dX12_die_52 (by decide) rfl ?_
      refine me_istore (q := 55) (lv2 := [some (vR (some b0)), some (vI b1), some (vI x2), some (vI (-1 : Int32)), some (vI (0 : Int32)), none]) C dX12_die_53 (Nat.le_of_ble_eq_true rfl) rfl rfl rfl ?_
      refine me_mask [true, true, false, true, true, false] (lv2 := [some (vR (some b0)), some (vI b1), none, some (vI (-1 : Int32)), some (vI (0 : Int32)), none]) rfl ?_
      refine cX12_die_L55 C hE _ _ _ _ _ hf ?_
      · intro z44 g45 hf
        refine me_iload_n (q := 126) C dX12_die_125 rfl rfl rfl ?_
        refine me_iconst (v := (-1 : Int32)) (q := 127) C dX12_die_126 (by decide) rfl ?_
        obtain ⟨q47, eq47, hf⟩ := mm_jn_some hf
        have Hq47 : ∀ (v46 : Int32), q47 v46 = some (r, h1) → mm_E X g45 0 0 135 [some (vR (some b0)), some (vI b1), none, some (vI z44), none, none] [vI v46] := by
          intro v46 hf
          subst eq47
          refine me_istore_n (q := 136) (lv2 := [some (vR (some b0)), some (vI b1), some (vI v46), some (vI z44), none, none]) C dX12_die_135 rfl (Nat.le_of_ble_eq_true rfl) rfl rfl rfl ?_
          refine me_iload_n (q := 137) C dX12_die_136 rfl rfl rfl ?_
          obtain ⟨q49, eq49, hf⟩ := mm_jn_some hf
          have Hq49 : ∀ (g48 : mm_H), q49 g48 = some (r, h1) → mm_E X g48 0 0 159 [some (vR (some b0)), some (vI b1), some (vI v46), none, none, none] [] := by
            intro g48 hf
            subst eq49
            refine me_goto (q := 46) C dX12_die_159 (by decide) ?_
            exact ih _ _ hf hk162
          refine me_if_eq (q2 := 159) (q := 140) C dX12_die_137 (by decide) rfl (fun c50 => ?_) (fun c50 => ?_)
          · have hf := mm_if_t c50 hf
            refine me_mask [true, true, true, false, false, false] (lv2 := [some (vR (some b0)), some (vI b1), some (vI v46), none, none, none]) rfl ?_
            exact Hq49 _ hf
          · have hf := mm_if_f c50 hf
            refine me_aload_n (q := 141) C dX12_die_140 rfl rfl rfl ?_
            refine me_iload_n (q := 142) C dX12_die_141 rfl rfl rfl ?_
            refine me_aload_n (q := 143) C dX12_die_142 rfl rfl rfl ?_
            obtain ⟨k51, hf⟩ := mm_ck_some hf
            refine me_getR (q := 146) C dX12_die_143 mf_X12_112 rfl rfl k51 rfl ?_
            refine me_iload_n (q := 147) C dX12_die_146 rfl rfl rfl ?_
            obtain ⟨u52, eu52, hf⟩ := mm_rf_some hf
            obtain ⟨k53, hf⟩ := mm_ck_some hf
            obtain ⟨k54, hf⟩ := mm_ck_some hf
            refine me_iald (q := 148) C dX12_die_147 eu52 k53 k54 rfl ?_
            obtain ⟨v55, g56, e57, hf⟩ := mm_cl_some hf
            refine me_callV (q := 151) (c2 := 0) (s2 := 0) (st := []) C (cX12_pays_ok _ e57) mt_X12_503 mv_X12_pays rfl (by decide) dX12_die_148 rfl k51 rfl rfl rfl (Nat.le_of_ble_eq_true rfl) rfl (Nat.le_of_ble_eq_true rfl) rfl (Nat.le_of_ble_eq_true rfl) rfl rfl ?_
            refine me_pop (q := 152) C dX12_die_151 rfl rfl ?_
            refine me_aload_n (q := 153) C dX12_die_152 rfl rfl rfl ?_
            obtain ⟨k58, hf⟩ := mm_ck_some hf
            refine me_getR (q := 156) C dX12_die_153 mf_X12_224 rfl rfl k58 rfl ?_
            refine me_iload_n (q := 157) C dX12_die_156 rfl rfl rfl ?_
            refine me_iconst (v := (1 : Int32)) (q := 158) C dX12_die_157 (by decide) rfl ?_
            obtain ⟨u59, eu59, hf⟩ := mm_rf_some hf
            obtain ⟨k60, hf⟩ := mm_ck_some hf
            obtain ⟨k61, hf⟩ := mm_ck_some hf
            obtain ⟨g62, eg62, hf⟩ := mm_lt_some hf
            refine me_zastH (q := 159) C eg62 dX12_die_158 eu59 k60 k61 rfl ?_
            refine me_mask [true, true, true, false, false, false] (lv2 := [some (vR (some b0)), some (vI b1), some (vI v46), none, none, none]) rfl ?_
            exact Hq49 _ hf
        refine me_icmp_eq (q2 := 134) (q := 130) C dX12_die_127 (by decide) rfl (fun c63 => ?_) (fun c63 => ?_)
        · have hf := mm_if_t c63 hf
          refine me_iconst (v := (0 : Int32)) (q := 135) C dX12_die_134 (by decide) rfl ?_
          exact Hq47 _ hf
        · have hf := mm_if_f c63 hf
          refine me_iconst (v := (1 : Int32)) (q := 131) C dX12_die_130 (by decide) rfl ?_
          refine me_goto (q := 135) C dX12_die_131 (by decide) ?_
          exact Hq47 _ hf
set_option maxRecDepth 100000 in
set_option maxHeartbeats 4000000 in
theorem cX12_die_L175 {X : mm_X} (C : mm_C X cX12_die yX12_die 8 0 0) {r : Int32} {h1 : mm_H} (hE : mm_End X 0 0 (some .int) (some (vI r)) h1) {b0 : Nat} {b1 : Int32} {b3 : Int32} (K221 : mm_H → Option (Int32 × mm_H)) : ∀ (n : Nat) (x4 : Int32) (h : mm_H), fX12_die_L175 b0 b1 b3 K221 n x4 h = some (r, h1) → (∀ (h : mm_H), K221 h = some (r, h1) → mm_E X h 0 0 221 [some (vR (some b0)), some (vI b1), none, some (vI b3), none, none] []) → mm_E X h 0 0 175 [some (vR (some b0)), some (vI b1), none, some (vI b3), some (vI x4), none] [] := by
  intro n
  induction n with
  | zero =>
    intro x4 h hf
    exact absurd (show (none : Option (Int32 × mm_H)) = some (r, h1) from hf) (by simp)
  | succ n ih =>
    intro x4 h hf hk221
    have hf : fX12_die_L175_b b0 b1 b3 K221 (fX12_die_L175 b0 b1 b3 K221 n) x4 h = some (r, h1) := hf
    unfold fX12_die_L175_b at hf
    refine me_iload (q := 177) C dX12_die_175 rfl rfl ?_
    refine me_aload_n (q := 178) C dX12_die_177 rfl rfl rfl ?_
    obtain ⟨k67, hf⟩ := mm_ck_some hf
    refine me_getR (q := 181) C dX12_die_178 mf_X12_130 rfl rfl k67 rfl ?_
    refine me_iload_n (q := 182) C dX12_die_181 rfl rfl rfl ?_
    obtain ⟨u68, eu68, hf⟩ := mm_rf_some hf
    obtain ⟨k69, hf⟩ := mm_ck_some hf
    obtain ⟨k70, hf⟩ := mm_ck_some hf
    refine me_iald (q := 183) C dX12_die_182 eu68 k69 k70 rfl ?_
    refine me_icmp_ge (q2 := 221) (q := 186) C dX12_die_183 (by decide) rfl (fun c71 => ?_) (fun c71 => ?_)
    · have hf := mm_if_t c71 hf
      refine me_mask [true, true, false, true, false, false] (lv2 := [some (vR (some b0)), some (vI b1), none, some (vI b3), none, none]) rfl ?_
      exact hk221 _ hf
    · have hf := mm_if_f c71 hf
      refine me_aload_n (q := 187) C dX12_die_186 rfl rfl rfl ?_
      refine me_getR (q := 190) C dX12_die_187 mf_X12_103 rfl rfl k67 rfl ?_
      refine me_iload_n (q := 191) C dX12_die_190 rfl rfl rfl ?_
      obtain ⟨u72, eu72, hf⟩ := mm_rf_some hf
      obtain ⟨k73, hf⟩ := mm_ck_some hf
      obtain ⟨k74, hf⟩ := mm_ck_some hf
      refine me_iald (q := 192) C dX12_die_191 eu72 k73 k74 rfl ?_
      refine me_iload_n (q := 193) C dX12_die_192 rfl rfl rfl ?_
      refine me_icmp_ne (q2 := 221) (q := 196) C dX12_die_193 (by decide) rfl (fun c75 => ?_) (fun c75 => ?_)
      · have hf := mm_if_t c75 hf
        refine me_mask [true, true, false, true, false, false] (lv2 := [some (vR (some b0)), some (vI b1), none, some (vI b3), none, none]) rfl ?_
        exact hk221 _ hf
      · have hf := mm_if_f c75 hf
        refine me_aload_n (q := 197) C dX12_die_196 rfl rfl rfl ?_
        refine me_iload_n (q := 198) C dX12_die_197 rfl rfl rfl ?_
        refine me_iload (q := 200) C dX12_die_198 rfl rfl ?_
        refine me_aload_n (q := 201) C dX12_die_200 rfl rfl rfl ?_
        refine me_getR (q := 204) C dX12_die_201 mf_X12_136 rfl rfl k67 rfl ?_
        refine me_iconst (v := (3 : Int32)) (q := 205) C dX12_die_204 (by decide) rfl ?_
        refine me_iload_n (q := 206) C dX12_die_205 rfl rfl rfl ?_
        refine me_imul (q := 207) C dX12_die_206 rfl ?_
        refine me_iload (q := 209) C dX12_die_207 rfl rfl ?_
        refine me_iadd (q := 210) C dX12_die_209 rfl ?_
        obtain ⟨u76, eu76, hf⟩ := mm_rf_some hf
        obtain ⟨k77, hf⟩ := mm_ck_some hf
        obtain ⟨k78, hf⟩ := mm_ck_some hf
        refine me_iald (q := 211) C dX12_die_210 eu76 k77 k78 rfl ?_
        obtain ⟨v79, g80, e81, hf⟩ := mm_cl_some hf
        refine me_callV (q := 214) (c2 := 0) (s2 := 0) (st := []) C (cX12_claims_ok _ e81) mt_X12_506 mv_X12_claims rfl (by decide) dX12_die_211 rfl k67 rfl rfl rfl (Nat.le_of_ble_eq_true rfl) rfl (Nat.le_of_ble_eq_true rfl) rfl (Nat.le_of_ble_eq_true rfl) rfl rfl ?_
        refine me_pop (q := 215) C dX12_die_214 rfl rfl ?_
        obtain ⟨v82, ev82, hf⟩ := mm_lt_some hf
        refine me_iinc (q := 218) (v := v82) (lv2 := [some (vR (some b0)), some (vI b1), none, some (vI b3), some (vI v82), none]) C dX12_die_215 rfl (by rw [ev82]; rfl) (Nat.le_of_ble_eq_true rfl) rfl rfl rfl ?_
        refine me_goto (q := 175) C dX12_die_218 (by decide) ?_
        exact ih _ _ hf hk221
set_option maxRecDepth 100000 in
set_option maxHeartbeats 4000000 in
theorem cX12_die_L164 {X : mm_X} (C : mm_C X cX12_die yX12_die 8 0 0) {r : Int32} {h1 : mm_H} (hE : mm_End X 0 0 (some .int) (some (vI r)) h1) {b0 : Nat} {b1 : Int32} (K227 : mm_H → Option (Int32 × mm_H)) : ∀ (n : Nat) (x3 : Int32) (h : mm_H), fX12_die_L164 b0 b1 K227 n x3 h = some (r, h1) → (∀ (h : mm_H), K227 h = some (r, h1) → mm_E X h 0 0 227 [some (vR (some b0)), some (vI b1), none, none, none, none] []) → mm_E X h 0 0 164 [some (vR (some b0)), some (vI b1), none, some (vI x3), none, none] [] := by
  intro n
  induction n with
  | zero =>
    intro x3 h hf
    exact absurd (show (none : Option (Int32 × mm_H)) = some (r, h1) from hf) (by simp)
  | succ n ih =>
    intro x3 h hf hk227
    have hf : fX12_die_L164_b b0 b1 K227 (fX12_die_L164 b0 b1 K227 n) x3 h = some (r, h1) := hf
    unfold fX12_die_L164_b at hf
    refine me_iload_n (q := 165) C dX12_die_164 rfl rfl rfl ?_
    refine me_aload_n (q := 166) C dX12_die_165 rfl rfl rfl ?_
    obtain ⟨k65, hf⟩ := mm_ck_some hf
    refine me_getI (q := 169) C dX12_die_166 mf_X12_472 rfl rfl k65 rfl ?_
    refine me_icmp_ge (q2 := 227) (q := 172) C dX12_die_169 (by decide) rfl (fun c66 => ?_) (fun c66 => ?_)
    · have hf := mm_if_t c66 hf
      refine me_mask [true, true, false, false, false, false] (lv2 := [some (vR (some b0)), some (vI b1), none, none, none, none]) rfl ?_
      exact hk227 _ hf
    · have hf := mm_if_f c66 hf
      refine me_iconst (v := (0 : Int32)) (q := 173) C dX12_die_172 (by decide) rfl ?_
      refine me_istore (q := 175) (lv2 := [some (vR (some b0)), some (vI b1), none, some (vI x3), some (vI (0 : Int32)), none]) C dX12_die_173 (Nat.le_of_ble_eq_true rfl) rfl rfl rfl ?_
      refine cX12_die_L175 C hE _ _ _ _ hf ?_
      · intro g83 hf
        obtain ⟨v84, ev84, hf⟩ := mm_lt_some hf
        refine me_iinc (q := 224) (v := v84) (lv2 := [some (vR (some b0)), some (vI b1), none, some (vI v84), none, none]) C dX12_die_221 rfl (by rw [ev84]; rfl) (Nat.le_of_ble_eq_true rfl) rfl rfl rfl ?_
        refine me_goto (q := 164) C dX12_die_224 (by decide) ?_
        exact ih _ _ hf hk227
set_option maxRecDepth 100000 in
set_option maxHeartbeats 4000000 in
theorem cX12_die_L232 {X : mm_X} (C : mm_C X cX12_die yX12_die 8 0 0) {r : Int32} {h1 : mm_H} (hE : mm_End X 0 0 (some .int) (some (vI r)) h1) {b0 : Nat} {b1 : Int32} (K284 : Int32 → mm_H → Option (Int32 × mm_H)) : ∀ (n : Nat) (x3 : Int32) (x4 : Int32) (h : mm_H), fX12_die_L232 b0 b1 K284 n x3 x4 h = some (r, h1) → (∀ (y3 : Int32) (h : mm_H), K284 y3 h = some (r, h1) → mm_E X h 0 0 284 [some (vR (some b0)), some (vI b1), none, some (vI y3), none, none] []) → mm_E X h 0 0 232 [some (vR (some b0)), some (vI b1), none, some (vI x3), some (vI x4), none] [] := by
  intro n
  induction n with
  | zero =>
    intro x3 x4 h hf
    exact absurd (show (none : Option (Int32 × mm_H)) = some (r, h1) from hf) (by simp)
  | succ n ih =>
    intro x3 x4 h hf hk284
    have hf : fX12_die_L232_b b0 b1 K284 (fX12_die_L232 b0 b1 K284 n) x3 x4 h = some (r, h1) := hf
    unfold fX12_die_L232_b at hf
    refine me_iload (q := 234) C dX12_die_232 rfl rfl ?_
    refine me_aload_n (q := 235) C dX12_die_234 rfl rfl rfl ?_
    obtain ⟨k86, hf⟩ := mm_ck_some hf
    refine me_getI (q := 238) C dX12_die_235 mf_X12_276 rfl rfl k86 rfl ?_
    refine me_icmp_ge (q2 := 284) (q := 241) C dX12_die_238 (by decide) rfl (fun c87 => ?_) (fun c87 => ?_)
    · have hf := mm_if_t c87 hf
      refine me_mask [true, true, false, true, false, false] (lv2 := [some (vR (some b0)), some (vI b1), none, some (vI x3), none, none]) rfl ?_
      exact hk284 _ _ hf
    · have hf := mm_if_f c87 hf
      refine me_iload_n (q := 242) C dX12_die_241 rfl rfl rfl ?_
      refine me_iconst (v := (-1 : Int32)) (q := 243) C dX12_die_242 (by decide) rfl ?_
      refine me_icmp_ne (q2 := 284) (q := 246) C dX12_die_243 (by decide) rfl (fun c88 => ?_) (fun c88 => ?_)
      · have hf := mm_if_t c88 hf
        refine me_mask [true, true, false, true, false, false] (lv2 := [some (vR (some b0)), some (vI b1), none, some (vI x3), none, none]) rfl ?_
        exact hk284 _ _ hf
      · have hf := mm_if_f c88 hf
        refine me_aload_n (q := 247) C dX12_die_246 rfl rfl rfl ?_
        refine me_iload (q := 249) C dX12_die_247 rfl rfl ?_
        obtain ⟨v89, g90, e91, hf⟩ := mm_cl_some hf
        refine me_callV (q := 252) (c2 := 0) (s2 := 0) (st := []) C (cX12_isThere_ok _ e91) mt_X12_285 mv_X12_isThere rfl (by decide) dX12_die_249 rfl k86 rfl rfl rfl (Nat.le_of_ble_eq_true rfl) rfl (Nat.le_of_ble_eq_true rfl) rfl (Nat.le_of_ble_eq_true rfl) rfl rfl ?_
        obtain ⟨q93, eq93, hf⟩ := mm_jn_some hf
        have Hq93 : ∀ (v92 : Int32), q93 v92 = some (r, h1) → mm_E X g90 0 0 277 [some (vR (some b0)), some (vI b1), none, none, some (vI x4), none] [vI v92] := by
          intro v92 hf
          subst eq93
          refine me_istore_n (q := 278) (lv2 := [some (vR (some b0)), some (vI b1), none, some (vI v92), some (vI x4), none]) C dX12_die_277 rfl (Nat.le_of_ble_eq_true rfl) rfl rfl rfl ?_
          obtain ⟨v94, ev94, hf⟩ := mm_lt_some hf
          refine me_iinc (q := 281) (v := v94) (lv2 := [some (vR (some b0)), some (vI b1), none, some (vI v92), some (vI v94), none]) C dX12_die_278 rfl (by rw [ev94]; rfl) (Nat.le_of_ble_eq_true rfl) rfl rfl rfl ?_
          refine me_goto (q := 232) C dX12_die_281 (by decide) ?_
          exact ih _ _ _ hf hk284
        obtain ⟨q95, eq95, hf⟩ := mm_jn_some hf
        have Hq95 : ∀ (_u : Unit), q95 _u = some (r, h1) → mm_E X g90 0 0 276 [some (vR (some b0)), some (vI b1), none, none, some (vI x4), none] [] := by
          intro _u hf
          subst eq95
          refine me_iconst (v := (-1 : Int32)) (q := 277) C dX12_die_276 (by decide) rfl ?_
          exact Hq93 _ hf
        refine me_if_eq (q2 := 276) (q := 255) C dX12_die_252 (by decide) rfl (fun c96 => ?_) (fun c96 => ?_)
        · have hf := mm_if_t c96 hf
          refine me_mask [true, true, false, false, true, false] (lv2 := [some (vR (some b0)), some (vI b1), none, none, some (vI x4), none]) rfl ?_
          exact Hq95 () hf
        · have hf := mm_if_f c96 hf
          refine me_aload_n (q := 256) C dX12_die_255 rfl rfl rfl ?_
          obtain ⟨k97, hf⟩ := mm_ck_some hf
          refine me_getR (q := 259) C dX12_die_256 mf_X12_9 rfl rfl k97 rfl ?_
          refine me_iload (q := 261) C dX12_die_259 rfl rfl ?_
          obtain ⟨u98, eu98, hf⟩ := mm_rf_some hf
          obtain ⟨k99, hf⟩ := mm_ck_some hf
          obtain ⟨k100, hf⟩ := mm_ck_some hf
          refine me_iald (q := 262) C dX12_die_261 eu98 k99 k100 rfl ?_
          refine me_aload_n (q := 263) C dX12_die_262 rfl rfl rfl ?_
          refine me_getR (q := 266) C dX12_die_263 mf_X12_9 rfl rfl k97 rfl ?_
          refine me_iload_n (q := 267) C dX12_die_266 rfl rfl rfl ?_
          obtain ⟨k101, hf⟩ := mm_ck_some hf
          refine me_iald (q := 268) C dX12_die_267 eu98 k99 k101 rfl ?_
          refine me_icmp_ne (q2 := 276) (q := 271) C dX12_die_268 (by decide) rfl (fun c102 => ?_) (fun c102 => ?_)
          · have hf := mm_if_t c102 hf
            refine me_mask [true, true, false, false, true, false] (lv2 := [some (vR (some b0)), some (vI b1), none, none, some (vI x4), none]) rfl ?_
            exact Hq95 () hf
          · have hf := mm_if_f c102 hf
            refine me_iload (q := 273) C dX12_die_271 rfl rfl ?_
            refine me_goto (q := 277) C dX12_die_273 (by decide) ?_
            refine me_mask [true, true, false, false, true, false] (lv2 := [some (vR (some b0)), some (vI b1), none, none, some (vI x4), none]) rfl ?_
            exact Hq93 _ hf
set_option maxRecDepth 100000 in
set_option maxHeartbeats 4000000 in
theorem cX12_die_L331 {X : mm_X} (C : mm_C X cX12_die yX12_die 8 0 0) {r : Int32} {h1 : mm_H} (hE : mm_End X 0 0 (some .int) (some (vI r)) h1) {b0 : Nat} {b1 : Int32} {b3 : Int32} {b4 : Int32} (K396 : mm_H → Option (Int32 × mm_H)) : ∀ (n : Nat) (x5 : Int32) (h : mm_H), fX12_die_L331 b0 b1 b3 b4 K396 n x5 h = some (r, h1) → (∀ (h : mm_H), K396 h = some (r, h1) → mm_E X h 0 0 396 [some (vR (some b0)), some (vI b1), none, some (vI b3), some (vI b4), none] []) → mm_E X h 0 0 331 [some (vR (some b0)), some (vI b1), none, some (vI b3), some (vI b4), some (vI x5)] [] := by
  intro n
  induction n with
  | zero =>
    intro x5 h hf
    exact absurd (show (none : Option (Int32 × mm_H)) = some (r, h1) from hf) (by simp)
  | succ n ih =>
    intro x5 h hf hk396
    have hf : fX12_die_L331_b b0 b1 b3 b4 K396 (fX12_die_L331 b0 b1 b3 b4 K396 n) x5 h = some (r, h1) := hf
    unfold fX12_die_L331_b at hf
    refine me_iload (q := 333) C dX12_die_331 rfl rfl ?_
    refine me_aload_n (q := 334) C dX12_die_333 rfl rfl rfl ?_
    obtain ⟨k112, hf⟩ := mm_ck_some hf
    refine me_getR (q := 337) C dX12_die_334 mf_X12_130 rfl rfl k112 rfl ?_
    refine me_iload (q := 339) C dX12_die_337 rfl rfl ?_
    obtain ⟨u113, eu113, hf⟩ := mm_rf_some hf
    obtain ⟨k114, hf⟩ := mm_ck_some hf
    obtain ⟨k115, hf⟩ := mm_ck_some hf
    refine me_iald (q := 340) C dX12_die_339 eu113 k114 k115 rfl ?_
    refine me_icmp_ge (q2 := 396) (q := 343) C dX12_die_340 (by decide) rfl (fun c116 => ?_) (fun c116 => ?_)
    · have hf := mm_if_t c116 hf
      refine me_mask [true, true, false, true, true, false] (lv2 := [some (vR (some b0)), some (vI b1), none, some (vI b3), some (vI b4), none]) rfl ?_
      exact hk396 _ hf
    · have hf := mm_if_f c116 hf
      refine me_aload_n (q := 344) C dX12_die_343 rfl rfl rfl ?_
      refine me_getR (q := 347) C dX12_die_344 mf_X12_139 rfl rfl k112 rfl ?_
      refine me_iconst (v := (3 : Int32)) (q := 348) C dX12_die_347 (by decide) rfl ?_
      refine me_iload (q := 350) C dX12_die_348 rfl rfl ?_
      refine me_imul (q := 351) C dX12_die_350 rfl ?_
      refine me_iload (q := 353) C dX12_die_351 rfl rfl ?_
      refine me_iadd (q := 354) C dX12_die_353 rfl ?_
      obtain ⟨u117, eu117, hf⟩ := mm_rf_some hf
      obtain ⟨k118, hf⟩ := mm_ck_some hf
      obtain ⟨k119, hf⟩ := mm_ck_some hf
      refine me_iald (q := 355) C dX12_die_354 eu117 k118 k119 rfl ?_
      refine me_iload_n (q := 356) C dX12_die_355 rfl rfl rfl ?_
      obtain ⟨q121, eq121, hf⟩ := mm_jn_some hf
      have Hq121 : ∀ (g120 : mm_H), q121 g120 = some (r, h1) → mm_E X g120 0 0 390 [some (vR (some b0)), some (vI b1), none, some (vI b3), some (vI b4), some (vI x5)] [] := by
        intro g120 hf
        subst eq121
        obtain ⟨v122, ev122, hf⟩ := mm_lt_some hf
        refine me_iinc (q := 393) (v := v122) (lv2 := [some (vR (some b0)), some (vI b1), none, some (vI b3), some (vI b4), some (vI v122)]) C dX12_die_390 rfl (by rw [ev122]; rfl) (Nat.le_of_ble_eq_true rfl) rfl rfl rfl ?_
        refine me_goto (q := 331) C dX12_die_393 (by decide) ?_
        exact ih _ _ hf hk396
      refine me_icmp_ne (q2 := 390) (q := 359) C dX12_die_356 (by decide) rfl (fun c123 => ?_) (fun c123 => ?_)
      · have hf := mm_if_t c123 hf
        exact Hq121 _ hf
      · have hf := mm_if_f c123 hf
        refine me_aload_n (q := 360) C dX12_die_359 rfl rfl rfl ?_
        refine me_getR (q := 363) C dX12_die_360 mf_X12_139 rfl rfl k112 rfl ?_
        refine me_iconst (v := (3 : Int32)) (q := 364) C dX12_die_363 (by decide) rfl ?_
        refine me_iload (q := 366) C dX12_die_364 rfl rfl ?_
        refine me_imul (q := 367) C dX12_die_366 rfl ?_
        refine me_iload (q := 369) C dX12_die_367 rfl rfl ?_
        refine me_iadd (q := 370) C dX12_die_369 rfl ?_
        refine me_iload_n (q := 371) C dX12_die_370 rfl rfl rfl ?_
        obtain ⟨k124, hf⟩ := mm_ck_some hf
        obtain ⟨g125, eg125, hf⟩ := mm_lt_some hf
        refine me_iastH (q := 372) C eg125 dX12_die_371 eu117 k118 k124 rfl ?_
        refine me_aload_n (q := 373) C dX12_die_372 rfl rfl rfl ?_
        refine me_getR (q := 376) C dX12_die_373 mf_X12_142 rfl rfl (mm_kI eg125 k112) rfl ?_
        refine me_iconst (v := (3 : Int32)) (q := 377) C dX12_die_376 (by decide) rfl ?_
        refine me_iload (q := 379) C dX12_die_377 rfl rfl ?_
        refine me_imul (q := 380) C dX12_die_379 rfl ?_
        refine me_iload (q := 382) C dX12_die_380 rfl rfl ?_
        refine me_iadd (q := 383) C dX12_die_382 rfl ?_
        refine me_aload_n (q := 384) C dX12_die_383 rfl rfl rfl ?_
        refine me_getR (q := 387) C dX12_die_384 mf_X12_9 rfl rfl (mm_kI eg125 k112) rfl ?_
        refine me_iload_n (q := 388) C dX12_die_387 rfl rfl rfl ?_
        obtain ⟨u126, eu126, hf⟩ := mm_rf_some hf
        obtain ⟨k127, hf⟩ := mm_ck_some hf
        obtain ⟨k128, hf⟩ := mm_ck_some hf
        refine me_iald (q := 389) C dX12_die_388 eu126 k127 k128 rfl ?_
        obtain ⟨u129, eu129, hf⟩ := mm_rf_some hf
        obtain ⟨k130, hf⟩ := mm_ck_some hf
        obtain ⟨k131, hf⟩ := mm_ck_some hf
        obtain ⟨g132, eg132, hf⟩ := mm_lt_some hf
        refine me_iastH (q := 390) C eg132 dX12_die_389 eu129 k130 k131 rfl ?_
        exact Hq121 _ hf
set_option maxRecDepth 100000 in
set_option maxHeartbeats 4000000 in
theorem cX12_die_L287 {X : mm_X} (C : mm_C X cX12_die yX12_die 8 0 0) {r : Int32} {h1 : mm_H} (hE : mm_End X 0 0 (some .int) (some (vI r)) h1) {b0 : Nat} {b1 : Int32} {b3 : Int32} (K402 : mm_H → Option (Int32 × mm_H)) : ∀ (n : Nat) (x4 : Int32) (h : mm_H), fX12_die_L287 b0 b1 b3 K402 n x4 h = some (r, h1) → (∀ (h : mm_H), K402 h = some (r, h1) → mm_E X h 0 0 402 [some (vR (some b0)), some (vI b1), none, some (vI b3), none, none] []) → mm_E X h 0 0 287 [some (vR (some b0)), some (vI b1), none, some (vI b3), some (vI x4), none] [] := by
  intro n
  induction n with
  | zero =>
    intro x4 h hf
    exact absurd (show (none : Option (Int32 × mm_H)) = some (r, h1) from hf) (by simp)
  | succ n ih =>
    intro x4 h hf hk402
    have hf : fX12_die_L287_b b0 b1 b3 K402 (fX12_die_L287 b0 b1 b3 K402 n) x4 h = some (r, h1) := hf
    unfold fX12_die_L287_b at hf
    refine me_iload (q := 289) C dX12_die_287 rfl rfl ?_
    refine me_aload_n (q := 290) C dX12_die_289 rfl rfl rfl ?_
    obtain ⟨k105, hf⟩ := mm_ck_some hf
    refine me_getI (q := 293) C dX12_die_290 mf_X12_472 rfl rfl k105 rfl ?_
    refine me_icmp_ge (q2 := 402) (q := 296) C dX12_die_293 (by decide) rfl (fun c106 => ?_) (fun c106 => ?_)
    · have hf := mm_if_t c106 hf
      refine me_mask [true, true, false, true, false, false] (lv2 := [some (vR (some b0)), some (vI b1), none, some (vI b3), none, none]) rfl ?_
      exact hk402 _ hf
    · have hf := mm_if_f c106 hf
      refine me_aload_n (q := 297) C dX12_die_296 rfl rfl rfl ?_
      refine me_getR (q := 300) C dX12_die_297 mf_X12_124 rfl rfl k105 rfl ?_
      refine me_iload (q := 302) C dX12_die_300 rfl rfl ?_
      obtain ⟨u107, eu107, hf⟩ := mm_rf_some hf
      obtain ⟨k108, hf⟩ := mm_ck_some hf
      obtain ⟨k109, hf⟩ := mm_ck_some hf
      refine me_iald (q := 303) C dX12_die_302 eu107 k108 k109 rfl ?_
      refine me_iload_n (q := 304) C dX12_die_303 rfl rfl rfl ?_
      obtain ⟨q111, eq111, hf⟩ := mm_jn_some hf
      have Hq111 : ∀ (g110 : mm_H), q111 g110 = some (r, h1) → mm_E X g110 0 0 328 [some (vR (some b0)), some (vI b1), none, some (vI b3), some (vI x4), none] [] := by
        intro g110 hf
        subst eq111
        refine me_iconst (v := (0 : Int32)) (q := 329) C dX12_die_328 (by decide) rfl ?_
        refine me_istore (q := 331) (lv2 := [some (vR (some b0)), some (vI b1), none, some (vI b3), some (vI x4), some (vI (0 : Int32))]) C dX12_die_329 (Nat.le_of_ble_eq_true rfl) rfl rfl rfl ?_
        refine cX12_die_L331 C hE _ _ _ _ hf ?_
        · intro g133 hf
          obtain ⟨v134, ev134, hf⟩ := mm_lt_some hf
          refine me_iinc (q := 399) (v := v134) (lv2 := [some (vR (some b0)), some (vI b1), none, some (vI b3), some (vI v134), none]) C dX12_die_396 rfl (by rw [ev134]; rfl) (Nat.le_of_ble_eq_true rfl) rfl rfl rfl ?_
          refine me_goto (q := 287) C dX12_die_399 (by decide) ?_
          exact ih _ _ hf hk402
      refine me_icmp_ne (q2 := 328) (q := 307) C dX12_die_304 (by decide) rfl (fun c135 => ?_) (fun c135 => ?_)
      · have hf := mm_if_t c135 hf
        exact Hq111 _ hf
      · have hf := mm_if_f c135 hf
        refine me_aload_n (q := 308) C dX12_die_307 rfl rfl rfl ?_
        refine me_getR (q := 311) C dX12_die_308 mf_X12_124 rfl rfl k105 rfl ?_
        refine me_iload (q := 313) C dX12_die_311 rfl rfl ?_
        refine me_iload_n (q := 314) C dX12_die_313 rfl rfl rfl ?_
        obtain ⟨k136, hf⟩ := mm_ck_some hf
        obtain ⟨g137, eg137, hf⟩ := mm_lt_some hf
        refine me_iastH (q := 315) C eg137 dX12_die_314 eu107 k108 k136 rfl ?_
        refine me_aload_n (q := 316) C dX12_die_315 rfl rfl rfl ?_
        refine me_getR (q := 319) C dX12_die_316 mf_X12_127 rfl rfl (mm_kI eg137 k105) rfl ?_
        refine me_iload (q := 321) C dX12_die_319 rfl rfl ?_
        refine me_aload_n (q := 322) C dX12_die_321 rfl rfl rfl ?_
        refine me_getR (q := 325) C dX12_die_322 mf_X12_9 rfl rfl (mm_kI eg137 k105) rfl ?_
        refine me_iload_n (q := 326) C dX12_die_325 rfl rfl rfl ?_
        obtain ⟨u138, eu138, hf⟩ := mm_rf_some hf
        obtain ⟨k139, hf⟩ := mm_ck_some hf
        obtain ⟨k140, hf⟩ := mm_ck_some hf
        refine me_iald (q := 327) C dX12_die_326 eu138 k139 k140 rfl ?_
        obtain ⟨u141, eu141, hf⟩ := mm_rf_some hf
        obtain ⟨k142, hf⟩ := mm_ck_some hf
        obtain ⟨k143, hf⟩ := mm_ck_some hf
        obtain ⟨g144, eg144, hf⟩ := mm_lt_some hf
        refine me_iastH (q := 328) C eg144 dX12_die_327 eu141 k142 k143 rfl ?_
        exact Hq111 _ hf
set_option maxRecDepth 100000 in
set_option maxHeartbeats 4000000 in
theorem cX12_die_L433 {X : mm_X} (C : mm_C X cX12_die yX12_die 8 0 0) {r : Int32} {h1 : mm_H} (hE : mm_End X 0 0 (some .int) (some (vI r)) h1) {b0 : Nat} {b1 : Int32} {b3 : Int32} (K499 : mm_H → Option (Int32 × mm_H)) : ∀ (n : Nat) (x5 : Int32) (h : mm_H), fX12_die_L433 b0 b1 b3 K499 n x5 h = some (r, h1) → (∀ (h : mm_H), K499 h = some (r, h1) → mm_E X h 0 0 499 [none, none, none, some (vI b3), none, none] []) → mm_E X h 0 0 433 [some (vR (some b0)), some (vI b1), none, some (vI b3), none, some (vI x5)] [] := by
  intro n
  induction n with
  | zero =>
    intro x5 h hf
    exact absurd (show (none : Option (Int32 × mm_H)) = some (r, h1) from hf) (by simp)
  | succ n ih =>
    intro x5 h hf hk499
    have hf : fX12_die_L433_b b0 b1 b3 K499 (fX12_die_L433 b0 b1 b3 K499 n) x5 h = some (r, h1) := hf
    unfold fX12_die_L433_b at hf
    refine me_iload (q := 435) C dX12_die_433 rfl rfl ?_
    refine me_aload_n (q := 436) C dX12_die_435 rfl rfl rfl ?_
    obtain ⟨k158, hf⟩ := mm_ck_some hf
    refine me_getI (q := 439) C dX12_die_436 mf_X12_288 rfl rfl k158 rfl ?_
    refine me_icmp_ge (q2 := 499) (q := 442) C dX12_die_439 (by decide) rfl (fun c159 => ?_) (fun c159 => ?_)
    · have hf := mm_if_t c159 hf
      refine me_mask [false, false, false, true, false, false] (lv2 := [none, none, none, some (vI b3), none, none]) rfl ?_
      exact hk499 _ hf
    · have hf := mm_if_f c159 hf
      refine me_aload_n (q := 443) C dX12_die_442 rfl rfl rfl ?_
      refine me_getR (q := 446) C dX12_die_443 mf_X12_38 rfl rfl k158 rfl ?_
      refine me_iload (q := 448) C dX12_die_446 rfl rfl ?_
      obtain ⟨u160, eu160, hf⟩ := mm_rf_some hf
      obtain ⟨k161, hf⟩ := mm_ck_some hf
      obtain ⟨k162, hf⟩ := mm_ck_some hf
      refine me_iald (q := 449) C dX12_die_448 eu160 k161 k162 rfl ?_
      refine me_iload_n (q := 450) C dX12_die_449 rfl rfl rfl ?_
      obtain ⟨q164, eq164, hf⟩ := mm_jn_some hf
      have Hq164 : ∀ (g163 : mm_H), q164 g163 = some (r, h1) → mm_E X g163 0 0 493 [some (vR (some b0)), some (vI b1), none, some (vI b3), none, some (vI x5)] [] := by
        intro g163 hf
        subst eq164
        obtain ⟨v165, ev165, hf⟩ := mm_lt_some hf
        refine me_iinc (q := 496) (v := v165) (lv2 := [some (vR (some b0)), some (vI b1), none, some (vI b3), none, some (vI v165)]) C dX12_die_493 rfl (by rw [ev165]; rfl) (Nat.le_of_ble_eq_true rfl) rfl rfl rfl ?_
        refine me_goto (q := 433) C dX12_die_496 (by decide) ?_
        exact ih _ _ hf hk499
      refine me_icmp_ne (q2 := 493) (q := 453) C dX12_die_450 (by decide) rfl (fun c166 => ?_) (fun c166 => ?_)
      · have hf := mm_if_t c166 hf
        exact Hq164 _ hf
      · have hf := mm_if_f c166 hf
        refine me_aload_n (q := 454) C dX12_die_453 rfl rfl rfl ?_
        refine me_getR (q := 457) C dX12_die_454 mf_X12_38 rfl rfl k158 rfl ?_
        refine me_iload (q := 459) C dX12_die_457 rfl rfl ?_
        refine me_iload_n (q := 460) C dX12_die_459 rfl rfl rfl ?_
        refine me_iconst (v := (-1 : Int32)) (q := 461) C dX12_die_460 (by decide) rfl ?_
        obtain ⟨q168, eq168, hf⟩ := mm_jn_some hf
        have Hq168 : ∀ (v167 : Int32), q168 v167 = some (r, h1) → mm_E X h 0 0 469 [some (vR (some b0)), some (vI b1), none, some (vI b3), none, some (vI x5)] [vI v167, vI x5, vR (mm_r h b0 13)] := by
          intro v167 hf
          subst eq168
          obtain ⟨k169, hf⟩ := mm_ck_some hf
          obtain ⟨g170, eg170, hf⟩ := mm_lt_some hf
          refine me_iastH (q := 470) C eg170 dX12_die_469 eu160 k161 k169 rfl ?_
          refine me_aload_n (q := 471) C dX12_die_470 rfl rfl rfl ?_
          refine me_getR (q := 474) C dX12_die_471 mf_X12_35 rfl rfl (mm_kI eg170 k158) rfl ?_
          refine me_iload (q := 476) C dX12_die_474 rfl rfl ?_
          refine me_iload_n (q := 477) C dX12_die_476 rfl rfl rfl ?_
          refine me_iconst (v := (-1 : Int32)) (q := 478) C dX12_die_477 (by decide) rfl ?_
          obtain ⟨q172, eq172, hf⟩ := mm_jn_some hf
          have Hq172 : ∀ (v171 : Int32), q172 v171 = some (r, h1) → mm_E X g170 0 0 492 [some (vR (some b0)), some (vI b1), none, some (vI b3), none, some (vI x5)] [vI v171, vI x5, vR (mm_r g170 b0 12)] := by
            intro v171 hf
            subst eq172
            obtain ⟨u173, eu173, hf⟩ := mm_rf_some hf
            obtain ⟨k174, hf⟩ := mm_ck_some hf
            obtain ⟨k175, hf⟩ := mm_ck_some hf
            obtain ⟨g176, eg176, hf⟩ := mm_lt_some hf
            refine me_iastH (q := 493) C eg176 dX12_die_492 eu173 k174 k175 rfl ?_
            exact Hq164 _ hf
          refine me_icmp_ne (q2 := 485) (q := 481) C dX12_die_478 (by decide) rfl (fun c177 => ?_) (fun c177 => ?_)
          · have hf := mm_if_t c177 hf
            refine me_aload_n (q := 486) C dX12_die_485 rfl rfl rfl ?_
            refine me_getR (q := 489) C dX12_die_486 mf_X12_35 rfl rfl (mm_kI eg170 k158) rfl ?_
            refine me_iload (q := 491) C dX12_die_489 rfl rfl ?_
            obtain ⟨u178, eu178, hf⟩ := mm_rf_some hf
            obtain ⟨k179, hf⟩ := mm_ck_some hf
            obtain ⟨k180, hf⟩ := mm_ck_some hf
            refine me_iald (q := 492) C dX12_die_491 eu178 k179 k180 rfl ?_
            exact Hq172 _ hf
          · have hf := mm_if_f c177 hf
            refine me_iconst (v := (0 : Int32)) (q := 482) C dX12_die_481 (by decide) rfl ?_
            refine me_goto (q := 492) C dX12_die_482 (by decide) ?_
            exact Hq172 _ hf
        refine me_icmp_ne (q2 := 468) (q := 464) C dX12_die_461 (by decide) rfl (fun c181 => ?_) (fun c181 => ?_)
        · have hf := mm_if_t c181 hf
          refine me_iload_n (q := 469) C dX12_die_468 rfl rfl rfl ?_
          exact Hq168 _ hf
        · have hf := mm_if_f c181 hf
          refine me_iload_n (q := 465) C dX12_die_464 rfl rfl rfl ?_
          refine me_goto (q := 469) C dX12_die_465 (by decide) ?_
          exact Hq168 _ hf
set_option maxRecDepth 100000 in
set_option maxHeartbeats 4000000 in
theorem cX12_die_ok (l : Launch) {a0 : Nat} {a1 : Int32} {h : mm_H} {r : Int32} {h1 : mm_H} (hf : fX12_die a0 a1 h = some (r, h1)) : mm_M l yX12_die cX12_die 6 (some .int) 8 0 0 [vR (some a0), vI a1] h (some (vI r)) h1 := by
  refine mm_enter (lv := [some (vR (some a0)), some (vI a1), none, none, none, none]) (by decide) rfl (Nat.le_of_ble_eq_true rfl) ?_
  intro X hl C hE
  subst hl
  unfold fX12_die at hf
  refine me_aload_n (q := 1) C dX12_die_0 rfl rfl rfl ?_
  refine me_iload_n (q := 2) C dX12_die_1 rfl rfl rfl ?_
  obtain ⟨k1, hf⟩ := mm_ck_some hf
  obtain ⟨v2, g3, e4, hf⟩ := mm_cl_some hf
  refine me_callV (q := 5) (c2 := 0) (s2 := 0) (st := []) C (cX12_isThere_ok _ e4) mt_X12_285 mv_X12_isThere rfl (by decide) dX12_die_2 rfl k1 rfl rfl rfl (Nat.le_of_ble_eq_true rfl) rfl (Nat.le_of_ble_eq_true rfl) rfl (Nat.le_of_ble_eq_true rfl) rfl rfl ?_
  refine me_if_ne (q2 := 11) (q := 8) C dX12_die_5 (by decide) rfl (fun c5 => ?_) (fun c5 => ?_)
  · have hf := mm_if_t c5 hf
    refine me_aload_n (q := 12) C dX12_die_11 rfl rfl rfl ?_
    obtain ⟨k6, hf⟩ := mm_ck_some hf
    refine me_getR (q := 15) C dX12_die_12 mf_X12_19 rfl rfl k6 rfl ?_
    refine me_iload_n (q := 16) C dX12_die_15 rfl rfl rfl ?_
    refine me_aload_n (q := 17) C dX12_die_16 rfl rfl rfl ?_
    refine me_getI (q := 20) C dX12_die_17 mf_X12_273 rfl rfl k6 rfl ?_
    obtain ⟨u7, eu7, hf⟩ := mm_rf_some hf
    obtain ⟨k8, hf⟩ := mm_ck_some hf
    obtain ⟨k9, hf⟩ := mm_ck_some hf
    obtain ⟨g10, eg10, hf⟩ := mm_lt_some hf
    refine me_iastH (q := 21) C eg10 dX12_die_20 eu7 k8 k9 rfl ?_
    refine me_iconst (v := (1 : Int32)) (q := 22) C dX12_die_21 (by decide) rfl ?_
    refine me_istore_n (q := 23) (lv2 := [some (vR (some a0)), some (vI a1), some (vI (1 : Int32)), none, none, none]) C dX12_die_22 rfl (Nat.le_of_ble_eq_true rfl) rfl rfl rfl ?_
    refine me_iconst (v := (0 : Int32)) (q := 24) C dX12_die_23 (by decide) rfl ?_
    refine me_istore_n (q := 25) (lv2 := [some (vR (some a0)), some (vI a1), some (vI (1 : Int32)), some (vI (0 : Int32)), none, none]) C dX12_die_24 rfl (Nat.le_of_ble_eq_true rfl) rfl rfl rfl ?_
    refine cX12_die_L25 C hE _ _ _ _ hf ?_
    · intro g18 hf
      refine cX12_die_L46 C hE _ _ _ _ hf ?_
      · intro g64 hf
        refine me_iconst (v := (0 : Int32)) (q := 163) C dX12_die_162 (by decide) rfl ?_
        refine me_istore_n (q := 164) (lv2 := [some (vR (some a0)), some (vI a1), none, some (vI (0 : Int32)), none, none]) C dX12_die_163 rfl (Nat.le_of_ble_eq_true rfl) rfl rfl rfl ?_
        refine cX12_die_L164 C hE _ _ _ _ hf ?_
        · intro g85 hf
          refine me_iconst (v := (-1 : Int32)) (q := 228) C dX12_die_227 (by decide) rfl ?_
          refine me_istore_n (q := 229) (lv2 := [some (vR (some a0)), some (vI a1), none, some (vI (-1 : Int32)), none, none]) C dX12_die_228 rfl (Nat.le_of_ble_eq_true rfl) rfl rfl rfl ?_
          refine me_iconst (v := (0 : Int32)) (q := 230) C dX12_die_229 (by decide) rfl ?_
          refine me_istore (q := 232) (lv2 := [some (vR (some a0)), some (vI a1), none, some (vI (-1 : Int32)), some (vI (0 : Int32)), none]) C dX12_die_230 (Nat.le_of_ble_eq_true rfl) rfl rfl rfl ?_
          refine cX12_die_L232 C hE _ _ _ _ _ hf ?_
          · intro z103 g104 hf
            refine me_iconst (v := (0 : Int32)) (q := 285) C dX12_die_284 (by decide) rfl ?_
            refine me_istore (q := 287) (lv2 := [some (vR (some a0)), some (vI a1), none, some (vI z103), some (vI (0 : Int32)), none]) C dX12_die_285 (Nat.le_of_ble_eq_true rfl) rfl rfl rfl ?_
            refine cX12_die_L287 C hE _ _ _ _ hf ?_
            · intro g145 hf
              refine me_aload_n (q := 403) C dX12_die_402 rfl rfl rfl ?_
              obtain ⟨k146, hf⟩ := mm_ck_some hf
              refine me_getR (q := 406) C dX12_die_403 mf_X12_13 rfl rfl k146 rfl ?_
              refine me_iload_n (q := 407) C dX12_die_406 rfl rfl rfl ?_
              obtain ⟨u147, eu147, hf⟩ := mm_rf_some hf
              obtain ⟨k148, hf⟩ := mm_ck_some hf
              obtain ⟨k149, hf⟩ := mm_ck_some hf
              refine me_iald (q := 408) C dX12_die_407 eu147 k148 k149 rfl ?_
              obtain ⟨v150, ev150, hf⟩ := mm_lt_some hf
              refine me_topI ev150 ?_
              refine me_istore (q := 410) (lv2 := [some (vR (some a0)), some (vI a1), none, some (vI z103), some (vI v150), none]) C dX12_die_408 (Nat.le_of_ble_eq_true rfl) rfl rfl rfl ?_
              refine me_aload_n (q := 411) C dX12_die_410 rfl rfl rfl ?_
              refine me_getR (q := 414) C dX12_die_411 mf_X12_13 rfl rfl k146 rfl ?_
              refine me_iload_n (q := 415) C dX12_die_414 rfl rfl rfl ?_
              refine me_iconst (v := (0 : Int32)) (q := 416) C dX12_die_415 (by decide) rfl ?_
              obtain ⟨k151, hf⟩ := mm_ck_some hf
              obtain ⟨g152, eg152, hf⟩ := mm_lt_some hf
              refine me_iastH (q := 417) C eg152 dX12_die_416 eu147 k148 k151 rfl ?_
              refine me_aload_n (q := 418) C dX12_die_417 rfl rfl rfl ?_
              refine me_iload (q := 420) C dX12_die_418 rfl rfl ?_
              refine me_iload_n (q := 421) C dX12_die_420 rfl rfl rfl ?_
              refine me_aload_n (q := 422) C dX12_die_421 rfl rfl rfl ?_
              refine me_getR (q := 425) C dX12_die_422 mf_X12_9 rfl rfl (mm_kI eg152 k146) rfl ?_
              refine me_iload_n (q := 426) C dX12_die_425 rfl rfl rfl ?_
              obtain ⟨u153, eu153, hf⟩ := mm_rf_some hf
              obtain ⟨k154, hf⟩ := mm_ck_some hf
              obtain ⟨k155, hf⟩ := mm_ck_some hf
              refine me_iald (q := 427) C dX12_die_426 eu153 k154 k155 rfl ?_
              obtain ⟨_, g156, e157, hf⟩ := mm_cl_some hf
              refine me_callV (q := 430) (c2 := 0) (s2 := 0) (st := []) C (cX12_goes_ok _ e157) mt_X12_499 mv_X12_goes rfl (by decide) dX12_die_427 rfl (mm_kI eg152 k146) rfl rfl rfl (Nat.le_of_ble_eq_true rfl) rfl (Nat.le_of_ble_eq_true rfl) rfl (Nat.le_of_ble_eq_true rfl) rfl rfl ?_
              refine me_iconst (v := (0 : Int32)) (q := 431) C dX12_die_430 (by decide) rfl ?_
              refine me_istore (q := 433) (lv2 := [some (vR (some a0)), some (vI a1), none, some (vI z103), some (vI v150), some (vI (0 : Int32))]) C dX12_die_431 (Nat.le_of_ble_eq_true rfl) rfl rfl rfl ?_
              refine me_mask [true, true, false, true, false, true] (lv2 := [some (vR (some a0)), some (vI a1), none, some (vI z103), none, some (vI (0 : Int32))]) rfl ?_
              refine cX12_die_L433 C hE _ _ _ _ hf ?_
              · intro g182 hf
                refine me_iload_n (q := 500) C dX12_die_499 rfl rfl rfl ?_
                exact me_iret C hE (Nat.le_of_ble_eq_true rfl) (Nat.le_of_ble_eq_true rfl) rfl dX12_die_500 (mm_ri hf)
  · have hf := mm_if_f c5 hf
    refine me_bipush (v := (-2 : Int32)) (q := 10) C dX12_die_8 (by decide) rfl ?_
    exact me_iret C hE (Nat.le_of_ble_eq_true rfl) (Nat.le_of_ble_eq_true rfl) rfl dX12_die_10 (mm_ri hf)
set_option maxRecDepth 100000 in
set_option maxHeartbeats 4000000 in
theorem cX12_men_ok (l : Launch) {a0 : Nat} {a1 : Int32} {a2 : Int32} {h : mm_H} {r : Int32} {h1 : mm_H} (hf : fX12_men a0 a1 a2 h = some (r, h1)) : mm_M l yX12_men cX12_men 3 (some .int) 8 0 0 [vR (some a0), vI a1, vI a2] h (some (vI r)) h1 := by
  refine mm_enter (lv := [some (vR (some a0)), some (vI a1), some (vI a2)]) (by decide) rfl (Nat.le_of_ble_eq_true rfl) ?_
  intro X hl C hE
  subst hl
  unfold fX12_men at hf
  refine me_aload_n (q := 1) C dX12_men_0 rfl rfl rfl ?_
  refine me_iload_n (q := 2) C dX12_men_1 rfl rfl rfl ?_
  obtain ⟨k1, hf⟩ := mm_ck_some hf
  obtain ⟨v2, g3, e4, hf⟩ := mm_cl_some hf
  refine me_callV (q := 5) (c2 := 0) (s2 := 0) (st := []) C (cX12_isMan_ok _ e4) mt_X12_281 mv_X12_isMan rfl (by decide) dX12_men_2 rfl k1 rfl rfl rfl (Nat.le_of_ble_eq_true rfl) rfl (Nat.le_of_ble_eq_true rfl) rfl (Nat.le_of_ble_eq_true rfl) rfl rfl ?_
  refine me_if_ne (q2 := 10) (q := 8) C dX12_men_5 (by decide) rfl (fun c5 => ?_) (fun c5 => ?_)
  · have hf := mm_if_t c5 hf
    refine me_iload_n (q := 11) C dX12_men_10 rfl rfl rfl ?_
    by_cases c6 : a2 = 0
    · have hf := mm_if_t c6 hf
      refine me_tabIn (q := 56) C dX12_men_11 (by rw [c6]; decide) (by rw [c6]; decide) (by rw [c6]; rfl) (by decide) ?_
      refine me_aload_n (q := 57) C dX12_men_56 rfl rfl rfl ?_
      obtain ⟨k7, hf⟩ := mm_ck_some hf
      refine me_getR (q := 60) C dX12_men_57 mf_X12_9 rfl rfl k7 rfl ?_
      refine me_iload_n (q := 61) C dX12_men_60 rfl rfl rfl ?_
      obtain ⟨u8, eu8, hf⟩ := mm_rf_some hf
      obtain ⟨k9, hf⟩ := mm_ck_some hf
      obtain ⟨k10, hf⟩ := mm_ck_some hf
      refine me_iald (q := 62) C dX12_men_61 eu8 k9 k10 rfl ?_
      exact me_iret C hE (Nat.le_of_ble_eq_true rfl) (Nat.le_of_ble_eq_true rfl) rfl dX12_men_62 (mm_ri hf)
    have hf := mm_if_f c6 hf
    by_cases c11 : a2 = 1
    · have hf := mm_if_t c11 hf
      refine me_tabIn (q := 63) C dX12_men_11 (by rw [c11]; decide) (by rw [c11]; decide) (by rw [c11]; rfl) (by decide) ?_
      refine me_aload_n (q := 64) C dX12_men_63 rfl rfl rfl ?_
      refine me_iload_n (q := 65) C dX12_men_64 rfl rfl rfl ?_
      obtain ⟨k12, hf⟩ := mm_ck_some hf
      obtain ⟨v13, g14, e15, hf⟩ := mm_cl_some hf
      refine me_callV (q := 68) (c2 := 0) (s2 := 0) (st := []) C (cX12_isThere_ok _ e15) mt_X12_285 mv_X12_isThere rfl (by decide) dX12_men_65 rfl k12 rfl rfl rfl (Nat.le_of_ble_eq_true rfl) rfl (Nat.le_of_ble_eq_true rfl) rfl (Nat.le_of_ble_eq_true rfl) rfl rfl ?_
      refine me_if_eq (q2 := 75) (q := 71) C dX12_men_68 (by decide) rfl (fun c16 => ?_) (fun c16 => ?_)
      · have hf := mm_if_t c16 hf
        refine me_iconst (v := (0 : Int32)) (q := 76) C dX12_men_75 (by decide) rfl ?_
        exact me_iret C hE (Nat.le_of_ble_eq_true rfl) (Nat.le_of_ble_eq_true rfl) rfl dX12_men_76 (mm_ri hf)
      · have hf := mm_if_f c16 hf
        refine me_iconst (v := (1 : Int32)) (q := 72) C dX12_men_71 (by decide) rfl ?_
        refine me_goto (q := 76) C dX12_men_72 (by decide) ?_
        exact me_iret C hE (Nat.le_of_ble_eq_true rfl) (Nat.le_of_ble_eq_true rfl) rfl dX12_men_76 (mm_ri hf)
    have hf := mm_if_f c11 hf
    by_cases c17 : a2 = 2
    · have hf := mm_if_t c17 hf
      refine me_tabIn (q := 77) C dX12_men_11 (by rw [c17]; decide) (by rw [c17]; decide) (by rw [c17]; rfl) (by decide) ?_
      refine me_aload_n (q := 78) C dX12_men_77 rfl rfl rfl ?_
      obtain ⟨k18, hf⟩ := mm_ck_some hf
      refine me_getR (q := 81) C dX12_men_78 mf_X12_13 rfl rfl k18 rfl ?_
      refine me_iload_n (q := 82) C dX12_men_81 rfl rfl rfl ?_
      obtain ⟨u19, eu19, hf⟩ := mm_rf_some hf
      obtain ⟨k20, hf⟩ := mm_ck_some hf
      obtain ⟨k21, hf⟩ := mm_ck_some hf
      refine me_iald (q := 83) C dX12_men_82 eu19 k20 k21 rfl ?_
      exact me_iret C hE (Nat.le_of_ble_eq_true rfl) (Nat.le_of_ble_eq_true rfl) rfl dX12_men_83 (mm_ri hf)
    have hf := mm_if_f c17 hf
    by_cases c22 : a2 = 3
    · have hf := mm_if_t c22 hf
      refine me_tabIn (q := 84) C dX12_men_11 (by rw [c22]; decide) (by rw [c22]; decide) (by rw [c22]; rfl) (by decide) ?_
      refine me_aload_n (q := 85) C dX12_men_84 rfl rfl rfl ?_
      refine me_iload_n (q := 86) C dX12_men_85 rfl rfl rfl ?_
      refine me_iconst (v := (0 : Int32)) (q := 87) C dX12_men_86 (by decide) rfl ?_
      obtain ⟨k23, hf⟩ := mm_ck_some hf
      obtain ⟨v24, g25, e26, hf⟩ := mm_cl_some hf
      refine me_callV (q := 90) (c2 := 0) (s2 := 0) (st := []) C (cX12_owes_ok _ e26) mt_X12_478 mv_X12_owes rfl (by decide) dX12_men_87 rfl k23 rfl rfl rfl (Nat.le_of_ble_eq_true rfl) rfl (Nat.le_of_ble_eq_true rfl) rfl (Nat.le_of_ble_eq_true rfl) rfl rfl ?_
      exact me_iret C hE (Nat.le_of_ble_eq_true rfl) (Nat.le_of_ble_eq_true rfl) rfl dX12_men_90 (mm_ri hf)
    have hf := mm_if_f c22 hf
    by_cases c27 : a2 = 4
    · have hf := mm_if_t c27 hf
      refine me_tabIn (q := 91) C dX12_men_11 (by rw [c27]; decide) (by rw [c27]; decide) (by rw [c27]; rfl) (by decide) ?_
      refine me_aload_n (q := 92) C dX12_men_91 rfl rfl rfl ?_
      refine me_iload_n (q := 93) C dX12_men_92 rfl rfl rfl ?_
      refine me_iconst (v := (1 : Int32)) (q := 94) C dX12_men_93 (by decide) rfl ?_
      obtain ⟨k28, hf⟩ := mm_ck_some hf
      obtain ⟨v29, g30, e31, hf⟩ := mm_cl_some hf
      refine me_callV (q := 97) (c2 := 0) (s2 := 0) (st := []) C (cX12_owes_ok _ e31) mt_X12_478 mv_X12_owes rfl (by decide) dX12_men_94 rfl k28 rfl rfl rfl (Nat.le_of_ble_eq_true rfl) rfl (Nat.le_of_ble_eq_true rfl) rfl (Nat.le_of_ble_eq_true rfl) rfl rfl ?_
      exact me_iret C hE (Nat.le_of_ble_eq_true rfl) (Nat.le_of_ble_eq_true rfl) rfl dX12_men_97 (mm_ri hf)
    have hf := mm_if_f c27 hf
    by_cases c32 : a2 = 5
    · have hf := mm_if_t c32 hf
      refine me_tabIn (q := 98) C dX12_men_11 (by rw [c32]; decide) (by rw [c32]; decide) (by rw [c32]; rfl) (by decide) ?_
      refine me_aload_n (q := 99) C dX12_men_98 rfl rfl rfl ?_
      obtain ⟨k33, hf⟩ := mm_ck_some hf
      refine me_getR (q := 102) C dX12_men_99 mf_X12_28 rfl rfl k33 rfl ?_
      refine me_iload_n (q := 103) C dX12_men_102 rfl rfl rfl ?_
      obtain ⟨u34, eu34, hf⟩ := mm_rf_some hf
      obtain ⟨k35, hf⟩ := mm_ck_some hf
      obtain ⟨k36, hf⟩ := mm_ck_some hf
      refine me_zald (q := 104) C dX12_men_103 eu34 k35 k36 rfl ?_
      refine me_if_eq (q2 := 111) (q := 107) C dX12_men_104 (by decide) rfl (fun c37 => ?_) (fun c37 => ?_)
      · have hf := mm_if_t c37 hf
        refine me_iconst (v := (0 : Int32)) (q := 112) C dX12_men_111 (by decide) rfl ?_
        exact me_iret C hE (Nat.le_of_ble_eq_true rfl) (Nat.le_of_ble_eq_true rfl) rfl dX12_men_112 (mm_ri hf)
      · have hf := mm_if_f c37 hf
        refine me_iconst (v := (1 : Int32)) (q := 108) C dX12_men_107 (by decide) rfl ?_
        refine me_goto (q := 112) C dX12_men_108 (by decide) ?_
        exact me_iret C hE (Nat.le_of_ble_eq_true rfl) (Nat.le_of_ble_eq_true rfl) rfl dX12_men_112 (mm_ri hf)
    have hf := mm_if_f c32 hf
    by_cases c38 : a2 = 6
    · have hf := mm_if_t c38 hf
      refine me_tabIn (q := 113) C dX12_men_11 (by rw [c38]; decide) (by rw [c38]; decide) (by rw [c38]; rfl) (by decide) ?_
      refine me_aload_n (q := 114) C dX12_men_113 rfl rfl rfl ?_
      obtain ⟨k39, hf⟩ := mm_ck_some hf
      refine me_getR (q := 117) C dX12_men_114 mf_X12_16 rfl rfl k39 rfl ?_
      refine me_iload_n (q := 118) C dX12_men_117 rfl rfl rfl ?_
      obtain ⟨u40, eu40, hf⟩ := mm_rf_some hf
      obtain ⟨k41, hf⟩ := mm_ck_some hf
      obtain ⟨k42, hf⟩ := mm_ck_some hf
      refine me_iald (q := 119) C dX12_men_118 eu40 k41 k42 rfl ?_
      exact me_iret C hE (Nat.le_of_ble_eq_true rfl) (Nat.le_of_ble_eq_true rfl) rfl dX12_men_119 (mm_ri hf)
    have hf := mm_if_f c38 hf
    by_cases c43 : a2 = 7
    · have hf := mm_if_t c43 hf
      refine me_tabIn (q := 120) C dX12_men_11 (by rw [c43]; decide) (by rw [c43]; decide) (by rw [c43]; rfl) (by decide) ?_
      refine me_aload_n (q := 121) C dX12_men_120 rfl rfl rfl ?_
      obtain ⟨k44, hf⟩ := mm_ck_some hf
      refine me_getR (q := 124) C dX12_men_121 mf_X12_19 rfl rfl k44 rfl ?_
      refine me_iload_n (q := 125) C dX12_men_124 rfl rfl rfl ?_
      obtain ⟨u45, eu45, hf⟩ := mm_rf_some hf
      obtain ⟨k46, hf⟩ := mm_ck_some hf
      obtain ⟨k47, hf⟩ := mm_ck_some hf
      refine me_iald (q := 126) C dX12_men_125 eu45 k46 k47 rfl ?_
      refine me_ldc_w (v := (100000 : Int32)) (q := 129) C dX12_men_126 mc_X12_280 rfl ?_
      refine me_icmp_ne (q2 := 136) (q := 132) C dX12_men_129 (by decide) rfl (fun c48 => ?_) (fun c48 => ?_)
      · have hf := mm_if_t c48 hf
        refine me_aload_n (q := 137) C dX12_men_136 rfl rfl rfl ?_
        refine me_getR (q := 140) C dX12_men_137 mf_X12_19 rfl rfl k44 rfl ?_
        refine me_iload_n (q := 141) C dX12_men_140 rfl rfl rfl ?_
        obtain ⟨k49, hf⟩ := mm_ck_some hf
        refine me_iald (q := 142) C dX12_men_141 eu45 k46 k49 rfl ?_
        exact me_iret C hE (Nat.le_of_ble_eq_true rfl) (Nat.le_of_ble_eq_true rfl) rfl dX12_men_142 (mm_ri hf)
      · have hf := mm_if_f c48 hf
        refine me_iconst (v := (-1 : Int32)) (q := 133) C dX12_men_132 (by decide) rfl ?_
        refine me_goto (q := 142) C dX12_men_133 (by decide) ?_
        exact me_iret C hE (Nat.le_of_ble_eq_true rfl) (Nat.le_of_ble_eq_true rfl) rfl dX12_men_142 (mm_ri hf)
    have hf := mm_if_f c43 hf
    refine me_tabOut (q := 143) C dX12_men_11 ?_ (by decide) ?_
    · by_cases hz : a2.toInt < 0 ∨ 7 < a2.toInt
      · exact hz
      · exfalso
        have hw : a2.toInt = 0 ∨ a2.toInt = 1 ∨ a2.toInt = 2 ∨ a2.toInt = 3 ∨ a2.toInt = 4 ∨ a2.toInt = 5 ∨ a2.toInt = 6 ∨ a2.toInt = 7 := by omega
        rcases hw with hw | hw | hw | hw | hw | hw | hw | hw
        · exact c6 (mm_sw hw)
        · exact c11 (mm_sw hw)
        · exact c17 (mm_sw hw)
        · exact c22 (mm_sw hw)
        · exact c27 (mm_sw hw)
        · exact c32 (mm_sw hw)
        · exact c38 (mm_sw hw)
        · exact c43 (mm_sw hw)
    · refine me_iconst (v := (-1 : Int32)) (q := 144) C dX12_men_143 (by decide) rfl ?_
      exact me_iret C hE (Nat.le_of_ble_eq_true rfl) (Nat.le_of_ble_eq_true rfl) rfl dX12_men_144 (mm_ri hf)
  · have hf := mm_if_f c5 hf
    refine me_iconst (v := (-1 : Int32)) (q := 9) C dX12_men_8 (by decide) rfl ?_
    exact me_iret C hE (Nat.le_of_ble_eq_true rfl) (Nat.le_of_ble_eq_true rfl) rfl dX12_men_9 (mm_ri hf)
set_option maxRecDepth 100000 in
set_option maxHeartbeats 4000000 in
theorem cX12_weigh_ok (l : Launch) {a0 : Nat} {a1 : Int32} {a2 : Int32} {a3 : Int32} {h : mm_H} {r : Int32} {h1 : mm_H} (hf : fX12_weigh a0 a1 a2 a3 h = some (r, h1)) : mm_M l yX12_weigh cX12_weigh 4 (some .int) 4 0 0 [vR (some a0), vI a1, vI a2, vI a3] h (some (vI r)) h1 := by
  refine mm_enter (lv := [some (vR (some a0)), some (vI a1), some (vI a2), some (vI a3)]) (by decide) rfl (Nat.le_of_ble_eq_true rfl) ?_
  intro X hl C hE
  subst hl
  unfold fX12_weigh at hf
  refine me_aload_n (q := 1) C dX12_weigh_0 rfl rfl rfl ?_
  obtain ⟨k1, hf⟩ := mm_ck_some hf
  refine me_getI (q := 4) C dX12_weigh_1 mf_X12_510 rfl rfl k1 rfl ?_
  refine me_bipush (v := (100 : Int32)) (q := 6) C dX12_weigh_4 (by decide) rfl ?_
  refine me_icmp_eq (q2 := 41) (q := 9) C dX12_weigh_6 (by decide) rfl (fun c2 => ?_) (fun c2 => ?_)
  · have hf := mm_if_t c2 hf
    refine me_iconst (v := (-1 : Int32)) (q := 42) C dX12_weigh_41 (by decide) rfl ?_
    exact me_iret C hE (Nat.le_of_ble_eq_true rfl) (Nat.le_of_ble_eq_true rfl) rfl dX12_weigh_42 (mm_ri hf)
  · have hf := mm_if_f c2 hf
    refine me_iload_n (q := 10) C dX12_weigh_9 rfl rfl rfl ?_
    refine me_iconst (v := (0 : Int32)) (q := 11) C dX12_weigh_10 (by decide) rfl ?_
    refine me_bipush (v := (7 : Int32)) (q := 13) C dX12_weigh_11 (by decide) rfl ?_
    obtain ⟨v3, g4, e5, hf⟩ := mm_cl_some hf
    refine me_callS (q := 16) (c2 := 0) (s2 := 0) (st := []) C (cX12_in_ok _ e5) mt_X12_269 ms_X12_in dX12_weigh_13 rfl rfl rfl (Nat.le_of_ble_eq_true rfl) rfl (Nat.le_of_ble_eq_true rfl) rfl (Nat.le_of_ble_eq_true rfl) rfl rfl ?_
    refine me_if_eq (q2 := 41) (q := 19) C dX12_weigh_16 (by decide) rfl (fun c6 => ?_) (fun c6 => ?_)
    · have hf := mm_if_t c6 hf
      refine me_iconst (v := (-1 : Int32)) (q := 42) C dX12_weigh_41 (by decide) rfl ?_
      exact me_iret C hE (Nat.le_of_ble_eq_true rfl) (Nat.le_of_ble_eq_true rfl) rfl dX12_weigh_42 (mm_ri hf)
    · have hf := mm_if_f c6 hf
      refine me_iload_n (q := 20) C dX12_weigh_19 rfl rfl rfl ?_
      refine me_iconst (v := (2 : Int32)) (q := 21) C dX12_weigh_20 (by decide) rfl ?_
      refine me_ldc_w (v := (100000 : Int32)) (q := 24) C dX12_weigh_21 mc_X12_280 rfl ?_
      obtain ⟨v7, g8, e9, hf⟩ := mm_cl_some hf
      refine me_callS (q := 27) (c2 := 0) (s2 := 0) (st := []) C (cX12_in_ok _ e9) mt_X12_269 ms_X12_in dX12_weigh_24 rfl rfl rfl (Nat.le_of_ble_eq_true rfl) rfl (Nat.le_of_ble_eq_true rfl) rfl (Nat.le_of_ble_eq_true rfl) rfl rfl ?_
      refine me_if_eq (q2 := 41) (q := 30) C dX12_weigh_27 (by decide) rfl (fun c10 => ?_) (fun c10 => ?_)
      · have hf := mm_if_t c10 hf
        refine me_iconst (v := (-1 : Int32)) (q := 42) C dX12_weigh_41 (by decide) rfl ?_
        exact me_iret C hE (Nat.le_of_ble_eq_true rfl) (Nat.le_of_ble_eq_true rfl) rfl dX12_weigh_42 (mm_ri hf)
      · have hf := mm_if_f c10 hf
        refine me_iload_n (q := 31) C dX12_weigh_30 rfl rfl rfl ?_
        refine me_iconst (v := (1 : Int32)) (q := 32) C dX12_weigh_31 (by decide) rfl ?_
        refine me_ldc_w (v := (100000 : Int32)) (q := 35) C dX12_weigh_32 mc_X12_280 rfl ?_
        obtain ⟨v11, g12, e13, hf⟩ := mm_cl_some hf
        refine me_callS (q := 38) (c2 := 0) (s2 := 0) (st := []) C (cX12_in_ok _ e13) mt_X12_269 ms_X12_in dX12_weigh_35 rfl rfl rfl (Nat.le_of_ble_eq_true rfl) rfl (Nat.le_of_ble_eq_true rfl) rfl (Nat.le_of_ble_eq_true rfl) rfl rfl ?_
        refine me_if_ne (q2 := 43) (q := 41) C dX12_weigh_38 (by decide) rfl (fun c14 => ?_) (fun c14 => ?_)
        · have hf := mm_if_t c14 hf
          refine me_aload_n (q := 44) C dX12_weigh_43 rfl rfl rfl ?_
          obtain ⟨k15, hf⟩ := mm_ck_some hf
          refine me_getR (q := 47) C dX12_weigh_44 mf_X12_152 rfl rfl k15 rfl ?_
          refine me_aload_n (q := 48) C dX12_weigh_47 rfl rfl rfl ?_
          refine me_getI (q := 51) C dX12_weigh_48 mf_X12_510 rfl rfl k15 rfl ?_
          refine me_iload_n (q := 52) C dX12_weigh_51 rfl rfl rfl ?_
          obtain ⟨u16, eu16, hf⟩ := mm_rf_some hf
          obtain ⟨k17, hf⟩ := mm_ck_some hf
          obtain ⟨k18, hf⟩ := mm_ck_some hf
          obtain ⟨g19, eg19, hf⟩ := mm_lt_some hf
          refine me_iastH (q := 53) C eg19 dX12_weigh_52 eu16 k17 k18 rfl ?_
          refine me_aload_n (q := 54) C dX12_weigh_53 rfl rfl rfl ?_
          refine me_getR (q := 57) C dX12_weigh_54 mf_X12_155 rfl rfl (mm_kI eg19 k15) rfl ?_
          refine me_aload_n (q := 58) C dX12_weigh_57 rfl rfl rfl ?_
          refine me_getI (q := 61) C dX12_weigh_58 mf_X12_510 rfl rfl (mm_kI eg19 k15) rfl ?_
          refine me_iload_n (q := 62) C dX12_weigh_61 rfl rfl rfl ?_
          obtain ⟨u20, eu20, hf⟩ := mm_rf_some hf
          obtain ⟨k21, hf⟩ := mm_ck_some hf
          obtain ⟨k22, hf⟩ := mm_ck_some hf
          obtain ⟨g23, eg23, hf⟩ := mm_lt_some hf
          refine me_iastH (q := 63) C eg23 dX12_weigh_62 eu20 k21 k22 rfl ?_
          refine me_aload_n (q := 64) C dX12_weigh_63 rfl rfl rfl ?_
          refine me_getR (q := 67) C dX12_weigh_64 mf_X12_158 rfl rfl (mm_kI eg23 (mm_kI eg19 k15)) rfl ?_
          refine me_aload_n (q := 68) C dX12_weigh_67 rfl rfl rfl ?_
          refine me_getI (q := 71) C dX12_weigh_68 mf_X12_510 rfl rfl (mm_kI eg23 (mm_kI eg19 k15)) rfl ?_
          refine me_iload_n (q := 72) C dX12_weigh_71 rfl rfl rfl ?_
          obtain ⟨u24, eu24, hf⟩ := mm_rf_some hf
          obtain ⟨k25, hf⟩ := mm_ck_some hf
          obtain ⟨k26, hf⟩ := mm_ck_some hf
          obtain ⟨g27, eg27, hf⟩ := mm_lt_some hf
          refine me_iastH (q := 73) C eg27 dX12_weigh_72 eu24 k25 k26 rfl ?_
          refine me_aload_n (q := 74) C dX12_weigh_73 rfl rfl rfl ?_
          refine me_getR (q := 77) C dX12_weigh_74 mf_X12_161 rfl rfl (mm_kI eg27 (mm_kI eg23 (mm_kI eg19 k15))) rfl ?_
          refine me_aload_n (q := 78) C dX12_weigh_77 rfl rfl rfl ?_
          refine me_getI (q := 81) C dX12_weigh_78 mf_X12_510 rfl rfl (mm_kI eg27 (mm_kI eg23 (mm_kI eg19 k15))) rfl ?_
          refine me_aload_n (q := 82) C dX12_weigh_81 rfl rfl rfl ?_
          refine me_getI (q := 85) C dX12_weigh_82 mf_X12_273 rfl rfl (mm_kI eg27 (mm_kI eg23 (mm_kI eg19 k15))) rfl ?_
          obtain ⟨u28, eu28, hf⟩ := mm_rf_some hf
          obtain ⟨k29, hf⟩ := mm_ck_some hf
          obtain ⟨k30, hf⟩ := mm_ck_some hf
          obtain ⟨g31, eg31, hf⟩ := mm_lt_some hf
          refine me_iastH (q := 86) C eg31 dX12_weigh_85 eu28 k29 k30 rfl ?_
          refine me_aload_n (q := 87) C dX12_weigh_86 rfl rfl rfl ?_
          refine me_getR (q := 90) C dX12_weigh_87 mf_X12_164 rfl rfl (mm_kI eg31 (mm_kI eg27 (mm_kI eg23 (mm_kI eg19 k15)))) rfl ?_
          refine me_aload_n (q := 91) C dX12_weigh_90 rfl rfl rfl ?_
          refine me_getI (q := 94) C dX12_weigh_91 mf_X12_510 rfl rfl (mm_kI eg31 (mm_kI eg27 (mm_kI eg23 (mm_kI eg19 k15)))) rfl ?_
          refine me_ldc_w (v := (100000 : Int32)) (q := 97) C dX12_weigh_94 mc_X12_280 rfl ?_
          obtain ⟨u32, eu32, hf⟩ := mm_rf_some hf
          obtain ⟨k33, hf⟩ := mm_ck_some hf
          obtain ⟨k34, hf⟩ := mm_ck_some hf
          obtain ⟨g35, eg35, hf⟩ := mm_lt_some hf
          refine me_iastH (q := 98) C eg35 dX12_weigh_97 eu32 k33 k34 rfl ?_
          refine me_aload_n (q := 99) C dX12_weigh_98 rfl rfl rfl ?_
          refine me_dup (q := 100) C dX12_weigh_99 rfl rfl ?_
          refine me_getI (q := 103) C dX12_weigh_100 mf_X12_510 rfl rfl (mm_kI eg35 (mm_kI eg31 (mm_kI eg27 (mm_kI eg23 (mm_kI eg19 k15))))) rfl ?_
          refine me_iconst (v := (1 : Int32)) (q := 104) C dX12_weigh_103 (by decide) rfl ?_
          refine me_iadd (q := 105) C dX12_weigh_104 rfl ?_
          obtain ⟨g36, eg36, hf⟩ := mm_lt_some hf
          refine me_putI (q := 108) C eg36 dX12_weigh_105 mf_X12_510 mp_X12_13_61 rfl (by decide) rfl (mm_kI eg35 (mm_kI eg31 (mm_kI eg27 (mm_kI eg23 (mm_kI eg19 k15))))) rfl ?_
          refine me_aload_n (q := 109) C dX12_weigh_108 rfl rfl rfl ?_
          refine me_getI (q := 112) C dX12_weigh_109 mf_X12_510 rfl rfl (mm_kI eg36 (mm_kI eg35 (mm_kI eg31 (mm_kI eg27 (mm_kI eg23 (mm_kI eg19 k15)))))) rfl ?_
          refine me_iconst (v := (1 : Int32)) (q := 113) C dX12_weigh_112 (by decide) rfl ?_
          refine me_isub (q := 114) C dX12_weigh_113 rfl ?_
          exact me_iret C hE (Nat.le_of_ble_eq_true rfl) (Nat.le_of_ble_eq_true rfl) rfl dX12_weigh_114 (mm_ri hf)
        · have hf := mm_if_f c14 hf
          refine me_iconst (v := (-1 : Int32)) (q := 42) C dX12_weigh_41 (by decide) rfl ?_
          exact me_iret C hE (Nat.le_of_ble_eq_true rfl) (Nat.le_of_ble_eq_true rfl) rfl dX12_weigh_42 (mm_ri hf)
set_option maxRecDepth 100000 in
set_option maxHeartbeats 4000000 in
theorem cX12_takeBack_ok (l : Launch) {a0 : Nat} {a1 : Int32} {h : mm_H} {r : Int32} {h1 : mm_H} (hf : fX12_takeBack a0 a1 h = some (r, h1)) : mm_M l yX12_takeBack cX12_takeBack 2 (some .boolean) 4 0 0 [vR (some a0), vI a1] h (some (vI r)) h1 := by
  refine mm_enter (lv := [some (vR (some a0)), some (vI a1)]) (by decide) rfl (Nat.le_of_ble_eq_true rfl) ?_
  intro X hl C hE
  subst hl
  unfold fX12_takeBack at hf
  refine me_iload_n (q := 1) C dX12_takeBack_0 rfl rfl rfl ?_
  refine me_iconst (v := (0 : Int32)) (q := 2) C dX12_takeBack_1 (by decide) rfl ?_
  refine me_aload_n (q := 3) C dX12_takeBack_2 rfl rfl rfl ?_
  obtain ⟨k1, hf⟩ := mm_ck_some hf
  refine me_getI (q := 6) C dX12_takeBack_3 mf_X12_510 rfl rfl k1 rfl ?_
  refine me_iconst (v := (1 : Int32)) (q := 7) C dX12_takeBack_6 (by decide) rfl ?_
  refine me_isub (q := 8) C dX12_takeBack_7 rfl ?_
  obtain ⟨v2, g3, e4, hf⟩ := mm_cl_some hf
  refine me_callS (q := 11) (c2 := 0) (s2 := 0) (st := []) C (cX12_in_ok _ e4) mt_X12_269 ms_X12_in dX12_takeBack_8 rfl rfl rfl (Nat.le_of_ble_eq_true rfl) rfl (Nat.le_of_ble_eq_true rfl) rfl (Nat.le_of_ble_eq_true rfl) rfl rfl ?_
  refine me_if_eq (q2 := 26) (q := 14) C dX12_takeBack_11 (by decide) rfl (fun c5 => ?_) (fun c5 => ?_)
  · have hf := mm_if_t c5 hf
    refine me_iconst (v := (0 : Int32)) (q := 27) C dX12_takeBack_26 (by decide) rfl ?_
    exact me_zret C hE (Nat.le_of_ble_eq_true rfl) (Nat.le_of_ble_eq_true rfl) rfl (Or.inl rfl) dX12_takeBack_27 (mm_ri hf)
  · have hf := mm_if_f c5 hf
    refine me_aload_n (q := 15) C dX12_takeBack_14 rfl rfl rfl ?_
    obtain ⟨k6, hf⟩ := mm_ck_some hf
    refine me_getR (q := 18) C dX12_takeBack_15 mf_X12_164 rfl rfl k6 rfl ?_
    refine me_iload_n (q := 19) C dX12_takeBack_18 rfl rfl rfl ?_
    obtain ⟨u7, eu7, hf⟩ := mm_rf_some hf
    obtain ⟨k8, hf⟩ := mm_ck_some hf
    obtain ⟨k9, hf⟩ := mm_ck_some hf
    refine me_iald (q := 20) C dX12_takeBack_19 eu7 k8 k9 rfl ?_
    refine me_ldc_w (v := (100000 : Int32)) (q := 23) C dX12_takeBack_20 mc_X12_280 rfl ?_
    refine me_icmp_eq (q2 := 28) (q := 26) C dX12_takeBack_23 (by decide) rfl (fun c10 => ?_) (fun c10 => ?_)
    · have hf := mm_if_t c10 hf
      refine me_aload_n (q := 29) C dX12_takeBack_28 rfl rfl rfl ?_
      refine me_getR (q := 32) C dX12_takeBack_29 mf_X12_164 rfl rfl k6 rfl ?_
      refine me_iload_n (q := 33) C dX12_takeBack_32 rfl rfl rfl ?_
      refine me_aload_n (q := 34) C dX12_takeBack_33 rfl rfl rfl ?_
      refine me_getI (q := 37) C dX12_takeBack_34 mf_X12_273 rfl rfl k6 rfl ?_
      obtain ⟨k11, hf⟩ := mm_ck_some hf
      obtain ⟨g12, eg12, hf⟩ := mm_lt_some hf
      refine me_iastH (q := 38) C eg12 dX12_takeBack_37 eu7 k8 k11 rfl ?_
      refine me_iconst (v := (1 : Int32)) (q := 39) C dX12_takeBack_38 (by decide) rfl ?_
      exact me_zret C hE (Nat.le_of_ble_eq_true rfl) (Nat.le_of_ble_eq_true rfl) rfl (Or.inr rfl) dX12_takeBack_39 (mm_ri hf)
    · have hf := mm_if_f c10 hf
      refine me_iconst (v := (0 : Int32)) (q := 27) C dX12_takeBack_26 (by decide) rfl ?_
      exact me_zret C hE (Nat.le_of_ble_eq_true rfl) (Nat.le_of_ble_eq_true rfl) rfl (Or.inl rfl) dX12_takeBack_27 (mm_ri hf)
set_option maxRecDepth 100000 in
set_option maxHeartbeats 4000000 in
theorem cX12_holds_ok (l : Launch) {a0 : Nat} {a1 : Int32} {a2 : Int32} {a3 : Int32} {h : mm_H} {r : Int32} {h1 : mm_H} (hf : fX12_holds a0 a1 a2 a3 h = some (r, h1)) : mm_M l yX12_holds cX12_holds 4 (some .boolean) 2 0 0 [vR (some a0), vI a1, vI a2, vI a3] h (some (vI r)) h1 := by
  refine mm_enter (lv := [some (vR (some a0)), some (vI a1), some (vI a2), some (vI a3)]) (by decide) rfl (Nat.le_of_ble_eq_true rfl) ?_
  intro X hl C hE
  subst hl
  unfold fX12_holds at hf
  refine me_aload_n (q := 1) C dX12_holds_0 rfl rfl rfl ?_
  obtain ⟨k1, hf⟩ := mm_ck_some hf
  refine me_getR (q := 4) C dX12_holds_1 mf_X12_152 rfl rfl k1 rfl ?_
  refine me_iload_n (q := 5) C dX12_holds_4 rfl rfl rfl ?_
  obtain ⟨u2, eu2, hf⟩ := mm_rf_some hf
  obtain ⟨k3, hf⟩ := mm_ck_some hf
  obtain ⟨k4, hf⟩ := mm_ck_some hf
  refine me_iald (q := 6) C dX12_holds_5 eu2 k3 k4 rfl ?_
  refine me_iload_n (q := 7) C dX12_holds_6 rfl rfl rfl ?_
  refine me_icmp_ne (q2 := 34) (q := 10) C dX12_holds_7 (by decide) rfl (fun c5 => ?_) (fun c5 => ?_)
  · have hf := mm_if_t c5 hf
    refine me_iconst (v := (0 : Int32)) (q := 35) C dX12_holds_34 (by decide) rfl ?_
    exact me_zret C hE (Nat.le_of_ble_eq_true rfl) (Nat.le_of_ble_eq_true rfl) rfl (Or.inl rfl) dX12_holds_35 (mm_ri hf)
  · have hf := mm_if_f c5 hf
    refine me_aload_n (q := 11) C dX12_holds_10 rfl rfl rfl ?_
    refine me_getR (q := 14) C dX12_holds_11 mf_X12_161 rfl rfl k1 rfl ?_
    refine me_iload_n (q := 15) C dX12_holds_14 rfl rfl rfl ?_
    obtain ⟨u6, eu6, hf⟩ := mm_rf_some hf
    obtain ⟨k7, hf⟩ := mm_ck_some hf
    obtain ⟨k8, hf⟩ := mm_ck_some hf
    refine me_iald (q := 16) C dX12_holds_15 eu6 k7 k8 rfl ?_
    refine me_iload_n (q := 17) C dX12_holds_16 rfl rfl rfl ?_
    refine me_icmp_gt (q2 := 34) (q := 20) C dX12_holds_17 (by decide) rfl (fun c9 => ?_) (fun c9 => ?_)
    · have hf := mm_if_t c9 hf
      refine me_iconst (v := (0 : Int32)) (q := 35) C dX12_holds_34 (by decide) rfl ?_
      exact me_zret C hE (Nat.le_of_ble_eq_true rfl) (Nat.le_of_ble_eq_true rfl) rfl (Or.inl rfl) dX12_holds_35 (mm_ri hf)
    · have hf := mm_if_f c9 hf
      refine me_aload_n (q := 21) C dX12_holds_20 rfl rfl rfl ?_
      refine me_getR (q := 24) C dX12_holds_21 mf_X12_164 rfl rfl k1 rfl ?_
      refine me_iload_n (q := 25) C dX12_holds_24 rfl rfl rfl ?_
      obtain ⟨u10, eu10, hf⟩ := mm_rf_some hf
      obtain ⟨k11, hf⟩ := mm_ck_some hf
      obtain ⟨k12, hf⟩ := mm_ck_some hf
      refine me_iald (q := 26) C dX12_holds_25 eu10 k11 k12 rfl ?_
      refine me_iload_n (q := 27) C dX12_holds_26 rfl rfl rfl ?_
      refine me_icmp_le (q2 := 34) (q := 30) C dX12_holds_27 (by decide) rfl (fun c13 => ?_) (fun c13 => ?_)
      · have hf := mm_if_t c13 hf
        refine me_iconst (v := (0 : Int32)) (q := 35) C dX12_holds_34 (by decide) rfl ?_
        exact me_zret C hE (Nat.le_of_ble_eq_true rfl) (Nat.le_of_ble_eq_true rfl) rfl (Or.inl rfl) dX12_holds_35 (mm_ri hf)
      · have hf := mm_if_f c13 hf
        refine me_iconst (v := (1 : Int32)) (q := 31) C dX12_holds_30 (by decide) rfl ?_
        refine me_goto (q := 35) C dX12_holds_31 (by decide) ?_
        exact me_zret C hE (Nat.le_of_ble_eq_true rfl) (Nat.le_of_ble_eq_true rfl) rfl (Or.inr rfl) dX12_holds_35 (mm_ri hf)
set_option maxRecDepth 100000 in
set_option maxHeartbeats 4000000 in
theorem cX12_bars_ok (l : Launch) {a0 : Nat} {a1 : Int32} {a2 : Int32} {h : mm_H} {r : Int32} {h1 : mm_H} (hf : fX12_bars a0 a1 a2 h = some (r, h1)) : mm_M l yX12_bars cX12_bars 3 (some .boolean) 2 0 0 [vR (some a0), vI a1, vI a2] h (some (vI r)) h1 := by
  refine mm_enter (lv := [some (vR (some a0)), some (vI a1), some (vI a2)]) (by decide) rfl (Nat.le_of_ble_eq_true rfl) ?_
  intro X hl C hE
  subst hl
  unfold fX12_bars at hf
  refine me_aload_n (q := 1) C dX12_bars_0 rfl rfl rfl ?_
  obtain ⟨k1, hf⟩ := mm_ck_some hf
  refine me_getR (q := 4) C dX12_bars_1 mf_X12_158 rfl rfl k1 rfl ?_
  refine me_iload_n (q := 5) C dX12_bars_4 rfl rfl rfl ?_
  obtain ⟨u2, eu2, hf⟩ := mm_rf_some hf
  obtain ⟨k3, hf⟩ := mm_ck_some hf
  obtain ⟨k4, hf⟩ := mm_ck_some hf
  refine me_iald (q := 6) C dX12_bars_5 eu2 k3 k4 rfl ?_
  refine me_iconst (v := (1 : Int32)) (q := 7) C dX12_bars_6 (by decide) rfl ?_
  refine me_isub (q := 8) C dX12_bars_7 rfl ?_
  refine me_i2l (q := 9) C dX12_bars_8 rfl ?_
  refine me_aload_n (q := 10) C dX12_bars_9 rfl rfl rfl ?_
  refine me_getR (q := 13) C dX12_bars_10 mf_X12_155 rfl rfl k1 rfl ?_
  refine me_iload_n (q := 14) C dX12_bars_13 rfl rfl rfl ?_
  obtain ⟨u5, eu5, hf⟩ := mm_rf_some hf
  obtain ⟨k6, hf⟩ := mm_ck_some hf
  obtain ⟨k7, hf⟩ := mm_ck_some hf
  refine me_iald (q := 15) C dX12_bars_14 eu5 k6 k7 rfl ?_
  refine me_iconst (v := (1 : Int32)) (q := 16) C dX12_bars_15 (by decide) rfl ?_
  refine me_isub (q := 17) C dX12_bars_16 rfl ?_
  refine me_i2l (q := 18) C dX12_bars_17 rfl ?_
  refine me_lmul (q := 19) C dX12_bars_18 rfl ?_
  refine me_aload_n (q := 20) C dX12_bars_19 rfl rfl rfl ?_
  refine me_getR (q := 23) C dX12_bars_20 mf_X12_158 rfl rfl k1 rfl ?_
  refine me_iload_n (q := 24) C dX12_bars_23 rfl rfl rfl ?_
  obtain ⟨k8, hf⟩ := mm_ck_some hf
  refine me_iald (q := 25) C dX12_bars_24 eu2 k3 k8 rfl ?_
  refine me_iconst (v := (1 : Int32)) (q := 26) C dX12_bars_25 (by decide) rfl ?_
  refine me_iadd (q := 27) C dX12_bars_26 rfl ?_
  refine me_i2l (q := 28) C dX12_bars_27 rfl ?_
  refine me_aload_n (q := 29) C dX12_bars_28 rfl rfl rfl ?_
  refine me_getR (q := 32) C dX12_bars_29 mf_X12_155 rfl rfl k1 rfl ?_
  refine me_iload_n (q := 33) C dX12_bars_32 rfl rfl rfl ?_
  obtain ⟨k9, hf⟩ := mm_ck_some hf
  refine me_iald (q := 34) C dX12_bars_33 eu5 k6 k9 rfl ?_
  refine me_iconst (v := (1 : Int32)) (q := 35) C dX12_bars_34 (by decide) rfl ?_
  refine me_iadd (q := 36) C dX12_bars_35 rfl ?_
  refine me_i2l (q := 37) C dX12_bars_36 rfl ?_
  refine me_lmul (q := 38) C dX12_bars_37 rfl ?_
  refine me_lcmp (q := 39) C dX12_bars_38 rfl ?_
  refine me_if_le (q2 := 46) (q := 42) C dX12_bars_39 (by decide) rfl (fun c10 => ?_) (fun c10 => ?_)
  · have hf := mm_if_t c10 hf
    refine me_iconst (v := (0 : Int32)) (q := 47) C dX12_bars_46 (by decide) rfl ?_
    exact me_zret C hE (Nat.le_of_ble_eq_true rfl) (Nat.le_of_ble_eq_true rfl) rfl (Or.inl rfl) dX12_bars_47 (mm_ri hf)
  · have hf := mm_if_f c10 hf
    refine me_iconst (v := (1 : Int32)) (q := 43) C dX12_bars_42 (by decide) rfl ?_
    refine me_goto (q := 47) C dX12_bars_43 (by decide) ?_
    exact me_zret C hE (Nat.le_of_ble_eq_true rfl) (Nat.le_of_ble_eq_true rfl) rfl (Or.inr rfl) dX12_bars_47 (mm_ri hf)
set_option maxRecDepth 100000 in
set_option maxHeartbeats 4000000 in
theorem cX12_spans_L179 {X : mm_X} (C : mm_C X cX12_spans yX12_spans 4 0 0) {r : Unit} {h1 : mm_H} (hE : mm_End X 0 0 none none h1) {b0 : Nat} {b1 : Int32} {b2 : Int32} {b3 : Int32} {b4 : Int32} (K245 : mm_H → Option (Unit × mm_H)) : ∀ (n : Nat) (x13 : Int32) (h : mm_H), fX12_spans_L179 b0 b1 b2 b3 b4 K245 n x13 h = some (r, h1) → (∀ (h : mm_H), K245 h = some (r, h1) → mm_E X h 0 0 245 [some (vR (some b0)), some (vI b1), some (vI b2), some (vI b3), some (vI b4), none, none, none, none, none, none, none, none, none] []) → mm_E X h 0 0 179 [some (vR (some b0)), some (vI b1), some (vI b2), some (vI b3), some (vI b4), none, none, none, none, none, none, none, none, some (vI x13)] [] := by
  intro n
  induction n with
  | zero =>
    intro x13 h hf
    exact absurd (show (none : Option (Unit × mm_H)) = some (r, h1) from hf) (by simp)
  | succ n ih =>
    intro x13 h hf hk245
    have hf : fX12_spans_L179_b b0 b1 b2 b3 b4 K245 (fX12_spans_L179 b0 b1 b2 b3 b4 K245 n) x13 h = some (r, h1) := hf
    unfold fX12_spans_L179_b at hf
    refine me_iload (q := 181) C dX12_spans_179 rfl rfl ?_
    refine me_iload (q := 183) C dX12_spans_181 rfl rfl ?_
    refine me_icmp_ge (q2 := 245) (q := 186) C dX12_spans_183 (by decide) rfl (fun c35 => ?_) (fun c35 => ?_)
    · have hf := mm_if_t c35 hf
      refine me_mask [true, true, true, true, true, false, false, false, false, false, false, false, false, false] (lv2 := [some (vR (some b0)), some (vI b1), some (vI b2), some (vI b3), some (vI b4), none, none, none, none, none, none, none, none, none]) rfl ?_
      exact hk245 _ hf
    · have hf := mm_if_f c35 hf
      refine me_aload_n (q := 187) C dX12_spans_186 rfl rfl rfl ?_
      obtain ⟨k36, hf⟩ := mm_ck_some hf
      refine me_getI (q := 190) C dX12_spans_187 mf_X12_529 rfl rfl k36 rfl ?_
      refine me_iconst (v := (-1 : Int32)) (q := 191) C dX12_spans_190 (by decide) rfl ?_
      refine me_icmp_ne (q2 := 245) (q := 194) C dX12_spans_191 (by decide) rfl (fun c37 => ?_) (fun c37 => ?_)
      · have hf := mm_if_t c37 hf
        refine me_mask [true, true, true, true, true, false, false, false, false, false, false, false, false, false] (lv2 := [some (vR (some b0)), some (vI b1), some (vI b2), some (vI b3), some (vI b4), none, none, none, none, none, none, none, none, none]) rfl ?_
        exact hk245 _ hf
      · have hf := mm_if_f c37 hf
        refine me_aload_n (q := 195) C dX12_spans_194 rfl rfl rfl ?_
        refine me_iload (q := 197) C dX12_spans_195 rfl rfl ?_
        refine me_iload_n (q := 198) C dX12_spans_197 rfl rfl rfl ?_
        refine me_iload_n (q := 199) C dX12_spans_198 rfl rfl rfl ?_
        obtain ⟨v38, g39, e40, hf⟩ := mm_cl_some hf
        refine me_callV (q := 202) (c2 := 0) (s2 := 0) (st := []) C (cX12_holds_ok _ e40) mt_X12_532 mv_X12_holds rfl (by decide) dX12_spans_199 rfl k36 rfl rfl rfl (Nat.le_of_ble_eq_true rfl) rfl (Nat.le_of_ble_eq_true rfl) rfl (Nat.le_of_ble_eq_true rfl) rfl rfl ?_
        obtain ⟨q42, eq42, hf⟩ := mm_jn_some hf
        have Hq42 : ∀ (g41 : mm_H), q42 g41 = some (r, h1) → mm_E X g41 0 0 239 [some (vR (some b0)), some (vI b1), some (vI b2), some (vI b3), some (vI b4), none, none, none, none, none, none, none, none, some (vI x13)] [] := by
          intro g41 hf
          subst eq42
          obtain ⟨v43, ev43, hf⟩ := mm_lt_some hf
          refine me_iinc (q := 242) (v := v43) (lv2 := [some (vR (some b0)), some (vI b1), some (vI b2), some (vI b3), some (vI b4), none, none, none, none, none, none, none, none, some (vI v43)]) C dX12_spans_239 rfl (by rw [ev43]; rfl) (Nat.le_of_ble_eq_true rfl) rfl rfl rfl ?_
          refine me_goto (q := 179) C dX12_spans_242 (by decide) ?_
          exact ih _ _ hf hk245
        refine me_if_eq (q2 := 239) (q := 205) C dX12_spans_202 (by decide) rfl (fun c44 => ?_) (fun c44 => ?_)
        · have hf := mm_if_t c44 hf
          exact Hq42 _ hf
        · have hf := mm_if_f c44 hf
          refine me_aload_n (q := 206) C dX12_spans_205 rfl rfl rfl ?_
          refine me_iload (q := 208) C dX12_spans_206 rfl rfl ?_
          refine me_iload (q := 210) C dX12_spans_208 rfl rfl ?_
          obtain ⟨k45, hf⟩ := mm_ck_some hf
          obtain ⟨v46, g47, e48, hf⟩ := mm_cl_some hf
          refine me_callV (q := 213) (c2 := 0) (s2 := 0) (st := []) C (cX12_bars_ok _ e48) mt_X12_535 mv_X12_bars rfl (by decide) dX12_spans_210 rfl k45 rfl rfl rfl (Nat.le_of_ble_eq_true rfl) rfl (Nat.le_of_ble_eq_true rfl) rfl (Nat.le_of_ble_eq_true rfl) rfl rfl ?_
          obtain ⟨q50, eq50, hf⟩ := mm_jn_some hf
          have Hq50 : ∀ (g49 : mm_H), q50 g49 = some (r, h1) → mm_E X g49 0 0 227 [some (vR (some b0)), some (vI b1), some (vI b2), some (vI b3), some (vI b4), none, none, none, none, none, none, none, none, some (vI x13)] [] := by
            intro g49 hf
            subst eq50
            refine me_aload_n (q := 228) C dX12_spans_227 rfl rfl rfl ?_
            refine me_iload (q := 230) C dX12_spans_228 rfl rfl ?_
            obtain ⟨k51, hf⟩ := mm_ck_some hf
            obtain ⟨g52, eg52, hf⟩ := mm_lt_some hf
            refine me_putI (q := 233) C eg52 dX12_spans_230 mf_X12_526 mp_X12_13_71 rfl (by decide) rfl k51 rfl ?_
            refine me_aload_n (q := 234) C dX12_spans_233 rfl rfl rfl ?_
            refine me_iload (q := 236) C dX12_spans_234 rfl rfl ?_
            obtain ⟨g53, eg53, hf⟩ := mm_lt_some hf
            refine me_putI (q := 239) C eg53 dX12_spans_236 mf_X12_529 mp_X12_13_72 rfl (by decide) rfl (mm_kI eg52 k51) rfl ?_
            exact Hq42 _ hf
          refine me_if_ne (q2 := 227) (q := 216) C dX12_spans_213 (by decide) rfl (fun c54 => ?_) (fun c54 => ?_)
          · have hf := mm_if_t c54 hf
            exact Hq50 _ hf
          · have hf := mm_if_f c54 hf
            refine me_aload_n (q := 217) C dX12_spans_216 rfl rfl rfl ?_
            refine me_iload (q := 219) C dX12_spans_217 rfl rfl ?_
            refine me_iload (q := 221) C dX12_spans_219 rfl rfl ?_
            obtain ⟨k55, hf⟩ := mm_ck_some hf
            obtain ⟨v56, g57, e58, hf⟩ := mm_cl_some hf
            refine me_callV (q := 224) (c2 := 0) (s2 := 0) (st := []) C (cX12_bars_ok _ e58) mt_X12_535 mv_X12_bars rfl (by decide) dX12_spans_221 rfl k55 rfl rfl rfl (Nat.le_of_ble_eq_true rfl) rfl (Nat.le_of_ble_eq_true rfl) rfl (Nat.le_of_ble_eq_true rfl) rfl rfl ?_
            refine me_if_eq (q2 := 239) (q := 227) C dX12_spans_224 (by decide) rfl (fun c59 => ?_) (fun c59 => ?_)
            · have hf := mm_if_t c59 hf
              exact Hq42 _ hf
            · have hf := mm_if_f c59 hf
              exact Hq50 _ hf
set_option maxRecDepth 100000 in
set_option maxHeartbeats 4000000 in
theorem cX12_spans_L35 {X : mm_X} (C : mm_C X cX12_spans yX12_spans 4 0 0) {r : Unit} {h1 : mm_H} (hE : mm_End X 0 0 none none h1) {b0 : Nat} {b1 : Int32} {b2 : Int32} (K251 : mm_H → Option (Unit × mm_H)) : ∀ (n : Nat) (x3 : Int32) (x4 : Int32) (h : mm_H), fX12_spans_L35 b0 b1 b2 K251 n x3 x4 h = some (r, h1) → (∀ (h : mm_H), K251 h = some (r, h1) → mm_E X h 0 0 251 [none, none, none, none, none, none, none, none, none, none, none, none, none, none] []) → mm_E X h 0 0 35 [some (vR (some b0)), some (vI b1), some (vI b2), some (vI x3), some (vI x4), none, none, none, none, none, none, none, none, none] [] := by
  intro n
  induction n with
  | zero =>
    intro x3 x4 h hf
    exact absurd (show (none : Option (Unit × mm_H)) = some (r, h1) from hf) (by simp)
  | succ n ih =>
    intro x3 x4 h hf hk251
    have hf : fX12_spans_L35_b b0 b1 b2 K251 (fX12_spans_L35 b0 b1 b2 K251 n) x3 x4 h = some (r, h1) := hf
    unfold fX12_spans_L35_b at hf
    refine me_iload (q := 37) C dX12_spans_35 rfl rfl ?_
    refine me_aload_n (q := 38) C dX12_spans_37 rfl rfl rfl ?_
    obtain ⟨k8, hf⟩ := mm_ck_some hf
    refine me_getI (q := 41) C dX12_spans_38 mf_X12_510 rfl rfl k8 rfl ?_
    refine me_icmp_ge (q2 := 251) (q := 44) C dX12_spans_41 (by decide) rfl (fun c9 => ?_) (fun c9 => ?_)
    · have hf := mm_if_t c9 hf
      refine me_mask [false, false, false, false, false, false, false, false, false, false, false, false, false, false] (lv2 := [none, none, none, none, none, none, none, none, none, none, none, none, none, none]) rfl ?_
      exact hk251 _ hf
    · have hf := mm_if_f c9 hf
      refine me_aload_n (q := 45) C dX12_spans_44 rfl rfl rfl ?_
      refine me_iload (q := 47) C dX12_spans_45 rfl rfl ?_
      refine me_iload_n (q := 48) C dX12_spans_47 rfl rfl rfl ?_
      refine me_iload_n (q := 49) C dX12_spans_48 rfl rfl rfl ?_
      obtain ⟨v10, g11, e12, hf⟩ := mm_cl_some hf
      refine me_callV (q := 52) (c2 := 0) (s2 := 0) (st := []) C (cX12_holds_ok _ e12) mt_X12_532 mv_X12_holds rfl (by decide) dX12_spans_49 rfl k8 rfl rfl rfl (Nat.le_of_ble_eq_true rfl) rfl (Nat.le_of_ble_eq_true rfl) rfl (Nat.le_of_ble_eq_true rfl) rfl rfl ?_
      obtain ⟨q15, eq15, hf⟩ := mm_jn_some hf
      have Hq15 : ∀ (v13 : Int32) (g14 : mm_H), q15 v13 g14 = some (r, h1) → mm_E X g14 0 0 245 [some (vR (some b0)), some (vI b1), some (vI b2), some (vI v13), some (vI x4), none, none, none, none, none, none, none, none, none] [] := by
        intro v13 g14 hf
        subst eq15
        obtain ⟨v16, ev16, hf⟩ := mm_lt_some hf
        refine me_iinc (q := 248) (v := v16) (lv2 := [some (vR (some b0)), some (vI b1), some (vI b2), some (vI v13), some (vI v16), none, none, none, none, none, none, none, none, none]) C dX12_spans_245 rfl (by rw [ev16]; rfl) (Nat.le_of_ble_eq_true rfl) rfl rfl rfl ?_
        refine me_goto (q := 35) C dX12_spans_248 (by decide) ?_
        exact ih _ _ _ hf hk251
      refine me_if_ne (q2 := 58) (q := 55) C dX12_spans_52 (by decide) rfl (fun c17 => ?_) (fun c17 => ?_)
      · have hf := mm_if_t c17 hf
        refine me_aload_n (q := 59) C dX12_spans_58 rfl rfl rfl ?_
        obtain ⟨k18, hf⟩ := mm_ck_some hf
        refine me_getR (q := 62) C dX12_spans_59 mf_X12_158 rfl rfl k18 rfl ?_
        refine me_iload (q := 64) C dX12_spans_62 rfl rfl ?_
        obtain ⟨u19, eu19, hf⟩ := mm_rf_some hf
        obtain ⟨k20, hf⟩ := mm_ck_some hf
        obtain ⟨k21, hf⟩ := mm_ck_some hf
        refine me_iald (q := 65) C dX12_spans_64 eu19 k20 k21 rfl ?_
        refine me_iconst (v := (1 : Int32)) (q := 66) C dX12_spans_65 (by decide) rfl ?_
        refine me_isub (q := 67) C dX12_spans_66 rfl ?_
        refine me_i2l (q := 68) C dX12_spans_67 rfl ?_
        obtain ⟨v22, ev22, hf⟩ := mm_lt_some hf
        refine me_topJ ev22 ?_
        refine me_lstore (q := 70) (lv2 := [some (vR (some b0)), some (vI b1), some (vI b2), some (vI x3), some (vI x4), some (vJ v22), none, none, none, none, none, none, none, none]) C dX12_spans_68 (Nat.le_of_ble_eq_true rfl) rfl rfl rfl ?_
        refine me_aload_n (q := 71) C dX12_spans_70 rfl rfl rfl ?_
        refine me_getR (q := 74) C dX12_spans_71 mf_X12_155 rfl rfl k18 rfl ?_
        refine me_iload (q := 76) C dX12_spans_74 rfl rfl ?_
        obtain ⟨u23, eu23, hf⟩ := mm_rf_some hf
        obtain ⟨k24, hf⟩ := mm_ck_some hf
        obtain ⟨k25, hf⟩ := mm_ck_some hf
        refine me_iald (q := 77) C dX12_spans_76 eu23 k24 k25 rfl ?_
        refine me_iconst (v := (1 : Int32)) (q := 78) C dX12_spans_77 (by decide) rfl ?_
        refine me_iadd (q := 79) C dX12_spans_78 rfl ?_
        refine me_i2l (q := 80) C dX12_spans_79 rfl ?_
        obtain ⟨v26, ev26, hf⟩ := mm_lt_some hf
        refine me_topJ ev26 ?_
        refine me_lstore (q := 82) (lv2 := [some (vR (some b0)), some (vI b1), some (vI b2), some (vI x3), some (vI x4), some (vJ v22), none, some (vJ v26), none, none, none, none, none, none]) C dX12_spans_80 (Nat.le_of_ble_eq_true rfl) rfl rfl rfl ?_
        refine me_aload_n (q := 83) C dX12_spans_82 rfl rfl rfl ?_
        refine me_getR (q := 86) C dX12_spans_83 mf_X12_158 rfl rfl k18 rfl ?_
        refine me_iload (q := 88) C dX12_spans_86 rfl rfl ?_
        obtain ⟨k27, hf⟩ := mm_ck_some hf
        refine me_iald (q := 89) C dX12_spans_88 eu19 k20 k27 rfl ?_
        refine me_iconst (v := (1 : Int32)) (q := 90) C dX12_spans_89 (by decide) rfl ?_
        refine me_iadd (q := 91) C dX12_spans_90 rfl ?_
        refine me_i2l (q := 92) C dX12_spans_91 rfl ?_
        obtain ⟨v28, ev28, hf⟩ := mm_lt_some hf
        refine me_topJ ev28 ?_
        refine me_lstore (q := 94) (lv2 := [some (vR (some b0)), some (vI b1), some (vI b2), some (vI x3), some (vI x4), some (vJ v22), none, some (vJ v26), none, some (vJ v28), none, none, none, none]) C dX12_spans_92 (Nat.le_of_ble_eq_true rfl) rfl rfl rfl ?_
        refine me_aload_n (q := 95) C dX12_spans_94 rfl rfl rfl ?_
        refine me_getR (q := 98) C dX12_spans_95 mf_X12_155 rfl rfl k18 rfl ?_
        refine me_iload (q := 100) C dX12_spans_98 rfl rfl ?_
        obtain ⟨k29, hf⟩ := mm_ck_some hf
        refine me_iald (q := 101) C dX12_spans_100 eu23 k24 k29 rfl ?_
        refine me_iconst (v := (1 : Int32)) (q := 102) C dX12_spans_101 (by decide) rfl ?_
        refine me_isub (q := 103) C dX12_spans_102 rfl ?_
        refine me_i2l (q := 104) C dX12_spans_103 rfl ?_
        obtain ⟨v30, ev30, hf⟩ := mm_lt_some hf
        refine me_topJ ev30 ?_
        refine me_lstore (q := 106) (lv2 := [some (vR (some b0)), some (vI b1), some (vI b2), some (vI x3), some (vI x4), some (vJ v22), none, some (vJ v26), none, some (vJ v28), none, some (vJ v30), none, none]) C dX12_spans_104 (Nat.le_of_ble_eq_true rfl) rfl rfl rfl ?_
        refine me_iload_n (q := 107) C dX12_spans_106 rfl rfl rfl ?_
        obtain ⟨q32, eq32, hf⟩ := mm_jn_some hf
        have Hq32 : ∀ (g31 : mm_H), q32 g31 = some (r, h1) → mm_E X g31 0 0 140 [some (vR (some b0)), some (vI b1), some (vI b2), some (vI x3), some (vI x4), none, none, none, none, some (vJ v28), none, some (vJ v30), none, none] [] := by
          intro g31 hf
          subst eq32
          refine me_iload_n (q := 141) C dX12_spans_140 rfl rfl rfl ?_
          obtain ⟨q34, eq34, hf⟩ := mm_jn_some hf
          have Hq34 : ∀ (g33 : mm_H), q34 g33 = some (r, h1) → mm_E X g33 0 0 174 [some (vR (some b0)), some (vI b1), some (vI b2), none, some (vI x4), none, none, none, none, none, none, none, none, none] [] := by
            intro g33 hf
            subst eq34
            refine me_iconst (v := (1 : Int32)) (q := 175) C dX12_spans_174 (by decide) rfl ?_
            refine me_istore_n (q := 176) (lv2 := [some (vR (some b0)), some (vI b1), some (vI b2), some (vI (1 : Int32)), some (vI x4), none, none, none, none, none, none, none, none, none]) C dX12_spans_175 rfl (Nat.le_of_ble_eq_true rfl) rfl rfl rfl ?_
            refine me_iconst (v := (0 : Int32)) (q := 177) C dX12_spans_176 (by decide) rfl ?_
            refine me_istore (q := 179) (lv2 := [some (vR (some b0)), some (vI b1), some (vI b2), some (vI (1 : Int32)), some (vI x4), none, none, none, none, none, none, none, none, some (vI (0 : Int32))]) C dX12_spans_177 (Nat.le_of_ble_eq_true rfl) rfl rfl rfl ?_
            refine cX12_spans_L179 C hE _ _ _ _ hf ?_
            · intro g60 hf
              exact Hq15 _ _ hf
          obtain ⟨q61, eq61, hf⟩ := mm_jn_some hf
          have Hq61 : ∀ (_u : Unit), q61 _u = some (r, h1) → mm_E X g31 0 0 162 [some (vR (some b0)), some (vI b1), some (vI b2), none, some (vI x4), none, none, none, none, some (vJ v28), none, some (vJ v30), none, none] [] := by
            intro _u hf
            subst eq61
            refine me_aload_n (q := 163) C dX12_spans_162 rfl rfl rfl ?_
            refine me_lload (q := 165) C dX12_spans_163 rfl rfl ?_
            obtain ⟨k62, hf⟩ := mm_ck_some hf
            obtain ⟨g63, eg63, hf⟩ := mm_lt_some hf
            refine me_putJ (q := 168) C eg63 dX12_spans_165 mf_X12_520 mp_X12_13_69 rfl (by decide) rfl k62 rfl ?_
            refine me_aload_n (q := 169) C dX12_spans_168 rfl rfl rfl ?_
            refine me_lload (q := 171) C dX12_spans_169 rfl rfl ?_
            obtain ⟨g64, eg64, hf⟩ := mm_lt_some hf
            refine me_putJ (q := 174) C eg64 dX12_spans_171 mf_X12_523 mp_X12_13_70 rfl (by decide) rfl (mm_kJ eg63 k62) rfl ?_
            refine me_mask [true, true, true, false, true, false, false, false, false, false, false, false, false, false] (lv2 := [some (vR (some b0)), some (vI b1), some (vI b2), none, some (vI x4), none, none, none, none, none, none, none, none, none]) rfl ?_
            exact Hq34 _ hf
          refine me_if_eq (q2 := 162) (q := 144) C dX12_spans_141 (by decide) rfl (fun c65 => ?_) (fun c65 => ?_)
          · have hf := mm_if_t c65 hf
            refine me_mask [true, true, true, false, true, false, false, false, false, true, false, true, false, false] (lv2 := [some (vR (some b0)), some (vI b1), some (vI b2), none, some (vI x4), none, none, none, none, some (vJ v28), none, some (vJ v30), none, none]) rfl ?_
            exact Hq61 () hf
          · have hf := mm_if_f c65 hf
            refine me_lload (q := 146) C dX12_spans_144 rfl rfl ?_
            refine me_aload_n (q := 147) C dX12_spans_146 rfl rfl rfl ?_
            obtain ⟨k66, hf⟩ := mm_ck_some hf
            refine me_getJ (q := 150) C dX12_spans_147 mf_X12_523 rfl rfl k66 rfl ?_
            refine me_lmul (q := 151) C dX12_spans_150 rfl ?_
            refine me_aload_n (q := 152) C dX12_spans_151 rfl rfl rfl ?_
            refine me_getJ (q := 155) C dX12_spans_152 mf_X12_520 rfl rfl k66 rfl ?_
            refine me_lload (q := 157) C dX12_spans_155 rfl rfl ?_
            refine me_lmul (q := 158) C dX12_spans_157 rfl ?_
            refine me_lcmp (q := 159) C dX12_spans_158 rfl ?_
            refine me_if_ge (q2 := 174) (q := 162) C dX12_spans_159 (by decide) rfl (fun c67 => ?_) (fun c67 => ?_)
            · have hf := mm_if_t c67 hf
              refine me_mask [true, true, true, false, true, false, false, false, false, false, false, false, false, false] (lv2 := [some (vR (some b0)), some (vI b1), some (vI b2), none, some (vI x4), none, none, none, none, none, none, none, none, none]) rfl ?_
              exact Hq34 _ hf
            · have hf := mm_if_f c67 hf
              refine me_mask [true, true, true, false, true, false, false, false, false, true, false, true, false, false] (lv2 := [some (vR (some b0)), some (vI b1), some (vI b2), none, some (vI x4), none, none, none, none, some (vJ v28), none, some (vJ v30), none, none]) rfl ?_
              exact Hq61 () hf
        obtain ⟨q68, eq68, hf⟩ := mm_jn_some hf
        have Hq68 : ∀ (_u : Unit), q68 _u = some (r, h1) → mm_E X g11 0 0 128 [some (vR (some b0)), some (vI b1), some (vI b2), some (vI x3), some (vI x4), some (vJ v22), none, some (vJ v26), none, some (vJ v28), none, some (vJ v30), none, none] [] := by
          intro _u hf
          subst eq68
          refine me_aload_n (q := 129) C dX12_spans_128 rfl rfl rfl ?_
          refine me_lload (q := 131) C dX12_spans_129 rfl rfl ?_
          obtain ⟨g69, eg69, hf⟩ := mm_lt_some hf
          refine me_putJ (q := 134) C eg69 dX12_spans_131 mf_X12_513 mp_X12_13_67 rfl (by decide) rfl k18 rfl ?_
          refine me_aload_n (q := 135) C dX12_spans_134 rfl rfl rfl ?_
          refine me_lload (q := 137) C dX12_spans_135 rfl rfl ?_
          obtain ⟨g70, eg70, hf⟩ := mm_lt_some hf
          refine me_putJ (q := 140) C eg70 dX12_spans_137 mf_X12_517 mp_X12_13_68 rfl (by decide) rfl (mm_kJ eg69 k18) rfl ?_
          refine me_mask [true, true, true, true, true, false, false, false, false, true, false, true, false, false] (lv2 := [some (vR (some b0)), some (vI b1), some (vI b2), some (vI x3), some (vI x4), none, none, none, none, some (vJ v28), none, some (vJ v30), none, none]) rfl ?_
          exact Hq32 _ hf
        refine me_if_eq (q2 := 128) (q := 110) C dX12_spans_107 (by decide) rfl (fun c71 => ?_) (fun c71 => ?_)
        · have hf := mm_if_t c71 hf
          exact Hq68 () hf
        · have hf := mm_if_f c71 hf
          refine me_lload (q := 112) C dX12_spans_110 rfl rfl ?_
          refine me_aload_n (q := 113) C dX12_spans_112 rfl rfl rfl ?_
          refine me_getJ (q := 116) C dX12_spans_113 mf_X12_517 rfl rfl k18 rfl ?_
          refine me_lmul (q := 117) C dX12_spans_116 rfl ?_
          refine me_aload_n (q := 118) C dX12_spans_117 rfl rfl rfl ?_
          refine me_getJ (q := 121) C dX12_spans_118 mf_X12_513 rfl rfl k18 rfl ?_
          refine me_lload (q := 123) C dX12_spans_121 rfl rfl ?_
          refine me_lmul (q := 124) C dX12_spans_123 rfl ?_
          refine me_lcmp (q := 125) C dX12_spans_124 rfl ?_
          refine me_if_le (q2 := 140) (q := 128) C dX12_spans_125 (by decide) rfl (fun c72 => ?_) (fun c72 => ?_)
          · have hf := mm_if_t c72 hf
            refine me_mask [true, true, true, true, true, false, false, false, false, true, false, true, false, false] (lv2 := [some (vR (some b0)), some (vI b1), some (vI b2), some (vI x3), some (vI x4), none, none, none, none, some (vJ v28), none, some (vJ v30), none, none]) rfl ?_
            exact Hq32 _ hf
          · have hf := mm_if_f c72 hf
            exact Hq68 () hf
      · have hf := mm_if_f c17 hf
        refine me_goto (q := 245) C dX12_spans_55 (by decide) ?_
        exact Hq15 _ _ hf
set_option maxRecDepth 100000 in
set_option maxHeartbeats 4000000 in
theorem cX12_spans_ok (l : Launch) {a0 : Nat} {a1 : Int32} {a2 : Int32} {h : mm_H} {r : Unit} {h1 : mm_H} (hf : fX12_spans a0 a1 a2 h = some (r, h1)) : mm_M l yX12_spans cX12_spans 14 none 4 0 0 [vR (some a0), vI a1, vI a2] h none h1 := by
  refine mm_enter (lv := [some (vR (some a0)), some (vI a1), some (vI a2), none, none, none, none, none, none, none, none, none, none, none]) (by decide) rfl (Nat.le_of_ble_eq_true rfl) ?_
  intro X hl C hE
  subst hl
  unfold fX12_spans at hf
  refine me_aload_n (q := 1) C dX12_spans_0 rfl rfl rfl ?_
  refine me_lconst (v := (0 : Int64)) (q := 2) C dX12_spans_1 (by decide) rfl ?_
  obtain ⟨k1, hf⟩ := mm_ck_some hf
  obtain ⟨g2, eg2, hf⟩ := mm_lt_some hf
  refine me_putJ (q := 5) C eg2 dX12_spans_2 mf_X12_513 mp_X12_13_67 rfl (by decide) rfl k1 rfl ?_
  refine me_aload_n (q := 6) C dX12_spans_5 rfl rfl rfl ?_
  refine me_lconst (v := (1 : Int64)) (q := 7) C dX12_spans_6 (by decide) rfl ?_
  obtain ⟨g3, eg3, hf⟩ := mm_lt_some hf
  refine me_putJ (q := 10) C eg3 dX12_spans_7 mf_X12_517 mp_X12_13_68 rfl (by decide) rfl (mm_kJ eg2 k1) rfl ?_
  refine me_aload_n (q := 11) C dX12_spans_10 rfl rfl rfl ?_
  refine me_lconst (v := (1 : Int64)) (q := 12) C dX12_spans_11 (by decide) rfl ?_
  obtain ⟨g4, eg4, hf⟩ := mm_lt_some hf
  refine me_putJ (q := 15) C eg4 dX12_spans_12 mf_X12_520 mp_X12_13_69 rfl (by decide) rfl (mm_kJ eg3 (mm_kJ eg2 k1)) rfl ?_
  refine me_aload_n (q := 16) C dX12_spans_15 rfl rfl rfl ?_
  refine me_lconst (v := (0 : Int64)) (q := 17) C dX12_spans_16 (by decide) rfl ?_
  obtain ⟨g5, eg5, hf⟩ := mm_lt_some hf
  refine me_putJ (q := 20) C eg5 dX12_spans_17 mf_X12_523 mp_X12_13_70 rfl (by decide) rfl (mm_kJ eg4 (mm_kJ eg3 (mm_kJ eg2 k1))) rfl ?_
  refine me_aload_n (q := 21) C dX12_spans_20 rfl rfl rfl ?_
  refine me_iconst (v := (-1 : Int32)) (q := 22) C dX12_spans_21 (by decide) rfl ?_
  obtain ⟨g6, eg6, hf⟩ := mm_lt_some hf
  refine me_putI (q := 25) C eg6 dX12_spans_22 mf_X12_526 mp_X12_13_71 rfl (by decide) rfl (mm_kJ eg5 (mm_kJ eg4 (mm_kJ eg3 (mm_kJ eg2 k1)))) rfl ?_
  refine me_aload_n (q := 26) C dX12_spans_25 rfl rfl rfl ?_
  refine me_iconst (v := (-1 : Int32)) (q := 27) C dX12_spans_26 (by decide) rfl ?_
  obtain ⟨g7, eg7, hf⟩ := mm_lt_some hf
  refine me_putI (q := 30) C eg7 dX12_spans_27 mf_X12_529 mp_X12_13_72 rfl (by decide) rfl (mm_kI eg6 (mm_kJ eg5 (mm_kJ eg4 (mm_kJ eg3 (mm_kJ eg2 k1))))) rfl ?_
  refine me_iconst (v := (0 : Int32)) (q := 31) C dX12_spans_30 (by decide) rfl ?_
  refine me_istore_n (q := 32) (lv2 := [some (vR (some a0)), some (vI a1), some (vI a2), some (vI (0 : Int32)), none, none, none, none, none, none, none, none, none, none]) C dX12_spans_31 rfl (Nat.le_of_ble_eq_true rfl) rfl rfl rfl ?_
  refine me_iconst (v := (0 : Int32)) (q := 33) C dX12_spans_32 (by decide) rfl ?_
  refine me_istore (q := 35) (lv2 := [some (vR (some a0)), some (vI a1), some (vI a2), some (vI (0 : Int32)), some (vI (0 : Int32)), none, none, none, none, none, none, none, none, none]) C dX12_spans_33 (Nat.le_of_ble_eq_true rfl) rfl rfl rfl ?_
  refine cX12_spans_L35 C hE _ _ _ _ _ hf ?_
  · intro g73 hf
    exact me_vret C hE (Nat.le_of_ble_eq_true rfl) (Nat.le_of_ble_eq_true rfl) rfl dX12_spans_251 (mm_ru hf)
set_option maxRecDepth 100000 in
set_option maxHeartbeats 4000000 in
theorem cX12_span_ok (l : Launch) {a0 : Nat} {a1 : Int32} {a2 : Int32} {a3 : Int32} {h : mm_H} {r : Int32} {h1 : mm_H} (hf : fX12_span a0 a1 a2 a3 h = some (r, h1)) : mm_M l yX12_span cX12_span 4 (some .int) 6 0 0 [vR (some a0), vI a1, vI a2, vI a3] h (some (vI r)) h1 := by
  refine mm_enter (lv := [some (vR (some a0)), some (vI a1), some (vI a2), some (vI a3)]) (by decide) rfl (Nat.le_of_ble_eq_true rfl) ?_
  intro X hl C hE
  subst hl
  unfold fX12_span at hf
  refine me_iload_n (q := 1) C dX12_span_0 rfl rfl rfl ?_
  refine me_iconst (v := (0 : Int32)) (q := 2) C dX12_span_1 (by decide) rfl ?_
  refine me_bipush (v := (7 : Int32)) (q := 4) C dX12_span_2 (by decide) rfl ?_
  obtain ⟨v1, g2, e3, hf⟩ := mm_cl_some hf
  refine me_callS (q := 7) (c2 := 0) (s2 := 0) (st := []) C (cX12_in_ok _ e3) mt_X12_269 ms_X12_in dX12_span_4 rfl rfl rfl (Nat.le_of_ble_eq_true rfl) rfl (Nat.le_of_ble_eq_true rfl) rfl (Nat.le_of_ble_eq_true rfl) rfl rfl ?_
  refine me_if_eq (q2 := 26) (q := 10) C dX12_span_7 (by decide) rfl (fun c4 => ?_) (fun c4 => ?_)
  · have hf := mm_if_t c4 hf
    refine me_iconst (v := (-1 : Int32)) (q := 27) C dX12_span_26 (by decide) rfl ?_
    exact me_iret C hE (Nat.le_of_ble_eq_true rfl) (Nat.le_of_ble_eq_true rfl) rfl dX12_span_27 (mm_ri hf)
  · have hf := mm_if_f c4 hf
    refine me_iload_n (q := 11) C dX12_span_10 rfl rfl rfl ?_
    obtain ⟨v5, g6, e7, hf⟩ := mm_cl_some hf
    refine me_callS (q := 14) (c2 := 0) (s2 := 0) (st := []) C (cX12_isDay_ok _ e7) mt_X12_451 ms_X12_isDay dX12_span_11 rfl rfl rfl (Nat.le_of_ble_eq_true rfl) rfl (Nat.le_of_ble_eq_true rfl) rfl (Nat.le_of_ble_eq_true rfl) rfl rfl ?_
    refine me_if_eq (q2 := 26) (q := 17) C dX12_span_14 (by decide) rfl (fun c8 => ?_) (fun c8 => ?_)
    · have hf := mm_if_t c8 hf
      refine me_iconst (v := (-1 : Int32)) (q := 27) C dX12_span_26 (by decide) rfl ?_
      exact me_iret C hE (Nat.le_of_ble_eq_true rfl) (Nat.le_of_ble_eq_true rfl) rfl dX12_span_27 (mm_ri hf)
    · have hf := mm_if_f c8 hf
      refine me_iload_n (q := 18) C dX12_span_17 rfl rfl rfl ?_
      refine me_iconst (v := (0 : Int32)) (q := 19) C dX12_span_18 (by decide) rfl ?_
      refine me_iconst (v := (5 : Int32)) (q := 20) C dX12_span_19 (by decide) rfl ?_
      obtain ⟨v9, g10, e11, hf⟩ := mm_cl_some hf
      refine me_callS (q := 23) (c2 := 0) (s2 := 0) (st := []) C (cX12_in_ok _ e11) mt_X12_269 ms_X12_in dX12_span_20 rfl rfl rfl (Nat.le_of_ble_eq_true rfl) rfl (Nat.le_of_ble_eq_true rfl) rfl (Nat.le_of_ble_eq_true rfl) rfl rfl ?_
      refine me_if_ne (q2 := 28) (q := 26) C dX12_span_23 (by decide) rfl (fun c12 => ?_) (fun c12 => ?_)
      · have hf := mm_if_t c12 hf
        refine me_aload_n (q := 29) C dX12_span_28 rfl rfl rfl ?_
        refine me_iload_n (q := 30) C dX12_span_29 rfl rfl rfl ?_
        refine me_iload_n (q := 31) C dX12_span_30 rfl rfl rfl ?_
        obtain ⟨k13, hf⟩ := mm_ck_some hf
        obtain ⟨_, g14, e15, hf⟩ := mm_cl_some hf
        refine me_callV (q := 34) (c2 := 0) (s2 := 0) (st := []) C (cX12_spans_ok _ e15) mt_X12_539 mv_X12_spans rfl (by decide) dX12_span_31 rfl k13 rfl rfl rfl (Nat.le_of_ble_eq_true rfl) rfl (Nat.le_of_ble_eq_true rfl) rfl (Nat.le_of_ble_eq_true rfl) rfl rfl ?_
        refine me_iload_n (q := 35) C dX12_span_34 rfl rfl rfl ?_
        by_cases c16 : a3 = 0
        · have hf := mm_if_t c16 hf
          refine me_tabIn (q := 68) C dX12_span_35 (by rw [c16]; decide) (by rw [c16]; decide) (by rw [c16]; rfl) (by decide) ?_
          refine me_aload_n (q := 69) C dX12_span_68 rfl rfl rfl ?_
          obtain ⟨k17, hf⟩ := mm_ck_some hf
          refine me_getJ (q := 72) C dX12_span_69 mf_X12_513 rfl rfl k17 rfl ?_
          refine me_l2i (q := 73) C dX12_span_72 rfl ?_
          exact me_iret C hE (Nat.le_of_ble_eq_true rfl) (Nat.le_of_ble_eq_true rfl) rfl dX12_span_73 (mm_ri hf)
        have hf := mm_if_f c16 hf
        by_cases c18 : a3 = 1
        · have hf := mm_if_t c18 hf
          refine me_tabIn (q := 74) C dX12_span_35 (by rw [c18]; decide) (by rw [c18]; decide) (by rw [c18]; rfl) (by decide) ?_
          refine me_aload_n (q := 75) C dX12_span_74 rfl rfl rfl ?_
          obtain ⟨k19, hf⟩ := mm_ck_some hf
          refine me_getJ (q := 78) C dX12_span_75 mf_X12_517 rfl rfl k19 rfl ?_
          refine me_l2i (q := 79) C dX12_span_78 rfl ?_
          exact me_iret C hE (Nat.le_of_ble_eq_true rfl) (Nat.le_of_ble_eq_true rfl) rfl dX12_span_79 (mm_ri hf)
        have hf := mm_if_f c18 hf
        by_cases c20 : a3 = 2
        · have hf := mm_if_t c20 hf
          refine me_tabIn (q := 80) C dX12_span_35 (by rw [c20]; decide) (by rw [c20]; decide) (by rw [c20]; rfl) (by decide) ?_
          refine me_aload_n (q := 81) C dX12_span_80 rfl rfl rfl ?_
          obtain ⟨k21, hf⟩ := mm_ck_some hf
          refine me_getJ (q := 84) C dX12_span_81 mf_X12_520 rfl rfl k21 rfl ?_
          refine me_l2i (q := 85) C dX12_span_84 rfl ?_
          exact me_iret C hE (Nat.le_of_ble_eq_true rfl) (Nat.le_of_ble_eq_true rfl) rfl dX12_span_85 (mm_ri hf)
        have hf := mm_if_f c20 hf
        by_cases c22 : a3 = 3
        · have hf := mm_if_t c22 hf
          refine me_tabIn (q := 86) C dX12_span_35 (by rw [c22]; decide) (by rw [c22]; decide) (by rw [c22]; rfl) (by decide) ?_
          refine me_aload_n (q := 87) C dX12_span_86 rfl rfl rfl ?_
          obtain ⟨k23, hf⟩ := mm_ck_some hf
          refine me_getJ (q := 90) C dX12_span_87 mf_X12_523 rfl rfl k23 rfl ?_
          refine me_l2i (q := 91) C dX12_span_90 rfl ?_
          exact me_iret C hE (Nat.le_of_ble_eq_true rfl) (Nat.le_of_ble_eq_true rfl) rfl dX12_span_91 (mm_ri hf)
        have hf := mm_if_f c22 hf
        by_cases c24 : a3 = 4
        · have hf := mm_if_t c24 hf
          refine me_tabIn (q := 92) C dX12_span_35 (by rw [c24]; decide) (by rw [c24]; decide) (by rw [c24]; rfl) (by decide) ?_
          refine me_aload_n (q := 93) C dX12_span_92 rfl rfl rfl ?_
          obtain ⟨k25, hf⟩ := mm_ck_some hf
          refine me_getI (q := 96) C dX12_span_93 mf_X12_526 rfl rfl k25 rfl ?_
          exact me_iret C hE (Nat.le_of_ble_eq_true rfl) (Nat.le_of_ble_eq_true rfl) rfl dX12_span_96 (mm_ri hf)
        have hf := mm_if_f c24 hf
        refine me_tabOut (q := 97) C dX12_span_35 ?_ (by decide) ?_
        · by_cases hz : a3.toInt < 0 ∨ 4 < a3.toInt
          · exact hz
          · exfalso
            have hw : a3.toInt = 0 ∨ a3.toInt = 1 ∨ a3.toInt = 2 ∨ a3.toInt = 3 ∨ a3.toInt = 4 := by omega
            rcases hw with hw | hw | hw | hw | hw
            · exact c16 (mm_sw hw)
            · exact c18 (mm_sw hw)
            · exact c20 (mm_sw hw)
            · exact c22 (mm_sw hw)
            · exact c24 (mm_sw hw)
        · refine me_aload_n (q := 98) C dX12_span_97 rfl rfl rfl ?_
          obtain ⟨k26, hf⟩ := mm_ck_some hf
          refine me_getI (q := 101) C dX12_span_98 mf_X12_529 rfl rfl k26 rfl ?_
          exact me_iret C hE (Nat.le_of_ble_eq_true rfl) (Nat.le_of_ble_eq_true rfl) rfl dX12_span_101 (mm_ri hf)
      · have hf := mm_if_f c12 hf
        refine me_iconst (v := (-1 : Int32)) (q := 27) C dX12_span_26 (by decide) rfl ?_
        exact me_iret C hE (Nat.le_of_ble_eq_true rfl) (Nat.le_of_ble_eq_true rfl) rfl dX12_span_27 (mm_ri hf)
