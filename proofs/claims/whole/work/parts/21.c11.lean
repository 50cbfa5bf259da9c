set_option maxRecDepth 100000 in
set_option maxHeartbeats 4000000 in
theorem cX12_theirs_ok (l : Launch) {a0 : Nat} {a1 : Int32} {a2 : Int32} {a3 : Int32} {a4 : Int32} {h : mm_H} {r : Int32} {h1 : mm_H} (hf : fX12_theirs a0 a1 a2 a3 a4 h = some (r, h1)) : mm_M l yX12_theirs cX12_theirs 7 (some .int) 6 0 0 [vR (some a0), vI a1, vI a2, vI a3, vI a4] h (some (vI r)) h1 := by
  refine mm_enter (lv := [some (vR (some a0)), some (vI a1), some (vI a2), some (vI a3), some (vI a4), none, none]) (by decide) rfl (Nat.le_of_ble_eq_true rfl) ?_
  intro X hl C hE
  subst hl
  unfold fX12_theirs at hf
  refine me_iload_n (q := 1) C dX12_theirs_0 rfl rfl rfl ?_
  refine me_iconst (v := (0 : Int32)) (q := 2) C dX12_theirs_1 (by decide) rfl ?_
  refine me_bipush (v := (7 : Int32)) (q := 4) C dX12_theirs_2 (by decide) rfl ?_
  obtain ⟨v1, g2, e3, hf⟩ := mm_cl_some hf
  refine me_callS (q := 7) (c2 := 0) (s2 := 0) (st := []) C (cX12_in_ok _ e3) mt_X12_269 ms_X12_in dX12_theirs_4 rfl rfl rfl (Nat.le_of_ble_eq_true rfl) rfl (Nat.le_of_ble_eq_true rfl) rfl (Nat.le_of_ble_eq_true rfl) rfl rfl ?_
  refine me_if_eq (q2 := 38) (q := 10) C dX12_theirs_7 (by decide) rfl (fun c4 => ?_) (fun c4 => ?_)
  · have hf := mm_if_t c4 hf
    refine me_iconst (v := (-1 : Int32)) (q := 39) C dX12_theirs_38 (by decide) rfl ?_
    exact me_iret C hE (Nat.le_of_ble_eq_true rfl) (Nat.le_of_ble_eq_true rfl) rfl dX12_theirs_39 (mm_ri hf)
  · have hf := mm_if_f c4 hf
    refine me_iload_n (q := 11) C dX12_theirs_10 rfl rfl rfl ?_
    refine me_iconst (v := (0 : Int32)) (q := 12) C dX12_theirs_11 (by decide) rfl ?_
    refine me_ldc_w (v := (1000000 : Int32)) (q := 15) C dX12_theirs_12 mc_X12_279 rfl ?_
    obtain ⟨v5, g6, e7, hf⟩ := mm_cl_some hf
    refine me_callS (q := 18) (c2 := 0) (s2 := 0) (st := []) C (cX12_in_ok _ e7) mt_X12_269 ms_X12_in dX12_theirs_15 rfl rfl rfl (Nat.le_of_ble_eq_true rfl) rfl (Nat.le_of_ble_eq_true rfl) rfl (Nat.le_of_ble_eq_true rfl) rfl rfl ?_
    refine me_if_eq (q2 := 38) (q := 21) C dX12_theirs_18 (by decide) rfl (fun c8 => ?_) (fun c8 => ?_)
    · have hf := mm_if_t c8 hf
      refine me_iconst (v := (-1 : Int32)) (q := 39) C dX12_theirs_38 (by decide) rfl ?_
      exact me_iret C hE (Nat.le_of_ble_eq_true rfl) (Nat.le_of_ble_eq_true rfl) rfl dX12_theirs_39 (mm_ri hf)
    · have hf := mm_if_f c8 hf
      refine me_iload_n (q := 22) C dX12_theirs_21 rfl rfl rfl ?_
      obtain ⟨v9, g10, e11, hf⟩ := mm_cl_some hf
      refine me_callS (q := 25) (c2 := 0) (s2 := 0) (st := []) C (cX12_isDay_ok _ e11) mt_X12_451 ms_X12_isDay dX12_theirs_22 rfl rfl rfl (Nat.le_of_ble_eq_true rfl) rfl (Nat.le_of_ble_eq_true rfl) rfl (Nat.le_of_ble_eq_true rfl) rfl rfl ?_
      refine me_if_eq (q2 := 38) (q := 28) C dX12_theirs_25 (by decide) rfl (fun c12 => ?_) (fun c12 => ?_)
      · have hf := mm_if_t c12 hf
        refine me_iconst (v := (-1 : Int32)) (q := 39) C dX12_theirs_38 (by decide) rfl ?_
        exact me_iret C hE (Nat.le_of_ble_eq_true rfl) (Nat.le_of_ble_eq_true rfl) rfl dX12_theirs_39 (mm_ri hf)
      · have hf := mm_if_f c12 hf
        refine me_iload (q := 30) C dX12_theirs_28 rfl rfl ?_
        refine me_iconst (v := (0 : Int32)) (q := 31) C dX12_theirs_30 (by decide) rfl ?_
        refine me_iconst (v := (1 : Int32)) (q := 32) C dX12_theirs_31 (by decide) rfl ?_
        obtain ⟨v13, g14, e15, hf⟩ := mm_cl_some hf
        refine me_callS (q := 35) (c2 := 0) (s2 := 0) (st := []) C (cX12_in_ok _ e15) mt_X12_269 ms_X12_in dX12_theirs_32 rfl rfl rfl (Nat.le_of_ble_eq_true rfl) rfl (Nat.le_of_ble_eq_true rfl) rfl (Nat.le_of_ble_eq_true rfl) rfl rfl ?_
        refine me_if_ne (q2 := 40) (q := 38) C dX12_theirs_35 (by decide) rfl (fun c16 => ?_) (fun c16 => ?_)
        · have hf := mm_if_t c16 hf
          refine me_aload_n (q := 41) C dX12_theirs_40 rfl rfl rfl ?_
          refine me_iload_n (q := 42) C dX12_theirs_41 rfl rfl rfl ?_
          refine me_iload_n (q := 43) C dX12_theirs_42 rfl rfl rfl ?_
          obtain ⟨k17, hf⟩ := mm_ck_some hf
          obtain ⟨_, g18, e19, hf⟩ := mm_cl_some hf
          refine me_callV (q := 46) (c2 := 0) (s2 := 0) (st := []) C (cX12_spans_ok _ e19) mt_X12_539 mv_X12_spans rfl (by decide) dX12_theirs_43 rfl k17 rfl rfl rfl (Nat.le_of_ble_eq_true rfl) rfl (Nat.le_of_ble_eq_true rfl) rfl (Nat.le_of_ble_eq_true rfl) rfl rfl ?_
          refine me_aload_n (q := 47) C dX12_theirs_46 rfl rfl rfl ?_
          obtain ⟨k20, hf⟩ := mm_ck_some hf
          refine me_getI (q := 50) C dX12_theirs_47 mf_X12_529 rfl rfl k20 rfl ?_
          refine me_iconst (v := (-1 : Int32)) (q := 51) C dX12_theirs_50 (by decide) rfl ?_
          refine me_icmp_eq (q2 := 57) (q := 54) C dX12_theirs_51 (by decide) rfl (fun c21 => ?_) (fun c21 => ?_)
          · have hf := mm_if_t c21 hf
            refine me_iload (q := 59) C dX12_theirs_57 rfl rfl ?_
            refine me_if_ne (q2 := 95) (q := 62) C dX12_theirs_59 (by decide) rfl (fun c22 => ?_) (fun c22 => ?_)
            · have hf := mm_if_t c22 hf
              refine me_aload_n (q := 96) C dX12_theirs_95 rfl rfl rfl ?_
              refine me_getJ (q := 99) C dX12_theirs_96 mf_X12_523 rfl rfl k20 rfl ?_
              refine me_lconst (v := (0 : Int64)) (q := 100) C dX12_theirs_99 (by decide) rfl ?_
              refine me_lcmp (q := 101) C dX12_theirs_100 rfl ?_
              refine me_if_ne (q2 := 108) (q := 104) C dX12_theirs_101 (by decide) rfl (fun c23 => ?_) (fun c23 => ?_)
              · have hf := mm_if_t c23 hf
                refine me_iload_n (q := 109) C dX12_theirs_108 rfl rfl rfl ?_
                refine me_i2l (q := 110) C dX12_theirs_109 rfl ?_
                refine me_aload_n (q := 111) C dX12_theirs_110 rfl rfl rfl ?_
                refine me_getJ (q := 114) C dX12_theirs_111 mf_X12_520 rfl rfl k20 rfl ?_
                refine me_lmul (q := 115) C dX12_theirs_114 rfl ?_
                refine me_aload_n (q := 116) C dX12_theirs_115 rfl rfl rfl ?_
                refine me_getJ (q := 119) C dX12_theirs_116 mf_X12_523 rfl rfl k20 rfl ?_
                refine me_ladd (q := 120) C dX12_theirs_119 rfl ?_
                refine me_lconst (v := (1 : Int64)) (q := 121) C dX12_theirs_120 (by decide) rfl ?_
                refine me_lsub (q := 122) C dX12_theirs_121 rfl ?_
                refine me_aload_n (q := 123) C dX12_theirs_122 rfl rfl rfl ?_
                refine me_getJ (q := 126) C dX12_theirs_123 mf_X12_523 rfl rfl k20 rfl ?_
                obtain ⟨k24, hf⟩ := mm_ck_some hf
                refine me_ldiv (q := 127) C dX12_theirs_126 k24 rfl ?_
                obtain ⟨v25, ev25, hf⟩ := mm_lt_some hf
                refine me_topJ ev25 ?_
                refine me_lstore (q := 129) (lv2 := [some (vR (some a0)), some (vI a1), some (vI a2), some (vI a3), some (vI a4), some (vJ v25), none]) C dX12_theirs_127 (Nat.le_of_ble_eq_true rfl) rfl rfl rfl ?_
                refine me_lload (q := 131) C dX12_theirs_129 rfl rfl ?_
                refine me_ldc2_w (v := (2000000000 : Int64)) (q := 134) C dX12_theirs_131 mc_X12_542 rfl ?_
                refine me_lcmp (q := 135) C dX12_theirs_134 rfl ?_
                refine me_if_le (q2 := 144) (q := 138) C dX12_theirs_135 (by decide) rfl (fun c26 => ?_) (fun c26 => ?_)
                · have hf := mm_if_t c26 hf
                  refine me_lload (q := 146) C dX12_theirs_144 rfl rfl ?_
                  refine me_l2i (q := 147) C dX12_theirs_146 rfl ?_
                  exact me_iret C hE (Nat.le_of_ble_eq_true rfl) (Nat.le_of_ble_eq_true rfl) rfl dX12_theirs_147 (mm_ri hf)
                · have hf := mm_if_f c26 hf
                  refine me_ldc_w (v := (2000000000 : Int32)) (q := 141) C dX12_theirs_138 mc_X12_544 rfl ?_
                  refine me_goto (q := 147) C dX12_theirs_141 (by decide) ?_
                  exact me_iret C hE (Nat.le_of_ble_eq_true rfl) (Nat.le_of_ble_eq_true rfl) rfl dX12_theirs_147 (mm_ri hf)
              · have hf := mm_if_f c23 hf
                refine me_ldc_w (v := (2000000000 : Int32)) (q := 107) C dX12_theirs_104 mc_X12_544 rfl ?_
                exact me_iret C hE (Nat.le_of_ble_eq_true rfl) (Nat.le_of_ble_eq_true rfl) rfl dX12_theirs_107 (mm_ri hf)
            · have hf := mm_if_f c22 hf
              refine me_iload_n (q := 63) C dX12_theirs_62 rfl rfl rfl ?_
              refine me_i2l (q := 64) C dX12_theirs_63 rfl ?_
              refine me_aload_n (q := 65) C dX12_theirs_64 rfl rfl rfl ?_
              refine me_getJ (q := 68) C dX12_theirs_65 mf_X12_513 rfl rfl k20 rfl ?_
              refine me_lmul (q := 69) C dX12_theirs_68 rfl ?_
              refine me_aload_n (q := 70) C dX12_theirs_69 rfl rfl rfl ?_
              refine me_getJ (q := 73) C dX12_theirs_70 mf_X12_517 rfl rfl k20 rfl ?_
              obtain ⟨k27, hf⟩ := mm_ck_some hf
              refine me_ldiv (q := 74) C dX12_theirs_73 k27 rfl ?_
              obtain ⟨v28, ev28, hf⟩ := mm_lt_some hf
              refine me_topJ ev28 ?_
              refine me_lstore (q := 76) (lv2 := [some (vR (some a0)), some (vI a1), some (vI a2), some (vI a3), some (vI a4), some (vJ v28), none]) C dX12_theirs_74 (Nat.le_of_ble_eq_true rfl) rfl rfl rfl ?_
              refine me_lload (q := 78) C dX12_theirs_76 rfl rfl ?_
              refine me_ldc2_w (v := (2000000000 : Int64)) (q := 81) C dX12_theirs_78 mc_X12_542 rfl ?_
              refine me_lcmp (q := 82) C dX12_theirs_81 rfl ?_
              refine me_if_le (q2 := 91) (q := 85) C dX12_theirs_82 (by decide) rfl (fun c29 => ?_) (fun c29 => ?_)
              · have hf := mm_if_t c29 hf
                refine me_lload (q := 93) C dX12_theirs_91 rfl rfl ?_
                refine me_l2i (q := 94) C dX12_theirs_93 rfl ?_
                exact me_iret C hE (Nat.le_of_ble_eq_true rfl) (Nat.le_of_ble_eq_true rfl) rfl dX12_theirs_94 (mm_ri hf)
              · have hf := mm_if_f c29 hf
                refine me_ldc_w (v := (2000000000 : Int32)) (q := 88) C dX12_theirs_85 mc_X12_544 rfl ?_
                refine me_goto (q := 94) C dX12_theirs_88 (by decide) ?_
                exact me_iret C hE (Nat.le_of_ble_eq_true rfl) (Nat.le_of_ble_eq_true rfl) rfl dX12_theirs_94 (mm_ri hf)
          · have hf := mm_if_f c21 hf
            refine me_bipush (v := (-2 : Int32)) (q := 56) C dX12_theirs_54 (by decide) rfl ?_
            exact me_iret C hE (Nat.le_of_ble_eq_true rfl) (Nat.le_of_ble_eq_true rfl) rfl dX12_theirs_56 (mm_ri hf)
        · have hf := mm_if_f c16 hf
          refine me_iconst (v := (-1 : Int32)) (q := 39) C dX12_theirs_38 (by decide) rfl ?_
          exact me_iret C hE (Nat.le_of_ble_eq_true rfl) (Nat.le_of_ble_eq_true rfl) rfl dX12_theirs_39 (mm_ri hf)
set_option maxRecDepth 100000 in
set_option maxHeartbeats 4000000 in
theorem cX12_order_L30 {X : mm_X} (C : mm_C X cX12_order yX12_order 4 0 0) {r : Int32} {h1 : mm_H} (hE : mm_End X 0 0 (some .boolean) (some (vI r)) h1) {b0 : Nat} {b1 : Int32} {b2 : Int64} {b4 : Int32} (K84 : mm_H → Option (Int32 × mm_H)) : ∀ (n : Nat) (x5 : Int32) (x6 : Int32) (h : mm_H), fX12_order_L30 b0 b1 b2 b4 K84 n x5 x6 h = some (r, h1) → (∀ (h : mm_H), K84 h = some (r, h1) → mm_E X h 0 0 84 [some (vR (some b0)), some (vI b1), some (vJ b2), none, some (vI b4), none, none, none] []) → mm_E X h 0 0 30 [some (vR (some b0)), some (vI b1), some (vJ b2), none, some (vI b4), some (vI x5), some (vI x6), none] [] := by
  intro n
  induction n with
  | zero =>
    intro x5 x6 h hf
    exact absurd (show (none : Option (Int32 × mm_H)) = some (r, h1) from hf) (by simp)
  | succ n ih =>
    intro x5 x6 h hf hk84
    have hf : fX12_order_L30_b b0 b1 b2 b4 K84 (fX12_order_L30 b0 b1 b2 b4 K84 n) x5 x6 h = some (r, h1) := hf
    unfold fX12_order_L30_b at hf
    refine me_iload (q := 32) C dX12_order_30 rfl rfl ?_
    refine me_iload_n (q := 33) C dX12_order_32 rfl rfl rfl ?_
    refine me_icmp_ge (q2 := 84) (q := 36) C dX12_order_33 (by decide) rfl (fun c9 => ?_) (fun c9 => ?_)
    · have hf := mm_if_t c9 hf
      refine me_mask [true, true, true, false, true, false, false, false] (lv2 := [some (vR (some b0)), some (vI b1), some (vJ b2), none, some (vI b4), none, none, none]) rfl ?_
      exact hk84 _ hf
    · have hf := mm_if_f c9 hf
      refine me_lload_n (q := 37) C dX12_order_36 rfl rfl rfl ?_
      refine me_iconst (v := (4 : Int32)) (q := 38) C dX12_order_37 (by decide) rfl ?_
      refine me_iload (q := 40) C dX12_order_38 rfl rfl ?_
      refine me_imul (q := 41) C dX12_order_40 rfl ?_
      refine me_lshr (q := 42) C dX12_order_41 rfl ?_
      refine me_ldc2_w (v := (15 : Int64)) (q := 45) C dX12_order_42 mc_X12_545 rfl ?_
      refine me_land (q := 46) C dX12_order_45 rfl ?_
      refine me_l2i (q := 47) C dX12_order_46 rfl ?_
      obtain ⟨v10, ev10, hf⟩ := mm_lt_some hf
      refine me_topI ev10 ?_
      refine me_istore (q := 49) (lv2 := [some (vR (some b0)), some (vI b1), some (vJ b2), none, some (vI b4), some (vI x5), some (vI x6), some (vI v10)]) C dX12_order_47 (Nat.le_of_ble_eq_true rfl) rfl rfl rfl ?_
      refine me_iload (q := 51) C dX12_order_49 rfl rfl ?_
      refine me_bipush (v := (8 : Int32)) (q := 53) C dX12_order_51 (by decide) rfl ?_
      refine me_icmp_ge (q2 := 67) (q := 56) C dX12_order_53 (by decide) rfl (fun c11 => ?_) (fun c11 => ?_)
      · have hf := mm_if_t c11 hf
        refine me_iconst (v := (0 : Int32)) (q := 68) C dX12_order_67 (by decide) rfl ?_
        exact me_zret C hE (Nat.le_of_ble_eq_true rfl) (Nat.le_of_ble_eq_true rfl) rfl (Or.inl rfl) dX12_order_68 (mm_ri hf)
      · have hf := mm_if_f c11 hf
        refine me_iload (q := 58) C dX12_order_56 rfl rfl ?_
        refine me_iload (q := 60) C dX12_order_58 rfl rfl ?_
        refine me_ishr (q := 61) C dX12_order_60 rfl ?_
        refine me_iconst (v := (1 : Int32)) (q := 62) C dX12_order_61 (by decide) rfl ?_
        refine me_iand (q := 63) C dX12_order_62 rfl ?_
        refine me_iconst (v := (1 : Int32)) (q := 64) C dX12_order_63 (by decide) rfl ?_
        refine me_icmp_ne (q2 := 69) (q := 67) C dX12_order_64 (by decide) rfl (fun c12 => ?_) (fun c12 => ?_)
        · have hf := mm_if_t c12 hf
          refine me_iload (q := 71) C dX12_order_69 rfl rfl ?_
          refine me_iconst (v := (1 : Int32)) (q := 72) C dX12_order_71 (by decide) rfl ?_
          refine me_iload (q := 74) C dX12_order_72 rfl rfl ?_
          refine me_ishl (q := 75) C dX12_order_74 rfl ?_
          refine me_ior (q := 76) C dX12_order_75 rfl ?_
          obtain ⟨v13, ev13, hf⟩ := mm_lt_some hf
          refine me_topI ev13 ?_
          refine me_istore (q := 78) (lv2 := [some (vR (some b0)), some (vI b1), some (vJ b2), none, some (vI b4), some (vI v13), some (vI x6), some (vI v10)]) C dX12_order_76 (Nat.le_of_ble_eq_true rfl) rfl rfl rfl ?_
          obtain ⟨v14, ev14, hf⟩ := mm_lt_some hf
          refine me_iinc (q := 81) (v := v14) (lv2 := [some (vR (some b0)), some (vI b1), some (vJ b2), none, some (vI b4), some (vI v13), some (vI v14), some (vI v10)]) C dX12_order_78 rfl (by rw [ev14]; rfl) (Nat.le_of_ble_eq_true rfl) rfl rfl rfl ?_
          refine me_goto (q := 30) C dX12_order_81 (by decide) ?_
          refine me_mask [true, true, true, false, true, true, true, false] (lv2 := [some (vR (some b0)), some (vI b1), some (vJ b2), none, some (vI b4), some (vI v13), some (vI v14), none]) rfl ?_
          exact ih _ _ _ hf hk84
        · have hf := mm_if_f c12 hf
          refine me_iconst (v := (0 : Int32)) (q := 68) C dX12_order_67 (by decide) rfl ?_
          exact me_zret C hE (Nat.le_of_ble_eq_true rfl) (Nat.le_of_ble_eq_true rfl) rfl (Or.inl rfl) dX12_order_68 (mm_ri hf)
set_option maxRecDepth 100000 in
set_option maxHeartbeats 4000000 in
theorem cX12_order_L98 {X : mm_X} (C : mm_C X cX12_order yX12_order 4 0 0) {r : Int32} {h1 : mm_H} (hE : mm_End X 0 0 (some .boolean) (some (vI r)) h1) {b0 : Nat} {b1 : Int32} {b2 : Int64} (K128 : mm_H → Option (Int32 × mm_H)) : ∀ (n : Nat) (x6 : Int32) (h : mm_H), fX12_order_L98 b0 b1 b2 K128 n x6 h = some (r, h1) → (∀ (h : mm_H), K128 h = some (r, h1) → mm_E X h 0 0 128 [none, none, none, none, none, none, none, none] []) → mm_E X h 0 0 98 [some (vR (some b0)), some (vI b1), some (vJ b2), none, none, none, some (vI x6), none] [] := by
  intro n
  induction n with
  | zero =>
    intro x6 h hf
    exact absurd (show (none : Option (Int32 × mm_H)) = some (r, h1) from hf) (by simp)
  | succ n ih =>
    intro x6 h hf hk128
    have hf : fX12_order_L98_b b0 b1 b2 K128 (fX12_order_L98 b0 b1 b2 K128 n) x6 h = some (r, h1) := hf
    unfold fX12_order_L98_b at hf
    refine me_iload (q := 100) C dX12_order_98 rfl rfl ?_
    refine me_iload_n (q := 101) C dX12_order_100 rfl rfl rfl ?_
    refine me_icmp_ge (q2 := 128) (q := 104) C dX12_order_101 (by decide) rfl (fun c19 => ?_) (fun c19 => ?_)
    · have hf := mm_if_t c19 hf
      refine me_mask [false, false, false, false, false, false, false, false] (lv2 := [none, none, none, none, none, none, none, none]) rfl ?_
      exact hk128 _ hf
    · have hf := mm_if_f c19 hf
      refine me_aload_n (q := 105) C dX12_order_104 rfl rfl rfl ?_
      obtain ⟨k20, hf⟩ := mm_ck_some hf
      refine me_getR (q := 108) C dX12_order_105 mf_X12_173 rfl rfl k20 rfl ?_
      refine me_iload (q := 110) C dX12_order_108 rfl rfl ?_
      refine me_lload_n (q := 111) C dX12_order_110 rfl rfl rfl ?_
      refine me_iconst (v := (4 : Int32)) (q := 112) C dX12_order_111 (by decide) rfl ?_
      refine me_iload (q := 114) C dX12_order_112 rfl rfl ?_
      refine me_imul (q := 115) C dX12_order_114 rfl ?_
      refine me_lshr (q := 116) C dX12_order_115 rfl ?_
      refine me_ldc2_w (v := (15 : Int64)) (q := 119) C dX12_order_116 mc_X12_545 rfl ?_
      refine me_land (q := 120) C dX12_order_119 rfl ?_
      refine me_l2i (q := 121) C dX12_order_120 rfl ?_
      obtain ⟨u21, eu21, hf⟩ := mm_rf_some hf
      obtain ⟨k22, hf⟩ := mm_ck_some hf
      obtain ⟨k23, hf⟩ := mm_ck_some hf
      obtain ⟨g24, eg24, hf⟩ := mm_lt_some hf
      refine me_iastH (q := 122) C eg24 dX12_order_121 eu21 k22 k23 rfl ?_
      obtain ⟨v25, ev25, hf⟩ := mm_lt_some hf
      refine me_iinc (q := 125) (v := v25) (lv2 := [some (vR (some b0)), some (vI b1), some (vJ b2), none, none, none, some (vI v25), none]) C dX12_order_122 rfl (by rw [ev25]; rfl) (Nat.le_of_ble_eq_true rfl) rfl rfl rfl ?_
      refine me_goto (q := 98) C dX12_order_125 (by decide) ?_
      exact ih _ _ hf hk128
set_option maxRecDepth 100000 in
set_option maxHeartbeats 4000000 in
theorem cX12_order_ok (l : Launch) {a0 : Nat} {a1 : Int32} {a2 : Int64} {a4 : Int32} {h : mm_H} {r : Int32} {h1 : mm_H} (hf : fX12_order a0 a1 a2 a4 h = some (r, h1)) : mm_M l yX12_order cX12_order 8 (some .boolean) 4 0 0 [vR (some a0), vI a1, vJ a2, vI a4] h (some (vI r)) h1 := by
  refine mm_enter (lv := [some (vR (some a0)), some (vI a1), some (vJ a2), none, some (vI a4), none, none, none]) (by decide) rfl (Nat.le_of_ble_eq_true rfl) ?_
  intro X hl C hE
  subst hl
  unfold fX12_order at hf
  refine me_iload_n (q := 1) C dX12_order_0 rfl rfl rfl ?_
  refine me_iconst (v := (1 : Int32)) (q := 2) C dX12_order_1 (by decide) rfl ?_
  refine me_bipush (v := (8 : Int32)) (q := 4) C dX12_order_2 (by decide) rfl ?_
  obtain ⟨v1, g2, e3, hf⟩ := mm_cl_some hf
  refine me_callS (q := 7) (c2 := 0) (s2 := 0) (st := []) C (cX12_in_ok _ e3) mt_X12_269 ms_X12_in dX12_order_4 rfl rfl rfl (Nat.le_of_ble_eq_true rfl) rfl (Nat.le_of_ble_eq_true rfl) rfl (Nat.le_of_ble_eq_true rfl) rfl rfl ?_
  refine me_if_eq (q2 := 22) (q := 10) C dX12_order_7 (by decide) rfl (fun c4 => ?_) (fun c4 => ?_)
  · have hf := mm_if_t c4 hf
    refine me_iconst (v := (0 : Int32)) (q := 23) C dX12_order_22 (by decide) rfl ?_
    exact me_zret C hE (Nat.le_of_ble_eq_true rfl) (Nat.le_of_ble_eq_true rfl) rfl (Or.inl rfl) dX12_order_23 (mm_ri hf)
  · have hf := mm_if_f c4 hf
    refine me_iload (q := 12) C dX12_order_10 rfl rfl ?_
    refine me_iconst (v := (1 : Int32)) (q := 13) C dX12_order_12 (by decide) rfl ?_
    refine me_sipush (v := (400 : Int32)) (q := 16) C dX12_order_13 (by decide) rfl ?_
    obtain ⟨v5, g6, e7, hf⟩ := mm_cl_some hf
    refine me_callS (q := 19) (c2 := 0) (s2 := 0) (st := []) C (cX12_in_ok _ e7) mt_X12_269 ms_X12_in dX12_order_16 rfl rfl rfl (Nat.le_of_ble_eq_true rfl) rfl (Nat.le_of_ble_eq_true rfl) rfl (Nat.le_of_ble_eq_true rfl) rfl rfl ?_
    refine me_if_ne (q2 := 24) (q := 22) C dX12_order_19 (by decide) rfl (fun c8 => ?_) (fun c8 => ?_)
    · have hf := mm_if_t c8 hf
      refine me_iconst (v := (0 : Int32)) (q := 25) C dX12_order_24 (by decide) rfl ?_
      refine me_istore (q := 27) (lv2 := [some (vR (some a0)), some (vI a1), some (vJ a2), none, some (vI a4), some (vI (0 : Int32)), none, none]) C dX12_order_25 (Nat.le_of_ble_eq_true rfl) rfl rfl rfl ?_
      refine me_iconst (v := (0 : Int32)) (q := 28) C dX12_order_27 (by decide) rfl ?_
      refine me_istore (q := 30) (lv2 := [some (vR (some a0)), some (vI a1), some (vJ a2), none, some (vI a4), some (vI (0 : Int32)), some (vI (0 : Int32)), none]) C dX12_order_28 (Nat.le_of_ble_eq_true rfl) rfl rfl rfl ?_
      refine cX12_order_L30 C hE _ _ _ _ _ hf ?_
      · intro g15 hf
        refine me_aload_n (q := 85) C dX12_order_84 rfl rfl rfl ?_
        refine me_iload_n (q := 86) C dX12_order_85 rfl rfl rfl ?_
        obtain ⟨k16, hf⟩ := mm_ck_some hf
        obtain ⟨g17, eg17, hf⟩ := mm_lt_some hf
        refine me_putI (q := 89) C eg17 dX12_order_86 mf_X12_167 mp_X12_13_73 rfl (by decide) rfl k16 rfl ?_
        refine me_aload_n (q := 90) C dX12_order_89 rfl rfl rfl ?_
        refine me_iload (q := 92) C dX12_order_90 rfl rfl ?_
        obtain ⟨g18, eg18, hf⟩ := mm_lt_some hf
        refine me_putI (q := 95) C eg18 dX12_order_92 mf_X12_170 mp_X12_13_74 rfl (by decide) rfl (mm_kI eg17 k16) rfl ?_
        refine me_iconst (v := (0 : Int32)) (q := 96) C dX12_order_95 (by decide) rfl ?_
        refine me_istore (q := 98) (lv2 := [some (vR (some a0)), some (vI a1), some (vJ a2), none, some (vI a4), none, some (vI (0 : Int32)), none]) C dX12_order_96 (Nat.le_of_ble_eq_true rfl) rfl rfl rfl ?_
        refine me_mask [true, true, true, false, false, false, true, false] (lv2 := [some (vR (some a0)), some (vI a1), some (vJ a2), none, none, none, some (vI (0 : Int32)), none]) rfl ?_
        refine cX12_order_L98 C hE _ _ _ _ hf ?_
        · intro g26 hf
          refine me_iconst (v := (1 : Int32)) (q := 129) C dX12_order_128 (by decide) rfl ?_
          exact me_zret C hE (Nat.le_of_ble_eq_true rfl) (Nat.le_of_ble_eq_true rfl) rfl (Or.inr rfl) dX12_order_129 (mm_ri hf)
    · have hf := mm_if_f c8 hf
      refine me_iconst (v := (0 : Int32)) (q := 23) C dX12_order_22 (by decide) rfl ?_
      exact me_zret C hE (Nat.le_of_ble_eq_true rfl) (Nat.le_of_ble_eq_true rfl) rfl (Or.inl rfl) dX12_order_23 (mm_ri hf)
set_option maxRecDepth 100000 in
set_option maxHeartbeats 4000000 in
theorem cX12_ship_ok (l : Launch) {a0 : Nat} {a1 : Int32} {a2 : Int32} {a3 : Int32} {a4 : Int32} {h : mm_H} {r : Int32} {h1 : mm_H} (hf : fX12_ship a0 a1 a2 a3 a4 h = some (r, h1)) : mm_M l yX12_ship cX12_ship 5 (some .int) 4 0 0 [vR (some a0), vI a1, vI a2, vI a3, vI a4] h (some (vI r)) h1 := by
  refine mm_enter (lv := [some (vR (some a0)), some (vI a1), some (vI a2), some (vI a3), some (vI a4)]) (by decide) rfl (Nat.le_of_ble_eq_true rfl) ?_
  intro X hl C hE
  subst hl
  unfold fX12_ship at hf
  refine me_aload_n (q := 1) C dX12_ship_0 rfl rfl rfl ?_
  obtain ⟨k1, hf⟩ := mm_ck_some hf
  refine me_getI (q := 4) C dX12_ship_1 mf_X12_547 rfl rfl k1 rfl ?_
  refine me_bipush (v := (20 : Int32)) (q := 6) C dX12_ship_4 (by decide) rfl ?_
  refine me_icmp_eq (q2 := 55) (q := 9) C dX12_ship_6 (by decide) rfl (fun c2 => ?_) (fun c2 => ?_)
  · have hf := mm_if_t c2 hf
    refine me_iconst (v := (-1 : Int32)) (q := 56) C dX12_ship_55 (by decide) rfl ?_
    exact me_iret C hE (Nat.le_of_ble_eq_true rfl) (Nat.le_of_ble_eq_true rfl) rfl dX12_ship_56 (mm_ri hf)
  · have hf := mm_if_f c2 hf
    refine me_iload_n (q := 10) C dX12_ship_9 rfl rfl rfl ?_
    refine me_iconst (v := (0 : Int32)) (q := 11) C dX12_ship_10 (by decide) rfl ?_
    refine me_bipush (v := (7 : Int32)) (q := 13) C dX12_ship_11 (by decide) rfl ?_
    obtain ⟨v3, g4, e5, hf⟩ := mm_cl_some hf
    refine me_callS (q := 16) (c2 := 0) (s2 := 0) (st := []) C (cX12_in_ok _ e5) mt_X12_269 ms_X12_in dX12_ship_13 rfl rfl rfl (Nat.le_of_ble_eq_true rfl) rfl (Nat.le_of_ble_eq_true rfl) rfl (Nat.le_of_ble_eq_true rfl) rfl rfl ?_
    refine me_if_eq (q2 := 55) (q := 19) C dX12_ship_16 (by decide) rfl (fun c6 => ?_) (fun c6 => ?_)
    · have hf := mm_if_t c6 hf
      refine me_iconst (v := (-1 : Int32)) (q := 56) C dX12_ship_55 (by decide) rfl ?_
      exact me_iret C hE (Nat.le_of_ble_eq_true rfl) (Nat.le_of_ble_eq_true rfl) rfl dX12_ship_56 (mm_ri hf)
    · have hf := mm_if_f c6 hf
      refine me_iload_n (q := 20) C dX12_ship_19 rfl rfl rfl ?_
      refine me_aload_n (q := 21) C dX12_ship_20 rfl rfl rfl ?_
      obtain ⟨k7, hf⟩ := mm_ck_some hf
      refine me_getI (q := 24) C dX12_ship_21 mf_X12_273 rfl rfl k7 rfl ?_
      refine me_sipush (v := (3999 : Int32)) (q := 27) C dX12_ship_24 (by decide) rfl ?_
      obtain ⟨v8, g9, e10, hf⟩ := mm_cl_some hf
      refine me_callS (q := 30) (c2 := 0) (s2 := 0) (st := []) C (cX12_in_ok _ e10) mt_X12_269 ms_X12_in dX12_ship_27 rfl rfl rfl (Nat.le_of_ble_eq_true rfl) rfl (Nat.le_of_ble_eq_true rfl) rfl (Nat.le_of_ble_eq_true rfl) rfl rfl ?_
      refine me_if_eq (q2 := 55) (q := 33) C dX12_ship_30 (by decide) rfl (fun c11 => ?_) (fun c11 => ?_)
      · have hf := mm_if_t c11 hf
        refine me_iconst (v := (-1 : Int32)) (q := 56) C dX12_ship_55 (by decide) rfl ?_
        exact me_iret C hE (Nat.le_of_ble_eq_true rfl) (Nat.le_of_ble_eq_true rfl) rfl dX12_ship_56 (mm_ri hf)
      · have hf := mm_if_f c11 hf
        refine me_iload_n (q := 34) C dX12_ship_33 rfl rfl rfl ?_
        refine me_iconst (v := (1 : Int32)) (q := 35) C dX12_ship_34 (by decide) rfl ?_
        refine me_bipush (v := (99 : Int32)) (q := 37) C dX12_ship_35 (by decide) rfl ?_
        obtain ⟨v12, g13, e14, hf⟩ := mm_cl_some hf
        refine me_callS (q := 40) (c2 := 0) (s2 := 0) (st := []) C (cX12_in_ok _ e14) mt_X12_269 ms_X12_in dX12_ship_37 rfl rfl rfl (Nat.le_of_ble_eq_true rfl) rfl (Nat.le_of_ble_eq_true rfl) rfl (Nat.le_of_ble_eq_true rfl) rfl rfl ?_
        refine me_if_eq (q2 := 55) (q := 43) C dX12_ship_40 (by decide) rfl (fun c15 => ?_) (fun c15 => ?_)
        · have hf := mm_if_t c15 hf
          refine me_iconst (v := (-1 : Int32)) (q := 56) C dX12_ship_55 (by decide) rfl ?_
          exact me_iret C hE (Nat.le_of_ble_eq_true rfl) (Nat.le_of_ble_eq_true rfl) rfl dX12_ship_56 (mm_ri hf)
        · have hf := mm_if_f c15 hf
          refine me_iload (q := 45) C dX12_ship_43 rfl rfl ?_
          refine me_iconst (v := (1 : Int32)) (q := 46) C dX12_ship_45 (by decide) rfl ?_
          refine me_ldc_w (v := (1000000 : Int32)) (q := 49) C dX12_ship_46 mc_X12_279 rfl ?_
          obtain ⟨v16, g17, e18, hf⟩ := mm_cl_some hf
          refine me_callS (q := 52) (c2 := 0) (s2 := 0) (st := []) C (cX12_in_ok _ e18) mt_X12_269 ms_X12_in dX12_ship_49 rfl rfl rfl (Nat.le_of_ble_eq_true rfl) rfl (Nat.le_of_ble_eq_true rfl) rfl (Nat.le_of_ble_eq_true rfl) rfl rfl ?_
          refine me_if_ne (q2 := 57) (q := 55) C dX12_ship_52 (by decide) rfl (fun c19 => ?_) (fun c19 => ?_)
          · have hf := mm_if_t c19 hf
            refine me_aload_n (q := 58) C dX12_ship_57 rfl rfl rfl ?_
            obtain ⟨k20, hf⟩ := mm_ck_some hf
            refine me_getR (q := 61) C dX12_ship_58 mf_X12_176 rfl rfl k20 rfl ?_
            refine me_aload_n (q := 62) C dX12_ship_61 rfl rfl rfl ?_
            refine me_getI (q := 65) C dX12_ship_62 mf_X12_547 rfl rfl k20 rfl ?_
            refine me_iload_n (q := 66) C dX12_ship_65 rfl rfl rfl ?_
            obtain ⟨u21, eu21, hf⟩ := mm_rf_some hf
            obtain ⟨k22, hf⟩ := mm_ck_some hf
            obtain ⟨k23, hf⟩ := mm_ck_some hf
            obtain ⟨g24, eg24, hf⟩ := mm_lt_some hf
            refine me_iastH (q := 67) C eg24 dX12_ship_66 eu21 k22 k23 rfl ?_
            refine me_aload_n (q := 68) C dX12_ship_67 rfl rfl rfl ?_
            refine me_getR (q := 71) C dX12_ship_68 mf_X12_179 rfl rfl (mm_kI eg24 k20) rfl ?_
            refine me_aload_n (q := 72) C dX12_ship_71 rfl rfl rfl ?_
            refine me_getI (q := 75) C dX12_ship_72 mf_X12_547 rfl rfl (mm_kI eg24 k20) rfl ?_
            refine me_iload_n (q := 76) C dX12_ship_75 rfl rfl rfl ?_
            obtain ⟨u25, eu25, hf⟩ := mm_rf_some hf
            obtain ⟨k26, hf⟩ := mm_ck_some hf
            obtain ⟨k27, hf⟩ := mm_ck_some hf
            obtain ⟨g28, eg28, hf⟩ := mm_lt_some hf
            refine me_iastH (q := 77) C eg28 dX12_ship_76 eu25 k26 k27 rfl ?_
            refine me_aload_n (q := 78) C dX12_ship_77 rfl rfl rfl ?_
            refine me_getR (q := 81) C dX12_ship_78 mf_X12_182 rfl rfl (mm_kI eg28 (mm_kI eg24 k20)) rfl ?_
            refine me_aload_n (q := 82) C dX12_ship_81 rfl rfl rfl ?_
            refine me_getI (q := 85) C dX12_ship_82 mf_X12_547 rfl rfl (mm_kI eg28 (mm_kI eg24 k20)) rfl ?_
            refine me_iload_n (q := 86) C dX12_ship_85 rfl rfl rfl ?_
            obtain ⟨u29, eu29, hf⟩ := mm_rf_some hf
            obtain ⟨k30, hf⟩ := mm_ck_some hf
            obtain ⟨k31, hf⟩ := mm_ck_some hf
            obtain ⟨g32, eg32, hf⟩ := mm_lt_some hf
            refine me_iastH (q := 87) C eg32 dX12_ship_86 eu29 k30 k31 rfl ?_
            refine me_aload_n (q := 88) C dX12_ship_87 rfl rfl rfl ?_
            refine me_getR (q := 91) C dX12_ship_88 mf_X12_185 rfl rfl (mm_kI eg32 (mm_kI eg28 (mm_kI eg24 k20))) rfl ?_
            refine me_aload_n (q := 92) C dX12_ship_91 rfl rfl rfl ?_
            refine me_getI (q := 95) C dX12_ship_92 mf_X12_547 rfl rfl (mm_kI eg32 (mm_kI eg28 (mm_kI eg24 k20))) rfl ?_
            refine me_iload (q := 97) C dX12_ship_95 rfl rfl ?_
            obtain ⟨u33, eu33, hf⟩ := mm_rf_some hf
            obtain ⟨k34, hf⟩ := mm_ck_some hf
            obtain ⟨k35, hf⟩ := mm_ck_some hf
            obtain ⟨g36, eg36, hf⟩ := mm_lt_some hf
            refine me_iastH (q := 98) C eg36 dX12_ship_97 eu33 k34 k35 rfl ?_
            refine me_aload_n (q := 99) C dX12_ship_98 rfl rfl rfl ?_
            refine me_dup (q := 100) C dX12_ship_99 rfl rfl ?_
            refine me_getI (q := 103) C dX12_ship_100 mf_X12_547 rfl rfl (mm_kI eg36 (mm_kI eg32 (mm_kI eg28 (mm_kI eg24 k20)))) rfl ?_
            refine me_iconst (v := (1 : Int32)) (q := 104) C dX12_ship_103 (by decide) rfl ?_
            refine me_iadd (q := 105) C dX12_ship_104 rfl ?_
            obtain ⟨g37, eg37, hf⟩ := mm_lt_some hf
            refine me_putI (q := 108) C eg37 dX12_ship_105 mf_X12_547 mp_X12_13_76 rfl (by decide) rfl (mm_kI eg36 (mm_kI eg32 (mm_kI eg28 (mm_kI eg24 k20)))) rfl ?_
            refine me_aload_n (q := 109) C dX12_ship_108 rfl rfl rfl ?_
            refine me_getI (q := 112) C dX12_ship_109 mf_X12_547 rfl rfl (mm_kI eg37 (mm_kI eg36 (mm_kI eg32 (mm_kI eg28 (mm_kI eg24 k20))))) rfl ?_
            refine me_iconst (v := (1 : Int32)) (q := 113) C dX12_ship_112 (by decide) rfl ?_
            refine me_isub (q := 114) C dX12_ship_113 rfl ?_
            exact me_iret C hE (Nat.le_of_ble_eq_true rfl) (Nat.le_of_ble_eq_true rfl) rfl dX12_ship_114 (mm_ri hf)
          · have hf := mm_if_f c19 hf
            refine me_iconst (v := (-1 : Int32)) (q := 56) C dX12_ship_55 (by decide) rfl ?_
            exact me_iret C hE (Nat.le_of_ble_eq_true rfl) (Nat.le_of_ble_eq_true rfl) rfl dX12_ship_56 (mm_ri hf)
set_option maxRecDepth 100000 in
set_option maxHeartbeats 4000000 in
theorem cX12_news_ok (l : Launch) {a0 : Nat} {a1 : Int32} {a2 : Int32} {a3 : Int32} {a4 : Int32} {h : mm_H} {r : Int32} {h1 : mm_H} (hf : fX12_news a0 a1 a2 a3 a4 h = some (r, h1)) : mm_M l yX12_news cX12_news 5 (some .int) 4 0 0 [vR (some a0), vI a1, vI a2, vI a3, vI a4] h (some (vI r)) h1 := by
  refine mm_enter (lv := [some (vR (some a0)), some (vI a1), some (vI a2), some (vI a3), some (vI a4)]) (by decide) rfl (Nat.le_of_ble_eq_true rfl) ?_
  intro X hl C hE
  subst hl
  unfold fX12_news at hf
  refine me_aload_n (q := 1) C dX12_news_0 rfl rfl rfl ?_
  obtain ⟨k1, hf⟩ := mm_ck_some hf
  refine me_getI (q := 4) C dX12_news_1 mf_X12_550 rfl rfl k1 rfl ?_
  refine me_sipush (v := (200 : Int32)) (q := 7) C dX12_news_4 (by decide) rfl ?_
  refine me_icmp_eq (q2 := 53) (q := 10) C dX12_news_7 (by decide) rfl (fun c2 => ?_) (fun c2 => ?_)
  · have hf := mm_if_t c2 hf
    refine me_iconst (v := (-1 : Int32)) (q := 54) C dX12_news_53 (by decide) rfl ?_
    exact me_iret C hE (Nat.le_of_ble_eq_true rfl) (Nat.le_of_ble_eq_true rfl) rfl dX12_news_54 (mm_ri hf)
  · have hf := mm_if_f c2 hf
    refine me_iload_n (q := 11) C dX12_news_10 rfl rfl rfl ?_
    refine me_iconst (v := (0 : Int32)) (q := 12) C dX12_news_11 (by decide) rfl ?_
    refine me_bipush (v := (8 : Int32)) (q := 14) C dX12_news_12 (by decide) rfl ?_
    obtain ⟨v3, g4, e5, hf⟩ := mm_cl_some hf
    refine me_callS (q := 17) (c2 := 0) (s2 := 0) (st := []) C (cX12_in_ok _ e5) mt_X12_269 ms_X12_in dX12_news_14 rfl rfl rfl (Nat.le_of_ble_eq_true rfl) rfl (Nat.le_of_ble_eq_true rfl) rfl (Nat.le_of_ble_eq_true rfl) rfl rfl ?_
    refine me_if_eq (q2 := 53) (q := 20) C dX12_news_17 (by decide) rfl (fun c6 => ?_) (fun c6 => ?_)
    · have hf := mm_if_t c6 hf
      refine me_iconst (v := (-1 : Int32)) (q := 54) C dX12_news_53 (by decide) rfl ?_
      exact me_iret C hE (Nat.le_of_ble_eq_true rfl) (Nat.le_of_ble_eq_true rfl) rfl dX12_news_54 (mm_ri hf)
    · have hf := mm_if_f c6 hf
      refine me_iload_n (q := 21) C dX12_news_20 rfl rfl rfl ?_
      refine me_iconst (v := (0 : Int32)) (q := 22) C dX12_news_21 (by decide) rfl ?_
      refine me_bipush (v := (7 : Int32)) (q := 24) C dX12_news_22 (by decide) rfl ?_
      obtain ⟨v7, g8, e9, hf⟩ := mm_cl_some hf
      refine me_callS (q := 27) (c2 := 0) (s2 := 0) (st := []) C (cX12_in_ok _ e9) mt_X12_269 ms_X12_in dX12_news_24 rfl rfl rfl (Nat.le_of_ble_eq_true rfl) rfl (Nat.le_of_ble_eq_true rfl) rfl (Nat.le_of_ble_eq_true rfl) rfl rfl ?_
      refine me_if_eq (q2 := 53) (q := 30) C dX12_news_27 (by decide) rfl (fun c10 => ?_) (fun c10 => ?_)
      · have hf := mm_if_t c10 hf
        refine me_iconst (v := (-1 : Int32)) (q := 54) C dX12_news_53 (by decide) rfl ?_
        exact me_iret C hE (Nat.le_of_ble_eq_true rfl) (Nat.le_of_ble_eq_true rfl) rfl dX12_news_54 (mm_ri hf)
      · have hf := mm_if_f c10 hf
        refine me_iload_n (q := 31) C dX12_news_30 rfl rfl rfl ?_
        refine me_iconst (v := (0 : Int32)) (q := 32) C dX12_news_31 (by decide) rfl ?_
        refine me_sipush (v := (9999 : Int32)) (q := 35) C dX12_news_32 (by decide) rfl ?_
        obtain ⟨v11, g12, e13, hf⟩ := mm_cl_some hf
        refine me_callS (q := 38) (c2 := 0) (s2 := 0) (st := []) C (cX12_in_ok _ e13) mt_X12_269 ms_X12_in dX12_news_35 rfl rfl rfl (Nat.le_of_ble_eq_true rfl) rfl (Nat.le_of_ble_eq_true rfl) rfl (Nat.le_of_ble_eq_true rfl) rfl rfl ?_
        refine me_if_eq (q2 := 53) (q := 41) C dX12_news_38 (by decide) rfl (fun c14 => ?_) (fun c14 => ?_)
        · have hf := mm_if_t c14 hf
          refine me_iconst (v := (-1 : Int32)) (q := 54) C dX12_news_53 (by decide) rfl ?_
          exact me_iret C hE (Nat.le_of_ble_eq_true rfl) (Nat.le_of_ble_eq_true rfl) rfl dX12_news_54 (mm_ri hf)
        · have hf := mm_if_f c14 hf
          refine me_iload (q := 43) C dX12_news_41 rfl rfl ?_
          refine me_iload_n (q := 44) C dX12_news_43 rfl rfl rfl ?_
          refine me_sipush (v := (9999 : Int32)) (q := 47) C dX12_news_44 (by decide) rfl ?_
          obtain ⟨v15, g16, e17, hf⟩ := mm_cl_some hf
          refine me_callS (q := 50) (c2 := 0) (s2 := 0) (st := []) C (cX12_in_ok _ e17) mt_X12_269 ms_X12_in dX12_news_47 rfl rfl rfl (Nat.le_of_ble_eq_true rfl) rfl (Nat.le_of_ble_eq_true rfl) rfl (Nat.le_of_ble_eq_true rfl) rfl rfl ?_
          refine me_if_ne (q2 := 55) (q := 53) C dX12_news_50 (by decide) rfl (fun c18 => ?_) (fun c18 => ?_)
          · have hf := mm_if_t c18 hf
            refine me_aload_n (q := 56) C dX12_news_55 rfl rfl rfl ?_
            obtain ⟨k19, hf⟩ := mm_ck_some hf
            refine me_getR (q := 59) C dX12_news_56 mf_X12_188 rfl rfl k19 rfl ?_
            refine me_aload_n (q := 60) C dX12_news_59 rfl rfl rfl ?_
            refine me_getI (q := 63) C dX12_news_60 mf_X12_550 rfl rfl k19 rfl ?_
            refine me_iload_n (q := 64) C dX12_news_63 rfl rfl rfl ?_
            obtain ⟨u20, eu20, hf⟩ := mm_rf_some hf
            obtain ⟨k21, hf⟩ := mm_ck_some hf
            obtain ⟨k22, hf⟩ := mm_ck_some hf
            obtain ⟨g23, eg23, hf⟩ := mm_lt_some hf
            refine me_iastH (q := 65) C eg23 dX12_news_64 eu20 k21 k22 rfl ?_
            refine me_aload_n (q := 66) C dX12_news_65 rfl rfl rfl ?_
            refine me_getR (q := 69) C dX12_news_66 mf_X12_191 rfl rfl (mm_kI eg23 k19) rfl ?_
            refine me_aload_n (q := 70) C dX12_news_69 rfl rfl rfl ?_
            refine me_getI (q := 73) C dX12_news_70 mf_X12_550 rfl rfl (mm_kI eg23 k19) rfl ?_
            refine me_iload_n (q := 74) C dX12_news_73 rfl rfl rfl ?_
            obtain ⟨u24, eu24, hf⟩ := mm_rf_some hf
            obtain ⟨k25, hf⟩ := mm_ck_some hf
            obtain ⟨k26, hf⟩ := mm_ck_some hf
            obtain ⟨g27, eg27, hf⟩ := mm_lt_some hf
            refine me_iastH (q := 75) C eg27 dX12_news_74 eu24 k25 k26 rfl ?_
            refine me_aload_n (q := 76) C dX12_news_75 rfl rfl rfl ?_
            refine me_getR (q := 79) C dX12_news_76 mf_X12_194 rfl rfl (mm_kI eg27 (mm_kI eg23 k19)) rfl ?_
            refine me_aload_n (q := 80) C dX12_news_79 rfl rfl rfl ?_
            refine me_getI (q := 83) C dX12_news_80 mf_X12_550 rfl rfl (mm_kI eg27 (mm_kI eg23 k19)) rfl ?_
            refine me_iload_n (q := 84) C dX12_news_83 rfl rfl rfl ?_
            obtain ⟨u28, eu28, hf⟩ := mm_rf_some hf
            obtain ⟨k29, hf⟩ := mm_ck_some hf
            obtain ⟨k30, hf⟩ := mm_ck_some hf
            obtain ⟨g31, eg31, hf⟩ := mm_lt_some hf
            refine me_iastH (q := 85) C eg31 dX12_news_84 eu28 k29 k30 rfl ?_
            refine me_aload_n (q := 86) C dX12_news_85 rfl rfl rfl ?_
            refine me_getR (q := 89) C dX12_news_86 mf_X12_197 rfl rfl (mm_kI eg31 (mm_kI eg27 (mm_kI eg23 k19))) rfl ?_
            refine me_aload_n (q := 90) C dX12_news_89 rfl rfl rfl ?_
            refine me_getI (q := 93) C dX12_news_90 mf_X12_550 rfl rfl (mm_kI eg31 (mm_kI eg27 (mm_kI eg23 k19))) rfl ?_
            refine me_iload (q := 95) C dX12_news_93 rfl rfl ?_
            obtain ⟨u32, eu32, hf⟩ := mm_rf_some hf
            obtain ⟨k33, hf⟩ := mm_ck_some hf
            obtain ⟨k34, hf⟩ := mm_ck_some hf
            obtain ⟨g35, eg35, hf⟩ := mm_lt_some hf
            refine me_iastH (q := 96) C eg35 dX12_news_95 eu32 k33 k34 rfl ?_
            refine me_aload_n (q := 97) C dX12_news_96 rfl rfl rfl ?_
            refine me_getR (q := 100) C dX12_news_97 mf_X12_200 rfl rfl (mm_kI eg35 (mm_kI eg31 (mm_kI eg27 (mm_kI eg23 k19)))) rfl ?_
            refine me_aload_n (q := 101) C dX12_news_100 rfl rfl rfl ?_
            refine me_getI (q := 104) C dX12_news_101 mf_X12_550 rfl rfl (mm_kI eg35 (mm_kI eg31 (mm_kI eg27 (mm_kI eg23 k19)))) rfl ?_
            refine me_aload_n (q := 105) C dX12_news_104 rfl rfl rfl ?_
            refine me_getI (q := 108) C dX12_news_105 mf_X12_273 rfl rfl (mm_kI eg35 (mm_kI eg31 (mm_kI eg27 (mm_kI eg23 k19)))) rfl ?_
            obtain ⟨u36, eu36, hf⟩ := mm_rf_some hf
            obtain ⟨k37, hf⟩ := mm_ck_some hf
            obtain ⟨k38, hf⟩ := mm_ck_some hf
            obtain ⟨g39, eg39, hf⟩ := mm_lt_some hf
            refine me_iastH (q := 109) C eg39 dX12_news_108 eu36 k37 k38 rfl ?_
            refine me_aload_n (q := 110) C dX12_news_109 rfl rfl rfl ?_
            refine me_dup (q := 111) C dX12_news_110 rfl rfl ?_
            refine me_getI (q := 114) C dX12_news_111 mf_X12_550 rfl rfl (mm_kI eg39 (mm_kI eg35 (mm_kI eg31 (mm_kI eg27 (mm_kI eg23 k19))))) rfl ?_
            refine me_iconst (v := (1 : Int32)) (q := 115) C dX12_news_114 (by decide) rfl ?_
            refine me_iadd (q := 116) C dX12_news_115 rfl ?_
            obtain ⟨g40, eg40, hf⟩ := mm_lt_some hf
            refine me_putI (q := 119) C eg40 dX12_news_116 mf_X12_550 mp_X12_13_77 rfl (by decide) rfl (mm_kI eg39 (mm_kI eg35 (mm_kI eg31 (mm_kI eg27 (mm_kI eg23 k19))))) rfl ?_
            refine me_aload_n (q := 120) C dX12_news_119 rfl rfl rfl ?_
            refine me_getI (q := 123) C dX12_news_120 mf_X12_550 rfl rfl (mm_kI eg40 (mm_kI eg39 (mm_kI eg35 (mm_kI eg31 (mm_kI eg27 (mm_kI eg23 k19)))))) rfl ?_
            exact me_iret C hE (Nat.le_of_ble_eq_true rfl) (Nat.le_of_ble_eq_true rfl) rfl dX12_news_123 (mm_ri hf)
          · have hf := mm_if_f c18 hf
            refine me_iconst (v := (-1 : Int32)) (q := 54) C dX12_news_53 (by decide) rfl ?_
            exact me_iret C hE (Nat.le_of_ble_eq_true rfl) (Nat.le_of_ble_eq_true rfl) rfl dX12_news_54 (mm_ri hf)
set_option maxRecDepth 100000 in
set_option maxHeartbeats 4000000 in
theorem cX12_gathers_L4 {X : mm_X} (C : mm_C X cX12_gathers yX12_gathers 6 0 0) {r : Int32} {h1 : mm_H} (hE : mm_End X 0 0 (some .int) (some (vI r)) h1) {b0 : Nat} {b1 : Int32} (K23 : mm_H → Option (Int32 × mm_H)) : ∀ (n : Nat) (x2 : Int32) (h : mm_H), fX12_gathers_L4 b0 b1 K23 n x2 h = some (r, h1) → (∀ (h : mm_H), K23 h = some (r, h1) → mm_E X h 0 0 23 [some (vR (some b0)), some (vI b1), none, none, none, none] []) → mm_E X h 0 0 4 [some (vR (some b0)), some (vI b1), some (vI x2), none, none, none] [] := by
  intro n
  induction n with
  | zero =>
    intro x2 h hf
    exact absurd (show (none : Option (Int32 × mm_H)) = some (r, h1) from hf) (by simp)
  | succ n ih =>
    intro x2 h hf hk23
    have hf : fX12_gathers_L4_b b0 b1 K23 (fX12_gathers_L4 b0 b1 K23 n) x2 h = some (r, h1) := hf
    unfold fX12_gathers_L4_b at hf
    refine me_iload_n (q := 5) C dX12_gathers_4 rfl rfl rfl ?_
    refine me_bipush (v := (20 : Int32)) (q := 7) C dX12_gathers_5 (by decide) rfl ?_
    refine me_icmp_ge (q2 := 23) (q := 10) C dX12_gathers_7 (by decide) rfl (fun c1 => ?_) (fun c1 => ?_)
    · have hf := mm_if_t c1 hf
      refine me_mask [true, true, false, false, false, false] (lv2 := [some (vR (some b0)), some (vI b1), none, none, none, none]) rfl ?_
      exact hk23 _ hf
    · have hf := mm_if_f c1 hf
      refine me_aload_n (q := 11) C dX12_gathers_10 rfl rfl rfl ?_
      obtain ⟨k2, hf⟩ := mm_ck_some hf
      refine me_getR (q := 14) C dX12_gathers_11 mf_X12_221 rfl rfl k2 rfl ?_
      refine me_iload_n (q := 15) C dX12_gathers_14 rfl rfl rfl ?_
      refine me_iconst (v := (0 : Int32)) (q := 16) C dX12_gathers_15 (by decide) rfl ?_
      obtain ⟨u3, eu3, hf⟩ := mm_rf_some hf
      obtain ⟨k4, hf⟩ := mm_ck_some hf
      obtain ⟨k5, hf⟩ := mm_ck_some hf
      obtain ⟨g6, eg6, hf⟩ := mm_lt_some hf
      refine me_zastH (q := 17) C eg6 dX12_gathers_16 eu3 k4 k5 rfl ?_
      obtain ⟨v7, ev7, hf⟩ := mm_lt_some hf
      refine me_iinc (q := 20) (v := v7) (lv2 := [some (vR (some b0)), some (vI b1), some (vI v7), none, none, none]) C dX12_gathers_17 rfl (by rw [ev7]; rfl) (Nat.le_of_ble_eq_true rfl) rfl rfl rfl ?_
      refine me_goto (q := 4) C dX12_gathers_20 (by decide) ?_
      exact ih _ _ hf hk23
set_option maxRecDepth 100000 in
set_option maxHeartbeats 4000000 in
theorem cX12_gathers_L39 {X : mm_X} (C : mm_C X cX12_gathers yX12_gathers 6 0 0) {r : Int32} {h1 : mm_H} (hE : mm_End X 0 0 (some .int) (some (vI r)) h1) {b0 : Nat} {b1 : Int32} (K147 : Int32 → mm_H → Option (Int32 × mm_H)) : ∀ (n : Nat) (x3 : Int32) (x4 : Int32) (h : mm_H), fX12_gathers_L39 b0 b1 K147 n x3 x4 h = some (r, h1) → (∀ (y3 : Int32) (h : mm_H), K147 y3 h = some (r, h1) → mm_E X h 0 0 147 [some (vR (some b0)), some (vI b1), none, some (vI y3), none, none] []) → mm_E X h 0 0 39 [some (vR (some b0)), some (vI b1), none, some (vI x3), some (vI x4), none] [] := by
  intro n
  induction n with
  | zero =>
    intro x3 x4 h hf
    exact absurd (show (none : Option (Int32 × mm_H)) = some (r, h1) from hf) (by simp)
  | succ n ih =>
    intro x3 x4 h hf hk147
    have hf : fX12_gathers_L39_b b0 b1 K147 (fX12_gathers_L39 b0 b1 K147 n) x3 x4 h = some (r, h1) := hf
    unfold fX12_gathers_L39_b at hf
    refine me_iload (q := 41) C dX12_gathers_39 rfl rfl ?_
    refine me_aload_n (q := 42) C dX12_gathers_41 rfl rfl rfl ?_
    obtain ⟨k11, hf⟩ := mm_ck_some hf
    refine me_getI (q := 45) C dX12_gathers_42 mf_X12_547 rfl rfl k11 rfl ?_
    refine me_icmp_ge (q2 := 147) (q := 48) C dX12_gathers_45 (by decide) rfl (fun c12 => ?_) (fun c12 => ?_)
    · have hf := mm_if_t c12 hf
      refine me_mask [true, true, false, true, false, false] (lv2 := [some (vR (some b0)), some (vI b1), none, some (vI x3), none, none]) rfl ?_
      exact hk147 _ _ hf
    · have hf := mm_if_f c12 hf
      refine me_aload_n (q := 49) C dX12_gathers_48 rfl rfl rfl ?_
      refine me_getR (q := 52) C dX12_gathers_49 mf_X12_221 rfl rfl k11 rfl ?_
      refine me_iload (q := 54) C dX12_gathers_52 rfl rfl ?_
      obtain ⟨u13, eu13, hf⟩ := mm_rf_some hf
      obtain ⟨k14, hf⟩ := mm_ck_some hf
      obtain ⟨k15, hf⟩ := mm_ck_some hf
      refine me_zald (q := 55) C dX12_gathers_54 eu13 k14 k15 rfl ?_
      obtain ⟨q18, eq18, hf⟩ := mm_jn_some hf
      have Hq18 : ∀ (v16 : Int32) (g17 : mm_H), q18 v16 g17 = some (r, h1) → mm_E X g17 0 0 110 [some (vR (some b0)), some (vI b1), none, some (vI x3), some (vI x4), none] [vI v16] := by
        intro v16 g17 hf
        subst eq18
        refine me_istore (q := 112) (lv2 := [some (vR (some b0)), some (vI b1), none, some (vI x3), some (vI x4), some (vI v16)]) C dX12_gathers_110 (Nat.le_of_ble_eq_true rfl) rfl rfl rfl ?_
        refine me_iload (q := 114) C dX12_gathers_112 rfl rfl ?_
        obtain ⟨q20, eq20, hf⟩ := mm_jn_some hf
        have Hq20 : ∀ (v19 : Int32), q20 v19 = some (r, h1) → mm_E X g17 0 0 141 [some (vR (some b0)), some (vI b1), none, some (vI v19), some (vI x4), none] [] := by
          intro v19 hf
          subst eq20
          obtain ⟨v21, ev21, hf⟩ := mm_lt_some hf
          refine me_iinc (q := 144) (v := v21) (lv2 := [some (vR (some b0)), some (vI b1), none, some (vI v19), some (vI v21), none]) C dX12_gathers_141 rfl (by rw [ev21]; rfl) (Nat.le_of_ble_eq_true rfl) rfl rfl rfl ?_
          refine me_goto (q := 39) C dX12_gathers_144 (by decide) ?_
          exact ih _ _ _ hf hk147
        refine me_if_eq (q2 := 141) (q := 117) C dX12_gathers_114 (by decide) rfl (fun c22 => ?_) (fun c22 => ?_)
        · have hf := mm_if_t c22 hf
          refine me_mask [true, true, false, true, true, false] (lv2 := [some (vR (some b0)), some (vI b1), none, some (vI x3), some (vI x4), none]) rfl ?_
          exact Hq20 _ hf
        · have hf := mm_if_f c22 hf
          refine me_iload_n (q := 118) C dX12_gathers_117 rfl rfl rfl ?_
          refine me_iconst (v := (-1 : Int32)) (q := 119) C dX12_gathers_118 (by decide) rfl ?_
          obtain ⟨q23, eq23, hf⟩ := mm_jn_some hf
          have Hq23 : ∀ (_u : Unit), q23 _u = some (r, h1) → mm_E X g17 0 0 138 [some (vR (some b0)), some (vI b1), none, none, some (vI x4), none] [] := by
            intro _u hf
            subst eq23
            refine me_iload (q := 140) C dX12_gathers_138 rfl rfl ?_
            refine me_istore_n (q := 141) (lv2 := [some (vR (some b0)), some (vI b1), none, some (vI x4), some (vI x4), none]) C dX12_gathers_140 rfl (Nat.le_of_ble_eq_true rfl) rfl rfl rfl ?_
            exact Hq20 _ hf
          refine me_icmp_eq (q2 := 138) (q := 122) C dX12_gathers_119 (by decide) rfl (fun c24 => ?_) (fun c24 => ?_)
          · have hf := mm_if_t c24 hf
            refine me_mask [true, true, false, false, true, false] (lv2 := [some (vR (some b0)), some (vI b1), none, none, some (vI x4), none]) rfl ?_
            exact Hq23 () hf
          · have hf := mm_if_f c24 hf
            refine me_aload_n (q := 123) C dX12_gathers_122 rfl rfl rfl ?_
            obtain ⟨k25, hf⟩ := mm_ck_some hf
            refine me_getR (q := 126) C dX12_gathers_123 mf_X12_179 rfl rfl k25 rfl ?_
            refine me_iload (q := 128) C dX12_gathers_126 rfl rfl ?_
            obtain ⟨u26, eu26, hf⟩ := mm_rf_some hf
            obtain ⟨k27, hf⟩ := mm_ck_some hf
            obtain ⟨k28, hf⟩ := mm_ck_some hf
            refine me_iald (q := 129) C dX12_gathers_128 eu26 k27 k28 rfl ?_
            refine me_aload_n (q := 130) C dX12_gathers_129 rfl rfl rfl ?_
            refine me_getR (q := 133) C dX12_gathers_130 mf_X12_179 rfl rfl k25 rfl ?_
            refine me_iload_n (q := 134) C dX12_gathers_133 rfl rfl rfl ?_
            obtain ⟨k29, hf⟩ := mm_ck_some hf
            refine me_iald (q := 135) C dX12_gathers_134 eu26 k27 k29 rfl ?_
            refine me_icmp_ge (q2 := 141) (q := 138) C dX12_gathers_135 (by decide) rfl (fun c30 => ?_) (fun c30 => ?_)
            · have hf := mm_if_t c30 hf
              refine me_mask [true, true, false, true, true, false] (lv2 := [some (vR (some b0)), some (vI b1), none, some (vI x3), some (vI x4), none]) rfl ?_
              exact Hq20 _ hf
            · have hf := mm_if_f c30 hf
              refine me_mask [true, true, false, false, true, false] (lv2 := [some (vR (some b0)), some (vI b1), none, none, some (vI x4), none]) rfl ?_
              exact Hq23 () hf
      obtain ⟨q32, eq32, hf⟩ := mm_jn_some hf
      have Hq32 : ∀ (g31 : mm_H), q32 g31 = some (r, h1) → mm_E X g31 0 0 109 [some (vR (some b0)), some (vI b1), none, some (vI x3), some (vI x4), none] [] := by
        intro g31 hf
        subst eq32
        refine me_iconst (v := (0 : Int32)) (q := 110) C dX12_gathers_109 (by decide) rfl ?_
        exact Hq18 _ _ hf
      refine me_if_ne (q2 := 109) (q := 58) C dX12_gathers_55 (by decide) rfl (fun c33 => ?_) (fun c33 => ?_)
      · have hf := mm_if_t c33 hf
        exact Hq32 _ hf
      · have hf := mm_if_f c33 hf
        refine me_aload_n (q := 59) C dX12_gathers_58 rfl rfl rfl ?_
        refine me_getR (q := 62) C dX12_gathers_59 mf_X12_179 rfl rfl k11 rfl ?_
        refine me_iload (q := 64) C dX12_gathers_62 rfl rfl ?_
        obtain ⟨u34, eu34, hf⟩ := mm_rf_some hf
        obtain ⟨k35, hf⟩ := mm_ck_some hf
        obtain ⟨k36, hf⟩ := mm_ck_some hf
        refine me_iald (q := 65) C dX12_gathers_64 eu34 k35 k36 rfl ?_
        refine me_aload_n (q := 66) C dX12_gathers_65 rfl rfl rfl ?_
        refine me_getI (q := 69) C dX12_gathers_66 mf_X12_273 rfl rfl k11 rfl ?_
        refine me_icmp_lt (q2 := 109) (q := 72) C dX12_gathers_69 (by decide) rfl (fun c37 => ?_) (fun c37 => ?_)
        · have hf := mm_if_t c37 hf
          exact Hq32 _ hf
        · have hf := mm_if_f c37 hf
          refine me_aload_n (q := 73) C dX12_gathers_72 rfl rfl rfl ?_
          refine me_aload_n (q := 74) C dX12_gathers_73 rfl rfl rfl ?_
          refine me_getR (q := 77) C dX12_gathers_74 mf_X12_176 rfl rfl k11 rfl ?_
          refine me_iload (q := 79) C dX12_gathers_77 rfl rfl ?_
          obtain ⟨u38, eu38, hf⟩ := mm_rf_some hf
          obtain ⟨k39, hf⟩ := mm_ck_some hf
          obtain ⟨k40, hf⟩ := mm_ck_some hf
          refine me_iald (q := 80) C dX12_gathers_79 eu38 k39 k40 rfl ?_
          refine me_aload_n (q := 81) C dX12_gathers_80 rfl rfl rfl ?_
          refine me_getR (q := 84) C dX12_gathers_81 mf_X12_179 rfl rfl k11 rfl ?_
          refine me_iload (q := 86) C dX12_gathers_84 rfl rfl ?_
          obtain ⟨k41, hf⟩ := mm_ck_some hf
          refine me_iald (q := 87) C dX12_gathers_86 eu34 k35 k41 rfl ?_
          refine me_aload_n (q := 88) C dX12_gathers_87 rfl rfl rfl ?_
          refine me_getR (q := 91) C dX12_gathers_88 mf_X12_182 rfl rfl k11 rfl ?_
          refine me_iload (q := 93) C dX12_gathers_91 rfl rfl ?_
          obtain ⟨u42, eu42, hf⟩ := mm_rf_some hf
          obtain ⟨k43, hf⟩ := mm_ck_some hf
          obtain ⟨k44, hf⟩ := mm_ck_some hf
          refine me_iald (q := 94) C dX12_gathers_93 eu42 k43 k44 rfl ?_
          refine me_iadd (q := 95) C dX12_gathers_94 rfl ?_
          refine me_aload_n (q := 96) C dX12_gathers_95 rfl rfl rfl ?_
          refine me_getI (q := 99) C dX12_gathers_96 mf_X12_273 rfl rfl k11 rfl ?_
          obtain ⟨v45, g46, e47, hf⟩ := mm_cl_some hf
          refine me_callV (q := 102) (c2 := 0) (s2 := 0) (st := []) C (cX12_shuts_ok _ e47) mt_X12_469 mv_X12_shuts rfl (by decide) dX12_gathers_99 rfl k11 rfl rfl rfl (Nat.le_of_ble_eq_true rfl) rfl (Nat.le_of_ble_eq_true rfl) rfl (Nat.le_of_ble_eq_true rfl) rfl rfl ?_
          refine me_if_ne (q2 := 109) (q := 105) C dX12_gathers_102 (by decide) rfl (fun c48 => ?_) (fun c48 => ?_)
          · have hf := mm_if_t c48 hf
            exact Hq32 _ hf
          · have hf := mm_if_f c48 hf
            refine me_iconst (v := (1 : Int32)) (q := 106) C dX12_gathers_105 (by decide) rfl ?_
            refine me_goto (q := 110) C dX12_gathers_106 (by decide) ?_
            exact Hq18 _ _ hf
set_option maxRecDepth 100000 in
set_option maxHeartbeats 4000000 in
theorem cX12_gathers_L25 {X : mm_X} (C : mm_C X cX12_gathers yX12_gathers 6 0 0) {r : Int32} {h1 : mm_H} (hE : mm_End X 0 0 (some .int) (some (vI r)) h1) {b0 : Nat} (K182 : Int32 → mm_H → Option (Int32 × mm_H)) : ∀ (n : Nat) (x1 : Int32) (x2 : Int32) (h : mm_H), fX12_gathers_L25 b0 K182 n x1 x2 h = some (r, h1) → (∀ (y1 : Int32) (h : mm_H), K182 y1 h = some (r, h1) → mm_E X h 0 0 182 [none, some (vI y1), none, none, none, none] []) → mm_E X h 0 0 25 [some (vR (some b0)), some (vI x1), some (vI x2), none, none, none] [] := by
  intro n
  induction n with
  | zero =>
    intro x1 x2 h hf
    exact absurd (show (none : Option (Int32 × mm_H)) = some (r, h1) from hf) (by simp)
  | succ n ih =>
    intro x1 x2 h hf hk182
    have hf : fX12_gathers_L25_b b0 K182 (fX12_gathers_L25 b0 K182 n) x1 x2 h = some (r, h1) := hf
    unfold fX12_gathers_L25_b at hf
    refine me_iload_n (q := 26) C dX12_gathers_25 rfl rfl rfl ?_
    refine me_if_eq (q2 := 182) (q := 29) C dX12_gathers_26 (by decide) rfl (fun c9 => ?_) (fun c9 => ?_)
    · have hf := mm_if_t c9 hf
      refine me_mask [false, true, false, false, false, false] (lv2 := [none, some (vI x1), none, none, none, none]) rfl ?_
      exact hk182 _ _ hf
    · have hf := mm_if_f c9 hf
      refine me_iload_n (q := 30) C dX12_gathers_29 rfl rfl rfl ?_
      refine me_iconst (v := (4 : Int32)) (q := 31) C dX12_gathers_30 (by decide) rfl ?_
      refine me_icmp_ge (q2 := 182) (q := 34) C dX12_gathers_31 (by decide) rfl (fun c10 => ?_) (fun c10 => ?_)
      · have hf := mm_if_t c10 hf
        refine me_mask [false, true, false, false, false, false] (lv2 := [none, some (vI x1), none, none, none, none]) rfl ?_
        exact hk182 _ _ hf
      · have hf := mm_if_f c10 hf
        refine me_iconst (v := (-1 : Int32)) (q := 35) C dX12_gathers_34 (by decide) rfl ?_
        refine me_istore_n (q := 36) (lv2 := [some (vR (some b0)), some (vI x1), some (vI x2), some (vI (-1 : Int32)), none, none]) C dX12_gathers_35 rfl (Nat.le_of_ble_eq_true rfl) rfl rfl rfl ?_
        refine me_iconst (v := (0 : Int32)) (q := 37) C dX12_gathers_36 (by decide) rfl ?_
        refine me_istore (q := 39) (lv2 := [some (vR (some b0)), some (vI x1), some (vI x2), some (vI (-1 : Int32)), some (vI (0 : Int32)), none]) C dX12_gathers_37 (Nat.le_of_ble_eq_true rfl) rfl rfl rfl ?_
        refine me_mask [true, true, false, true, true, false] (lv2 := [some (vR (some b0)), some (vI x1), none, some (vI (-1 : Int32)), some (vI (0 : Int32)), none]) rfl ?_
        refine cX12_gathers_L39 C hE _ _ _ _ _ hf ?_
        · intro z49 g50 hf
          refine me_iload_n (q := 148) C dX12_gathers_147 rfl rfl rfl ?_
          refine me_iconst (v := (-1 : Int32)) (q := 149) C dX12_gathers_148 (by decide) rfl ?_
          obtain ⟨q52, eq52, hf⟩ := mm_jn_some hf
          have Hq52 : ∀ (v51 : Int32), q52 v51 = some (r, h1) → mm_E X g50 0 0 157 [some (vR (some b0)), some (vI x1), none, some (vI z49), none, none] [vI v51] := by
            intro v51 hf
            subst eq52
            refine me_istore_n (q := 158) (lv2 := [some (vR (some b0)), some (vI x1), some (vI v51), some (vI z49), none, none]) C dX12_gathers_157 rfl (Nat.le_of_ble_eq_true rfl) rfl rfl rfl ?_
            refine me_iload_n (q := 159) C dX12_gathers_158 rfl rfl rfl ?_
            obtain ⟨q55, eq55, hf⟩ := mm_jn_some hf
            have Hq55 : ∀ (v53 : Int32) (g54 : mm_H), q55 v53 g54 = some (r, h1) → mm_E X g54 0 0 179 [some (vR (some b0)), some (vI v53), some (vI v51), none, none, none] [] := by
              intro v53 g54 hf
              subst eq55
              refine me_goto (q := 25) C dX12_gathers_179 (by decide) ?_
              exact ih _ _ _ hf hk182
            refine me_if_eq (q2 := 179) (q := 162) C dX12_gathers_159 (by decide) rfl (fun c56 => ?_) (fun c56 => ?_)
            · have hf := mm_if_t c56 hf
              refine me_mask [true, true, true, false, false, false] (lv2 := [some (vR (some b0)), some (vI x1), some (vI v51), none, none, none]) rfl ?_
              exact Hq55 _ _ hf
            · have hf := mm_if_f c56 hf
              refine me_aload_n (q := 163) C dX12_gathers_162 rfl rfl rfl ?_
              obtain ⟨k57, hf⟩ := mm_ck_some hf
              refine me_getR (q := 166) C dX12_gathers_163 mf_X12_221 rfl rfl k57 rfl ?_
              refine me_iload_n (q := 167) C dX12_gathers_166 rfl rfl rfl ?_
              refine me_iconst (v := (1 : Int32)) (q := 168) C dX12_gathers_167 (by decide) rfl ?_
              obtain ⟨u58, eu58, hf⟩ := mm_rf_some hf
              obtain ⟨k59, hf⟩ := mm_ck_some hf
              obtain ⟨k60, hf⟩ := mm_ck_some hf
              obtain ⟨g61, eg61, hf⟩ := mm_lt_some hf
              refine me_zastH (q := 169) C eg61 dX12_gathers_168 eu58 k59 k60 rfl ?_
              refine me_aload_n (q := 170) C dX12_gathers_169 rfl rfl rfl ?_
              refine me_getR (q := 173) C dX12_gathers_170 mf_X12_212 rfl rfl (mm_kI eg61 k57) rfl ?_
              refine me_iload_n (q := 174) C dX12_gathers_173 rfl rfl rfl ?_
              refine me_iload_n (q := 175) C dX12_gathers_174 rfl rfl rfl ?_
              obtain ⟨u62, eu62, hf⟩ := mm_rf_some hf
              obtain ⟨k63, hf⟩ := mm_ck_some hf
              obtain ⟨k64, hf⟩ := mm_ck_some hf
              obtain ⟨g65, eg65, hf⟩ := mm_lt_some hf
              refine me_iastH (q := 176) C eg65 dX12_gathers_175 eu62 k63 k64 rfl ?_
              obtain ⟨v66, ev66, hf⟩ := mm_lt_some hf
              refine me_iinc (q := 179) (v := v66) (lv2 := [some (vR (some b0)), some (vI v66), some (vI v51), some (vI z49), none, none]) C dX12_gathers_176 rfl (by rw [ev66]; rfl) (Nat.le_of_ble_eq_true rfl) rfl rfl rfl ?_
              refine me_mask [true, true, true, false, false, false] (lv2 := [some (vR (some b0)), some (vI v66), some (vI v51), none, none, none]) rfl ?_
              exact Hq55 _ _ hf
          refine me_icmp_eq (q2 := 156) (q := 152) C dX12_gathers_149 (by decide) rfl (fun c67 => ?_) (fun c67 => ?_)
          · have hf := mm_if_t c67 hf
            refine me_iconst (v := (0 : Int32)) (q := 157) C dX12_gathers_156 (by decide) rfl ?_
            exact Hq52 _ hf
          · have hf := mm_if_f c67 hf
            refine me_iconst (v := (1 : Int32)) (q := 153) C dX12_gathers_152 (by decide) rfl ?_
            refine me_goto (q := 157) C dX12_gathers_153 (by decide) ?_
            exact Hq52 _ hf
set_option maxRecDepth 100000 in
set_option maxHeartbeats 4000000 in
theorem cX12_gathers_ok (l : Launch) {a0 : Nat} {h : mm_H} {r : Int32} {h1 : mm_H} (hf : fX12_gathers a0 h = some (r, h1)) : mm_M l yX12_gathers cX12_gathers 6 (some .int) 6 0 0 [vR (some a0)] h (some (vI r)) h1 := by
  refine mm_enter (lv := [some (vR (some a0)), none, none, none, none, none]) (by decide) rfl (Nat.le_of_ble_eq_true rfl) ?_
  intro X hl C hE
  subst hl
  unfold fX12_gathers at hf
  refine me_iconst (v := (0 : Int32)) (q := 1) C dX12_gathers_0 (by decide) rfl ?_
  refine me_istore_n (q := 2) (lv2 := [some (vR (some a0)), some (vI (0 : Int32)), none, none, none, none]) C dX12_gathers_1 rfl (Nat.le_of_ble_eq_true rfl) rfl rfl rfl ?_
  refine me_iconst (v := (0 : Int32)) (q := 3) C dX12_gathers_2 (by decide) rfl ?_
  refine me_istore_n (q := 4) (lv2 := [some (vR (some a0)), some (vI (0 : Int32)), some (vI (0 : Int32)), none, none, none]) C dX12_gathers_3 rfl (Nat.le_of_ble_eq_true rfl) rfl rfl rfl ?_
  refine cX12_gathers_L4 C hE _ _ _ _ hf ?_
  · intro g8 hf
    refine me_iconst (v := (1 : Int32)) (q := 24) C dX12_gathers_23 (by decide) rfl ?_
    refine me_istore_n (q := 25) (lv2 := [some (vR (some a0)), some (vI (0 : Int32)), some (vI (1 : Int32)), none, none, none]) C dX12_gathers_24 rfl (Nat.le_of_ble_eq_true rfl) rfl rfl rfl ?_
    refine cX12_gathers_L25 C hE _ _ _ _ _ hf ?_
    · intro z68 g69 hf
      refine me_iload_n (q := 183) C dX12_gathers_182 rfl rfl rfl ?_
      exact me_iret C hE (Nat.le_of_ble_eq_true rfl) (Nat.le_of_ble_eq_true rfl) rfl dX12_gathers_183 (mm_ri hf)
set_option maxRecDepth 100000 in
set_option maxHeartbeats 4000000 in
theorem cX12_plan_L16 {X : mm_X} (C : mm_C X cX12_plan yX12_plan 8 0 0) {r : Int64} {h1 : mm_H} (hE : mm_End X 0 0 (some .long) (some (vJ r)) h1) {b0 : Nat} {b1 : Int32} (K64 : Int32 → mm_H → Option (Int64 × mm_H)) : ∀ (n : Nat) (x2 : Int32) (x3 : Int32) (h : mm_H), fX12_plan_L16 b0 b1 K64 n x2 x3 h = some (r, h1) → (∀ (y2 : Int32) (h : mm_H), K64 y2 h = some (r, h1) → mm_E X h 0 0 64 [some (vR (some b0)), none, some (vI y2), none, none, none, none, none, none, none, none, none, none, none, none] []) → mm_E X h 0 0 16 [some (vR (some b0)), some (vI b1), some (vI x2), some (vI x3), none, none, none, none, none, none, none, none, none, none, none] [] := by
  intro n
  induction n with
  | zero =>
    intro x2 x3 h hf
    exact absurd (show (none : Option (Int64 × mm_H)) = some (r, h1) from hf) (by simp)
  | succ n ih =>
    intro x2 x3 h hf hk64
    have hf : fX12_plan_L16_b b0 b1 K64 (fX12_plan_L16 b0 b1 K64 n) x2 x3 h = some (r, h1) := hf
    unfold fX12_plan_L16_b at hf
    refine me_iload_n (q := 17) C dX12_plan_16 rfl rfl rfl ?_
    refine me_aload_n (q := 18) C dX12_plan_17 rfl rfl rfl ?_
    obtain ⟨k6, hf⟩ := mm_ck_some hf
    refine me_getI (q := 21) C dX12_plan_18 mf_X12_288 rfl rfl k6 rfl ?_
    refine me_icmp_ge (q2 := 64) (q := 24) C dX12_plan_21 (by decide) rfl (fun c7 => ?_) (fun c7 => ?_)
    · have hf := mm_if_t c7 hf
      refine me_mask [true, false, true, false, false, false, false, false, false, false, false, false, false, false, false] (lv2 := [some (vR (some b0)), none, some (vI x2), none, none, none, none, none, none, none, none, none, none, none, none]) rfl ?_
      exact hk64 _ _ hf
    · have hf := mm_if_f c7 hf
      refine me_iload_n (q := 25) C dX12_plan_24 rfl rfl rfl ?_
      refine me_iconst (v := (5 : Int32)) (q := 26) C dX12_plan_25 (by decide) rfl ?_
      refine me_icmp_ge (q2 := 64) (q := 29) C dX12_plan_26 (by decide) rfl (fun c8 => ?_) (fun c8 => ?_)
      · have hf := mm_if_t c8 hf
        refine me_mask [true, false, true, false, false, false, false, false, false, false, false, false, false, false, false] (lv2 := [some (vR (some b0)), none, some (vI x2), none, none, none, none, none, none, none, none, none, none, none, none]) rfl ?_
        exact hk64 _ _ hf
      · have hf := mm_if_f c8 hf
        refine me_aload_n (q := 30) C dX12_plan_29 rfl rfl rfl ?_
        refine me_getR (q := 33) C dX12_plan_30 mf_X12_38 rfl rfl k6 rfl ?_
        refine me_iload_n (q := 34) C dX12_plan_33 rfl rfl rfl ?_
        obtain ⟨u9, eu9, hf⟩ := mm_rf_some hf
        obtain ⟨k10, hf⟩ := mm_ck_some hf
        obtain ⟨k11, hf⟩ := mm_ck_some hf
        refine me_iald (q := 35) C dX12_plan_34 eu9 k10 k11 rfl ?_
        refine me_iload_n (q := 36) C dX12_plan_35 rfl rfl rfl ?_
        obtain ⟨q14, eq14, hf⟩ := mm_jn_some hf
        have Hq14 : ∀ (v12 : Int32) (g13 : mm_H), q14 v12 g13 = some (r, h1) → mm_E X g13 0 0 58 [some (vR (some b0)), some (vI b1), some (vI v12), some (vI x3), none, none, none, none, none, none, none, none, none, none, none] [] := by
          intro v12 g13 hf
          subst eq14
          obtain ⟨v15, ev15, hf⟩ := mm_lt_some hf
          refine me_iinc (q := 61) (v := v15) (lv2 := [some (vR (some b0)), some (vI b1), some (vI v12), some (vI v15), none, none, none, none, none, none, none, none, none, none, none]) C dX12_plan_58 rfl (by rw [ev15]; rfl) (Nat.le_of_ble_eq_true rfl) rfl rfl rfl ?_
          refine me_goto (q := 16) C dX12_plan_61 (by decide) ?_
          exact ih _ _ _ hf hk64
        refine me_icmp_ne (q2 := 58) (q := 39) C dX12_plan_36 (by decide) rfl (fun c16 => ?_) (fun c16 => ?_)
        · have hf := mm_if_t c16 hf
          exact Hq14 _ _ hf
        · have hf := mm_if_f c16 hf
          refine me_aload_n (q := 40) C dX12_plan_39 rfl rfl rfl ?_
          refine me_getR (q := 43) C dX12_plan_40 mf_X12_35 rfl rfl k6 rfl ?_
          refine me_iload_n (q := 44) C dX12_plan_43 rfl rfl rfl ?_
          obtain ⟨u17, eu17, hf⟩ := mm_rf_some hf
          obtain ⟨k18, hf⟩ := mm_ck_some hf
          obtain ⟨k19, hf⟩ := mm_ck_some hf
          refine me_iald (q := 45) C dX12_plan_44 eu17 k18 k19 rfl ?_
          refine me_if_le (q2 := 58) (q := 48) C dX12_plan_45 (by decide) rfl (fun c20 => ?_) (fun c20 => ?_)
          · have hf := mm_if_t c20 hf
            exact Hq14 _ _ hf
          · have hf := mm_if_f c20 hf
            refine me_aload_n (q := 49) C dX12_plan_48 rfl rfl rfl ?_
            refine me_getR (q := 52) C dX12_plan_49 mf_X12_215 rfl rfl k6 rfl ?_
            refine me_iload_n (q := 53) C dX12_plan_52 rfl rfl rfl ?_
            refine me_iload_n (q := 54) C dX12_plan_53 rfl rfl rfl ?_
            obtain ⟨u21, eu21, hf⟩ := mm_rf_some hf
            obtain ⟨k22, hf⟩ := mm_ck_some hf
            obtain ⟨k23, hf⟩ := mm_ck_some hf
            obtain ⟨g24, eg24, hf⟩ := mm_lt_some hf
            refine me_iastH (q := 55) C eg24 dX12_plan_54 eu21 k22 k23 rfl ?_
            obtain ⟨v25, ev25, hf⟩ := mm_lt_some hf
            refine me_iinc (q := 58) (v := v25) (lv2 := [some (vR (some b0)), some (vI b1), some (vI v25), some (vI x3), none, none, none, none, none, none, none, none, none, none, none]) C dX12_plan_55 rfl (by rw [ev25]; rfl) (Nat.le_of_ble_eq_true rfl) rfl rfl rfl ?_
            exact Hq14 _ _ hf
set_option maxRecDepth 100000 in
set_option maxHeartbeats 4000000 in
theorem cX12_plan_L89 {X : mm_X} (C : mm_C X cX12_plan yX12_plan 8 0 0) {r : Int64} {h1 : mm_H} (hE : mm_End X 0 0 (some .long) (some (vJ r)) h1) {b0 : Nat} {b2 : Int32} {b3 : Int32} {b4 : Int32} (K226 : mm_H → Option (Int64 × mm_H)) : ∀ (n : Nat) (x5 : Int32) (h : mm_H), fX12_plan_L89 b0 b2 b3 b4 K226 n x5 h = some (r, h1) → (∀ (h : mm_H), K226 h = some (r, h1) → mm_E X h 0 0 226 [some (vR (some b0)), none, some (vI b2), some (vI b3), some (vI b4), none, none, none, none, none, none, none, none, none, none] []) → mm_E X h 0 0 89 [some (vR (some b0)), none, some (vI b2), some (vI b3), some (vI b4), some (vI x5), none, none, none, none, none, none, none, none, none] [] := by
  intro n
  induction n with
  | zero =>
    intro x5 h hf
    exact absurd (show (none : Option (Int64 × mm_H)) = some (r, h1) from hf) (by simp)
  | succ n ih =>
    intro x5 h hf hk226
    have hf : fX12_plan_L89_b b0 b2 b3 b4 K226 (fX12_plan_L89 b0 b2 b3 b4 K226 n) x5 h = some (r, h1) := hf
    unfold fX12_plan_L89_b at hf
    refine me_iload (q := 91) C dX12_plan_89 rfl rfl ?_
    refine me_iload_n (q := 92) C dX12_plan_91 rfl rfl rfl ?_
    refine me_icmp_gt (q2 := 226) (q := 95) C dX12_plan_92 (by decide) rfl (fun c38 => ?_) (fun c38 => ?_)
    · have hf := mm_if_t c38 hf
      refine me_mask [true, false, true, true, true, false, false, false, false, false, false, false, false, false, false] (lv2 := [some (vR (some b0)), none, some (vI b2), some (vI b3), some (vI b4), none, none, none, none, none, none, none, none, none, none]) rfl ?_
      exact hk226 _ hf
    · have hf := mm_if_f c38 hf
      refine me_iload (q := 97) C dX12_plan_95 rfl rfl ?_
      refine me_iload_n (q := 98) C dX12_plan_97 rfl rfl rfl ?_
      obtain ⟨q40, eq40, hf⟩ := mm_jn_some hf
      have Hq40 : ∀ (v39 : Int32), q40 v39 = some (r, h1) → mm_E X h 0 0 118 [some (vR (some b0)), none, some (vI b2), some (vI b3), some (vI b4), some (vI x5), none, none, none, none, none, none, none, none, none] [vI v39] := by
        intro v39 hf
        subst eq40
        refine me_istore (q := 120) (lv2 := [some (vR (some b0)), none, some (vI b2), some (vI b3), some (vI b4), some (vI x5), some (vI v39), none, none, none, none, none, none, none, none]) C dX12_plan_118 (Nat.le_of_ble_eq_true rfl) rfl rfl rfl ?_
        refine me_aload_n (q := 121) C dX12_plan_120 rfl rfl rfl ?_
        obtain ⟨k41, hf⟩ := mm_ck_some hf
        refine me_getR (q := 124) C dX12_plan_121 mf_X12_227 rfl rfl k41 rfl ?_
        refine me_iconst (v := (5 : Int32)) (q := 125) C dX12_plan_124 (by decide) rfl ?_
        refine me_iload (q := 127) C dX12_plan_125 rfl rfl ?_
        refine me_imul (q := 128) C dX12_plan_127 rfl ?_
        refine me_iload (q := 130) C dX12_plan_128 rfl rfl ?_
        refine me_iadd (q := 131) C dX12_plan_130 rfl ?_
        refine me_aload_n (q := 132) C dX12_plan_131 rfl rfl rfl ?_
        refine me_getR (q := 135) C dX12_plan_132 mf_X12_35 rfl rfl k41 rfl ?_
        refine me_aload_n (q := 136) C dX12_plan_135 rfl rfl rfl ?_
        refine me_getR (q := 139) C dX12_plan_136 mf_X12_215 rfl rfl k41 rfl ?_
        refine me_iload (q := 141) C dX12_plan_139 rfl rfl ?_
        obtain ⟨u42, eu42, hf⟩ := mm_rf_some hf
        obtain ⟨k43, hf⟩ := mm_ck_some hf
        obtain ⟨k44, hf⟩ := mm_ck_some hf
        refine me_iald (q := 142) C dX12_plan_141 eu42 k43 k44 rfl ?_
        obtain ⟨u45, eu45, hf⟩ := mm_rf_some hf
        obtain ⟨k46, hf⟩ := mm_ck_some hf
        obtain ⟨k47, hf⟩ := mm_ck_some hf
        refine me_iald (q := 143) C dX12_plan_142 eu45 k46 k47 rfl ?_
        refine me_i2l (q := 144) C dX12_plan_143 rfl ?_
        refine me_aload_n (q := 145) C dX12_plan_144 rfl rfl rfl ?_
        refine me_iload (q := 147) C dX12_plan_145 rfl rfl ?_
        refine me_aload_n (q := 148) C dX12_plan_147 rfl rfl rfl ?_
        refine me_getR (q := 151) C dX12_plan_148 mf_X12_32 rfl rfl k41 rfl ?_
        refine me_aload_n (q := 152) C dX12_plan_151 rfl rfl rfl ?_
        refine me_getR (q := 155) C dX12_plan_152 mf_X12_215 rfl rfl k41 rfl ?_
        refine me_iload (q := 157) C dX12_plan_155 rfl rfl ?_
        obtain ⟨k48, hf⟩ := mm_ck_some hf
        refine me_iald (q := 158) C dX12_plan_157 eu42 k43 k48 rfl ?_
        obtain ⟨u49, eu49, hf⟩ := mm_rf_some hf
        obtain ⟨k50, hf⟩ := mm_ck_some hf
        obtain ⟨k51, hf⟩ := mm_ck_some hf
        refine me_iald (q := 159) C dX12_plan_158 eu49 k50 k51 rfl ?_
        refine me_aload_n (q := 160) C dX12_plan_159 rfl rfl rfl ?_
        refine me_getI (q := 163) C dX12_plan_160 mf_X12_273 rfl rfl k41 rfl ?_
        refine me_iconst (v := (0 : Int32)) (q := 164) C dX12_plan_163 (by decide) rfl ?_
        obtain ⟨v52, g53, e54, hf⟩ := mm_cl_some hf
        refine me_callV (q := 167) (c2 := 0) (s2 := 0) (st := [vJ (Int32.toInt64 (mm_i h u45 (mm_i h u42 b4.toNatClampNeg).toNatClampNeg)), vI (((5 : Int32) * b4) + x5), vR (mm_r h b0 99)]) C (cX12_price_ok _ e54) mt_X12_484 mv_X12_price rfl (by decide) dX12_plan_164 rfl k41 rfl rfl rfl (Nat.le_of_ble_eq_true rfl) rfl (Nat.le_of_ble_eq_true rfl) rfl (Nat.le_of_ble_eq_true rfl) rfl rfl ?_
        refine me_i2l (q := 168) C dX12_plan_167 rfl ?_
        refine me_lmul (q := 169) C dX12_plan_168 rfl ?_
        obtain ⟨u55, eu55, hf⟩ := mm_rf_some hf
        obtain ⟨k56, hf⟩ := mm_ck_some hf
        obtain ⟨k57, hf⟩ := mm_ck_some hf
        obtain ⟨g58, eg58, hf⟩ := mm_lt_some hf
        refine me_lastH (q := 170) C eg58 dX12_plan_169 eu55 k56 k57 rfl ?_
        refine me_aload_n (q := 171) C dX12_plan_170 rfl rfl rfl ?_
        obtain ⟨k59, hf⟩ := mm_ck_some hf
        refine me_getR (q := 174) C dX12_plan_171 mf_X12_230 rfl rfl k59 rfl ?_
        refine me_iconst (v := (5 : Int32)) (q := 175) C dX12_plan_174 (by decide) rfl ?_
        refine me_iload (q := 177) C dX12_plan_175 rfl rfl ?_
        refine me_imul (q := 178) C dX12_plan_177 rfl ?_
        refine me_iload (q := 180) C dX12_plan_178 rfl rfl ?_
        refine me_iadd (q := 181) C dX12_plan_180 rfl ?_
        refine me_aload_n (q := 182) C dX12_plan_181 rfl rfl rfl ?_
        refine me_getR (q := 185) C dX12_plan_182 mf_X12_35 rfl rfl k59 rfl ?_
        refine me_aload_n (q := 186) C dX12_plan_185 rfl rfl rfl ?_
        refine me_getR (q := 189) C dX12_plan_186 mf_X12_215 rfl rfl k59 rfl ?_
        refine me_iload (q := 191) C dX12_plan_189 rfl rfl ?_
        obtain ⟨u60, eu60, hf⟩ := mm_rf_some hf
        obtain ⟨k61, hf⟩ := mm_ck_some hf
        obtain ⟨k62, hf⟩ := mm_ck_some hf
        refine me_iald (q := 192) C dX12_plan_191 eu60 k61 k62 rfl ?_
        obtain ⟨u63, eu63, hf⟩ := mm_rf_some hf
        obtain ⟨k64, hf⟩ := mm_ck_some hf
        obtain ⟨k65, hf⟩ := mm_ck_some hf
        refine me_iald (q := 193) C dX12_plan_192 eu63 k64 k65 rfl ?_
        refine me_i2l (q := 194) C dX12_plan_193 rfl ?_
        refine me_aload_n (q := 195) C dX12_plan_194 rfl rfl rfl ?_
        refine me_iload (q := 197) C dX12_plan_195 rfl rfl ?_
        refine me_aload_n (q := 198) C dX12_plan_197 rfl rfl rfl ?_
        refine me_getR (q := 201) C dX12_plan_198 mf_X12_32 rfl rfl k59 rfl ?_
        refine me_aload_n (q := 202) C dX12_plan_201 rfl rfl rfl ?_
        refine me_getR (q := 205) C dX12_plan_202 mf_X12_215 rfl rfl k59 rfl ?_
        refine me_iload (q := 207) C dX12_plan_205 rfl rfl ?_
        obtain ⟨k66, hf⟩ := mm_ck_some hf
        refine me_iald (q := 208) C dX12_plan_207 eu60 k61 k66 rfl ?_
        obtain ⟨u67, eu67, hf⟩ := mm_rf_some hf
        obtain ⟨k68, hf⟩ := mm_ck_some hf
        obtain ⟨k69, hf⟩ := mm_ck_some hf
        refine me_iald (q := 209) C dX12_plan_208 eu67 k68 k69 rfl ?_
        refine me_aload_n (q := 210) C dX12_plan_209 rfl rfl rfl ?_
        refine me_getI (q := 213) C dX12_plan_210 mf_X12_273 rfl rfl k59 rfl ?_
        refine me_iconst (v := (1 : Int32)) (q := 214) C dX12_plan_213 (by decide) rfl ?_
        obtain ⟨v70, g71, e72, hf⟩ := mm_cl_some hf
        refine me_callV (q := 217) (c2 := 0) (s2 := 0) (st := [vJ (Int32.toInt64 (mm_i g58 u63 (mm_i g58 u60 b4.toNatClampNeg).toNatClampNeg)), vI (((5 : Int32) * b4) + x5), vR (mm_r g58 b0 100)]) C (cX12_price_ok _ e72) mt_X12_484 mv_X12_price rfl (by decide) dX12_plan_214 rfl k59 rfl rfl rfl (Nat.le_of_ble_eq_true rfl) rfl (Nat.le_of_ble_eq_true rfl) rfl (Nat.le_of_ble_eq_true rfl) rfl rfl ?_
        refine me_i2l (q := 218) C dX12_plan_217 rfl ?_
        refine me_lmul (q := 219) C dX12_plan_218 rfl ?_
        obtain ⟨u73, eu73, hf⟩ := mm_rf_some hf
        obtain ⟨k74, hf⟩ := mm_ck_some hf
        obtain ⟨k75, hf⟩ := mm_ck_some hf
        obtain ⟨g76, eg76, hf⟩ := mm_lt_some hf
        refine me_lastH (q := 220) C eg76 dX12_plan_219 eu73 k74 k75 rfl ?_
        obtain ⟨v77, ev77, hf⟩ := mm_lt_some hf
        refine me_iinc (q := 223) (v := v77) (lv2 := [some (vR (some b0)), none, some (vI b2), some (vI b3), some (vI b4), some (vI v77), some (vI v39), none, none, none, none, none, none, none, none]) C dX12_plan_220 rfl (by rw [ev77]; rfl) (Nat.le_of_ble_eq_true rfl) rfl rfl rfl ?_
        refine me_goto (q := 89) C dX12_plan_223 (by decide) ?_
        refine me_mask [true, false, true, true, true, true, false, false, false, false, false, false, false, false, false] (lv2 := [some (vR (some b0)), none, some (vI b2), some (vI b3), some (vI b4), some (vI v77), none, none, none, none, none, none, none, none, none]) rfl ?_
        exact ih _ _ hf hk226
      refine me_icmp_ne (q2 := 106) (q := 101) C dX12_plan_98 (by decide) rfl (fun c78 => ?_) (fun c78 => ?_)
      · have hf := mm_if_t c78 hf
        refine me_aload_n (q := 107) C dX12_plan_106 rfl rfl rfl ?_
        obtain ⟨k79, hf⟩ := mm_ck_some hf
        refine me_getR (q := 110) C dX12_plan_107 mf_X12_176 rfl rfl k79 rfl ?_
        refine me_aload_n (q := 111) C dX12_plan_110 rfl rfl rfl ?_
        refine me_getR (q := 114) C dX12_plan_111 mf_X12_212 rfl rfl k79 rfl ?_
        refine me_iload (q := 116) C dX12_plan_114 rfl rfl ?_
        obtain ⟨u80, eu80, hf⟩ := mm_rf_some hf
        obtain ⟨k81, hf⟩ := mm_ck_some hf
        obtain ⟨k82, hf⟩ := mm_ck_some hf
        refine me_iald (q := 117) C dX12_plan_116 eu80 k81 k82 rfl ?_
        obtain ⟨u83, eu83, hf⟩ := mm_rf_some hf
        obtain ⟨k84, hf⟩ := mm_ck_some hf
        obtain ⟨k85, hf⟩ := mm_ck_some hf
        refine me_iald (q := 118) C dX12_plan_117 eu83 k84 k85 rfl ?_
        exact Hq40 _ hf
      · have hf := mm_if_f c78 hf
        refine me_bipush (v := (8 : Int32)) (q := 103) C dX12_plan_101 (by decide) rfl ?_
        refine me_goto (q := 118) C dX12_plan_103 (by decide) ?_
        exact Hq40 _ hf
set_option maxRecDepth 100000 in
set_option maxHeartbeats 4000000 in
theorem cX12_plan_L72 {X : mm_X} (C : mm_C X cX12_plan yX12_plan 8 0 0) {r : Int64} {h1 : mm_H} (hE : mm_End X 0 0 (some .long) (some (vJ r)) h1) {b0 : Nat} {b2 : Int32} {b3 : Int32} (K232 : mm_H → Option (Int64 × mm_H)) : ∀ (n : Nat) (x4 : Int32) (h : mm_H), fX12_plan_L72 b0 b2 b3 K232 n x4 h = some (r, h1) → (∀ (h : mm_H), K232 h = some (r, h1) → mm_E X h 0 0 232 [some (vR (some b0)), none, some (vI b2), some (vI b3), none, none, none, none, none, none, none, none, none, none, none] []) → mm_E X h 0 0 72 [some (vR (some b0)), none, some (vI b2), some (vI b3), some (vI x4), none, none, none, none, none, none, none, none, none, none] [] := by
  intro n
  induction n with
  | zero =>
    intro x4 h hf
    exact absurd (show (none : Option (Int64 × mm_H)) = some (r, h1) from hf) (by simp)
  | succ n ih =>
    intro x4 h hf hk232
    have hf : fX12_plan_L72_b b0 b2 b3 K232 (fX12_plan_L72 b0 b2 b3 K232 n) x4 h = some (r, h1) := hf
    unfold fX12_plan_L72_b at hf
    refine me_iload (q := 74) C dX12_plan_72 rfl rfl ?_
    refine me_iload_n (q := 75) C dX12_plan_74 rfl rfl rfl ?_
    refine me_icmp_ge (q2 := 232) (q := 78) C dX12_plan_75 (by decide) rfl (fun c32 => ?_) (fun c32 => ?_)
    · have hf := mm_if_t c32 hf
      refine me_mask [true, false, true, true, false, false, false, false, false, false, false, false, false, false, false] (lv2 := [some (vR (some b0)), none, some (vI b2), some (vI b3), none, none, none, none, none, none, none, none, none, none, none]) rfl ?_
      exact hk232 _ hf
    · have hf := mm_if_f c32 hf
      refine me_aload_n (q := 79) C dX12_plan_78 rfl rfl rfl ?_
      obtain ⟨k33, hf⟩ := mm_ck_some hf
      refine me_getR (q := 82) C dX12_plan_79 mf_X12_218 rfl rfl k33 rfl ?_
      refine me_iload (q := 84) C dX12_plan_82 rfl rfl ?_
      refine me_iconst (v := (0 : Int32)) (q := 85) C dX12_plan_84 (by decide) rfl ?_
      obtain ⟨u34, eu34, hf⟩ := mm_rf_some hf
      obtain ⟨k35, hf⟩ := mm_ck_some hf
      obtain ⟨k36, hf⟩ := mm_ck_some hf
      obtain ⟨g37, eg37, hf⟩ := mm_lt_some hf
      refine me_iastH (q := 86) C eg37 dX12_plan_85 eu34 k35 k36 rfl ?_
      refine me_iconst (v := (0 : Int32)) (q := 87) C dX12_plan_86 (by decide) rfl ?_
      refine me_istore (q := 89) (lv2 := [some (vR (some b0)), none, some (vI b2), some (vI b3), some (vI x4), some (vI (0 : Int32)), none, none, none, none, none, none, none, none, none]) C dX12_plan_87 (Nat.le_of_ble_eq_true rfl) rfl rfl rfl ?_
      refine cX12_plan_L89 C hE _ _ _ _ hf ?_
      · intro g86 hf
        obtain ⟨v87, ev87, hf⟩ := mm_lt_some hf
        refine me_iinc (q := 229) (v := v87) (lv2 := [some (vR (some b0)), none, some (vI b2), some (vI b3), some (vI v87), none, none, none, none, none, none, none, none, none, none]) C dX12_plan_226 rfl (by rw [ev87]; rfl) (Nat.le_of_ble_eq_true rfl) rfl rfl rfl ?_
        refine me_goto (q := 72) C dX12_plan_229 (by decide) ?_
        exact ih _ _ hf hk232
set_option maxRecDepth 100000 in
set_option maxHeartbeats 4000000 in
theorem cX12_plan_L260 {X : mm_X} (C : mm_C X cX12_plan yX12_plan 8 0 0) {r : Int64} {h1 : mm_H} (hE : mm_End X 0 0 (some .long) (some (vJ r)) h1) {b0 : Nat} {b2 : Int32} {b3 : Int32} {b4 : Int64} {b6 : Int64} {b9 : Int64} {b11 : Int64} {b13 : Int32} (K280 : mm_H → Option (Int64 × mm_H)) : ∀ (n : Nat) (x14 : Int32) (h : mm_H), fX12_plan_L260 b0 b2 b3 b4 b6 b9 b11 b13 K280 n x14 h = some (r, h1) → (∀ (h : mm_H), K280 h = some (r, h1) → mm_E X h 0 0 280 [some (vR (some b0)), none, some (vI b2), some (vI b3), some (vJ b4), none, some (vJ b6), none, none, some (vJ b9), none, some (vJ b11), none, some (vI b13), none] []) → mm_E X h 0 0 260 [some (vR (some b0)), none, some (vI b2), some (vI b3), some (vJ b4), none, some (vJ b6), none, none, some (vJ b9), none, some (vJ b11), none, some (vI b13), some (vI x14)] [] := by
  intro n
  induction n with
  | zero =>
    intro x14 h hf
    exact absurd (show (none : Option (Int64 × mm_H)) = some (r, h1) from hf) (by simp)
  | succ n ih =>
    intro x14 h hf hk280
    have hf : fX12_plan_L260_b b0 b2 b3 b4 b6 b9 b11 b13 K280 (fX12_plan_L260 b0 b2 b3 b4 b6 b9 b11 b13 K280 n) x14 h = some (r, h1) := hf
    unfold fX12_plan_L260_b at hf
    refine me_iload (q := 262) C dX12_plan_260 rfl rfl ?_
    refine me_iconst (v := (4 : Int32)) (q := 263) C dX12_plan_262 (by decide) rfl ?_
    refine me_icmp_gt (q2 := 280) (q := 266) C dX12_plan_263 (by decide) rfl (fun c90 => ?_) (fun c90 => ?_)
    · have hf := mm_if_t c90 hf
      refine me_mask [true, false, true, true, true, false, true, false, false, true, false, true, false, true, false] (lv2 := [some (vR (some b0)), none, some (vI b2), some (vI b3), some (vJ b4), none, some (vJ b6), none, none, some (vJ b9), none, some (vJ b11), none, some (vI b13), none]) rfl ?_
      exact hk280 _ hf
    · have hf := mm_if_f c90 hf
      refine me_aload_n (q := 267) C dX12_plan_266 rfl rfl rfl ?_
      obtain ⟨k91, hf⟩ := mm_ck_some hf
      refine me_getR (q := 270) C dX12_plan_267 mf_X12_233 rfl rfl k91 rfl ?_
      refine me_iload (q := 272) C dX12_plan_270 rfl rfl ?_
      refine me_lconst (v := (0 : Int64)) (q := 273) C dX12_plan_272 (by decide) rfl ?_
      obtain ⟨u92, eu92, hf⟩ := mm_rf_some hf
      obtain ⟨k93, hf⟩ := mm_ck_some hf
      obtain ⟨k94, hf⟩ := mm_ck_some hf
      obtain ⟨g95, eg95, hf⟩ := mm_lt_some hf
      refine me_lastH (q := 274) C eg95 dX12_plan_273 eu92 k93 k94 rfl ?_
      obtain ⟨v96, ev96, hf⟩ := mm_lt_some hf
      refine me_iinc (q := 277) (v := v96) (lv2 := [some (vR (some b0)), none, some (vI b2), some (vI b3), some (vJ b4), none, some (vJ b6), none, none, some (vJ b9), none, some (vJ b11), none, some (vI b13), some (vI v96)]) C dX12_plan_274 rfl (by rw [ev96]; rfl) (Nat.le_of_ble_eq_true rfl) rfl rfl rfl ?_
      refine me_goto (q := 260) C dX12_plan_277 (by decide) ?_
      exact ih _ _ hf hk280
set_option maxRecDepth 100000 in
set_option maxHeartbeats 4000000 in
theorem cX12_plan_L283 {X : mm_X} (C : mm_C X cX12_plan yX12_plan 8 0 0) {r : Int64} {h1 : mm_H} (hE : mm_End X 0 0 (some .long) (some (vJ r)) h1) {b0 : Nat} {b2 : Int32} {b3 : Int32} {b4 : Int64} {b6 : Int64} {b13 : Int32} (K367 : Int64 → Int64 → mm_H → Option (Int64 × mm_H)) : ∀ (n : Nat) (x9 : Int64) (x11 : Int64) (x14 : Int32) (h : mm_H), fX12_plan_L283 b0 b2 b3 b4 b6 b13 K367 n x9 x11 x14 h = some (r, h1) → (∀ (y9 : Int64) (y11 : Int64) (h : mm_H), K367 y9 y11 h = some (r, h1) → mm_E X h 0 0 367 [some (vR (some b0)), none, some (vI b2), some (vI b3), some (vJ b4), none, some (vJ b6), none, none, some (vJ y9), none, some (vJ y11), none, some (vI b13), none] []) → mm_E X h 0 0 283 [some (vR (some b0)), none, some (vI b2), some (vI b3), some (vJ b4), none, some (vJ b6), none, none, some (vJ x9), none, some (vJ x11), none, some (vI b13), some (vI x14)] [] := by
  intro n
  induction n with
  | zero =>
    intro x9 x11 x14 h hf
    exact absurd (show (none : Option (Int64 × mm_H)) = some (r, h1) from hf) (by simp)
  | succ n ih =>
    intro x9 x11 x14 h hf hk367
    have hf : fX12_plan_L283_b b0 b2 b3 b4 b6 b13 K367 (fX12_plan_L283 b0 b2 b3 b4 b6 b13 K367 n) x9 x11 x14 h = some (r, h1) := hf
    unfold fX12_plan_L283_b at hf
    refine me_iload (q := 285) C dX12_plan_283 rfl rfl ?_
    refine me_iload_n (q := 286) C dX12_plan_285 rfl rfl rfl ?_
    refine me_icmp_ge (q2 := 367) (q := 289) C dX12_plan_286 (by decide) rfl (fun c98 => ?_) (fun c98 => ?_)
    · have hf := mm_if_t c98 hf
      refine me_mask [true, false, true, true, true, false, true, false, false, true, false, true, false, true, false] (lv2 := [some (vR (some b0)), none, some (vI b2), some (vI b3), some (vJ b4), none, some (vJ b6), none, none, some (vJ x9), none, some (vJ x11), none, some (vI b13), none]) rfl ?_
      exact hk367 _ _ _ hf
    · have hf := mm_if_f c98 hf
      refine me_lload (q := 291) C dX12_plan_289 rfl rfl ?_
      refine me_aload_n (q := 292) C dX12_plan_291 rfl rfl rfl ?_
      obtain ⟨k99, hf⟩ := mm_ck_some hf
      refine me_getR (q := 295) C dX12_plan_292 mf_X12_227 rfl rfl k99 rfl ?_
      refine me_iconst (v := (5 : Int32)) (q := 296) C dX12_plan_295 (by decide) rfl ?_
      refine me_iload (q := 298) C dX12_plan_296 rfl rfl ?_
      refine me_imul (q := 299) C dX12_plan_298 rfl ?_
      refine me_aload_n (q := 300) C dX12_plan_299 rfl rfl rfl ?_
      refine me_getR (q := 303) C dX12_plan_300 mf_X12_218 rfl rfl k99 rfl ?_
      refine me_iload (q := 305) C dX12_plan_303 rfl rfl ?_
      obtain ⟨u100, eu100, hf⟩ := mm_rf_some hf
      obtain ⟨k101, hf⟩ := mm_ck_some hf
      obtain ⟨k102, hf⟩ := mm_ck_some hf
      refine me_iald (q := 306) C dX12_plan_305 eu100 k101 k102 rfl ?_
      refine me_iadd (q := 307) C dX12_plan_306 rfl ?_
      obtain ⟨u103, eu103, hf⟩ := mm_rf_some hf
      obtain ⟨k104, hf⟩ := mm_ck_some hf
      obtain ⟨k105, hf⟩ := mm_ck_some hf
      refine me_lald (q := 308) C dX12_plan_307 eu103 k104 k105 rfl ?_
      refine me_ladd (q := 309) C dX12_plan_308 rfl ?_
      obtain ⟨v106, ev106, hf⟩ := mm_lt_some hf
      refine me_topJ ev106 ?_
      refine me_lstore (q := 311) (lv2 := [some (vR (some b0)), none, some (vI b2), some (vI b3), some (vJ b4), none, some (vJ b6), none, none, some (vJ v106), none, some (vJ x11), none, some (vI b13), some (vI x14)]) C dX12_plan_309 (Nat.le_of_ble_eq_true rfl) rfl rfl rfl ?_
      refine me_lload (q := 313) C dX12_plan_311 rfl rfl ?_
      refine me_aload_n (q := 314) C dX12_plan_313 rfl rfl rfl ?_
      refine me_getR (q := 317) C dX12_plan_314 mf_X12_230 rfl rfl k99 rfl ?_
      refine me_iconst (v := (5 : Int32)) (q := 318) C dX12_plan_317 (by decide) rfl ?_
      refine me_iload (q := 320) C dX12_plan_318 rfl rfl ?_
      refine me_imul (q := 321) C dX12_plan_320 rfl ?_
      refine me_aload_n (q := 322) C dX12_plan_321 rfl rfl rfl ?_
      refine me_getR (q := 325) C dX12_plan_322 mf_X12_218 rfl rfl k99 rfl ?_
      refine me_iload (q := 327) C dX12_plan_325 rfl rfl ?_
      obtain ⟨k107, hf⟩ := mm_ck_some hf
      refine me_iald (q := 328) C dX12_plan_327 eu100 k101 k107 rfl ?_
      refine me_iadd (q := 329) C dX12_plan_328 rfl ?_
      obtain ⟨u108, eu108, hf⟩ := mm_rf_some hf
      obtain ⟨k109, hf⟩ := mm_ck_some hf
      obtain ⟨k110, hf⟩ := mm_ck_some hf
      refine me_lald (q := 330) C dX12_plan_329 eu108 k109 k110 rfl ?_
      refine me_ladd (q := 331) C dX12_plan_330 rfl ?_
      obtain ⟨v111, ev111, hf⟩ := mm_lt_some hf
      refine me_topJ ev111 ?_
      refine me_lstore (q := 333) (lv2 := [some (vR (some b0)), none, some (vI b2), some (vI b3), some (vJ b4), none, some (vJ b6), none, none, some (vJ v106), none, some (vJ v111), none, some (vI b13), some (vI x14)]) C dX12_plan_331 (Nat.le_of_ble_eq_true rfl) rfl rfl rfl ?_
      refine me_aload_n (q := 334) C dX12_plan_333 rfl rfl rfl ?_
      refine me_getR (q := 337) C dX12_plan_334 mf_X12_233 rfl rfl k99 rfl ?_
      refine me_aload_n (q := 338) C dX12_plan_337 rfl rfl rfl ?_
      refine me_getR (q := 341) C dX12_plan_338 mf_X12_218 rfl rfl k99 rfl ?_
      refine me_iload (q := 343) C dX12_plan_341 rfl rfl ?_
      obtain ⟨k112, hf⟩ := mm_ck_some hf
      refine me_iald (q := 344) C dX12_plan_343 eu100 k101 k112 rfl ?_
      refine me_dup2_11 (q := 345) C dX12_plan_344 rfl rfl rfl ?_
      obtain ⟨u113, eu113, hf⟩ := mm_rf_some hf
      obtain ⟨k114, hf⟩ := mm_ck_some hf
      obtain ⟨k115, hf⟩ := mm_ck_some hf
      refine me_lald (q := 346) C dX12_plan_345 eu113 k114 k115 rfl ?_
      refine me_aload_n (q := 347) C dX12_plan_346 rfl rfl rfl ?_
      refine me_getR (q := 350) C dX12_plan_347 mf_X12_35 rfl rfl k99 rfl ?_
      refine me_aload_n (q := 351) C dX12_plan_350 rfl rfl rfl ?_
      refine me_getR (q := 354) C dX12_plan_351 mf_X12_215 rfl rfl k99 rfl ?_
      refine me_iload (q := 356) C dX12_plan_354 rfl rfl ?_
      obtain ⟨u116, eu116, hf⟩ := mm_rf_some hf
      obtain ⟨k117, hf⟩ := mm_ck_some hf
      obtain ⟨k118, hf⟩ := mm_ck_some hf
      refine me_iald (q := 357) C dX12_plan_356 eu116 k117 k118 rfl ?_
      obtain ⟨u119, eu119, hf⟩ := mm_rf_some hf
      obtain ⟨k120, hf⟩ := mm_ck_some hf
      obtain ⟨k121, hf⟩ := mm_ck_some hf
      refine me_iald (q := 358) C dX12_plan_357 eu119 k120 k121 rfl ?_
      refine me_i2l (q := 359) C dX12_plan_358 rfl ?_
      refine me_ladd (q := 360) C dX12_plan_359 rfl ?_
      obtain ⟨k122, hf⟩ := mm_ck_some hf
      obtain ⟨g123, eg123, hf⟩ := mm_lt_some hf
      refine me_lastH (q := 361) C eg123 dX12_plan_360 eu113 k114 k122 rfl ?_
      obtain ⟨v124, ev124, hf⟩ := mm_lt_some hf
      refine me_iinc (q := 364) (v := v124) (lv2 := [some (vR (some b0)), none, some (vI b2), some (vI b3), some (vJ b4), none, some (vJ b6), none, none, some (vJ v106), none, some (vJ v111), none, some (vI b13), some (vI v124)]) C dX12_plan_361 rfl (by rw [ev124]; rfl) (Nat.le_of_ble_eq_true rfl) rfl rfl rfl ?_
      refine me_goto (q := 283) C dX12_plan_364 (by decide) ?_
      exact ih _ _ _ _ hf hk367
set_option maxRecDepth 100000 in
set_option maxHeartbeats 4000000 in
theorem cX12_plan_L370 {X : mm_X} (C : mm_C X cX12_plan yX12_plan 8 0 0) {r : Int64} {h1 : mm_H} (hE : mm_End X 0 0 (some .long) (some (vJ r)) h1) {b0 : Nat} {b2 : Int32} {b3 : Int32} {b4 : Int64} {b6 : Int64} {b9 : Int64} {b11 : Int64} (K418 : Int32 → mm_H → Option (Int64 × mm_H)) : ∀ (n : Nat) (x13 : Int32) (x14 : Int32) (h : mm_H), fX12_plan_L370 b0 b2 b3 b4 b6 b9 b11 K418 n x13 x14 h = some (r, h1) → (∀ (y13 : Int32) (h : mm_H), K418 y13 h = some (r, h1) → mm_E X h 0 0 418 [some (vR (some b0)), none, some (vI b2), some (vI b3), some (vJ b4), none, some (vJ b6), none, none, some (vJ b9), none, some (vJ b11), none, some (vI y13), none] []) → mm_E X h 0 0 370 [some (vR (some b0)), none, some (vI b2), some (vI b3), some (vJ b4), none, some (vJ b6), none, none, some (vJ b9), none, some (vJ b11), none, some (vI x13), some (vI x14)] [] := by
  intro n
  induction n with
  | zero =>
    intro x13 x14 h hf
    exact absurd (show (none : Option (Int64 × mm_H)) = some (r, h1) from hf) (by simp)
  | succ n ih =>
    intro x13 x14 h hf hk418
    have hf : fX12_plan_L370_b b0 b2 b3 b4 b6 b9 b11 K418 (fX12_plan_L370 b0 b2 b3 b4 b6 b9 b11 K418 n) x13 x14 h = some (r, h1) := hf
    unfold fX12_plan_L370_b at hf
    refine me_iload (q := 372) C dX12_plan_370 rfl rfl ?_
    refine me_iload_n (q := 373) C dX12_plan_372 rfl rfl rfl ?_
    refine me_icmp_ge (q2 := 418) (q := 376) C dX12_plan_373 (by decide) rfl (fun c128 => ?_) (fun c128 => ?_)
    · have hf := mm_if_t c128 hf
      refine me_mask [true, false, true, true, true, false, true, false, false, true, false, true, false, true, false] (lv2 := [some (vR (some b0)), none, some (vI b2), some (vI b3), some (vJ b4), none, some (vJ b6), none, none, some (vJ b9), none, some (vJ b11), none, some (vI x13), none]) rfl ?_
      exact hk418 _ _ hf
    · have hf := mm_if_f c128 hf
      refine me_iload (q := 378) C dX12_plan_376 rfl rfl ?_
      obtain ⟨q130, eq130, hf⟩ := mm_jn_some hf
      have Hq130 : ∀ (v129 : Int32), q130 v129 = some (r, h1) → mm_E X h 0 0 410 [some (vR (some b0)), none, some (vI b2), some (vI b3), some (vJ b4), none, some (vJ b6), none, none, some (vJ b9), none, some (vJ b11), none, none, some (vI x14)] [vI v129] := by
        intro v129 hf
        subst eq130
        refine me_istore (q := 412) (lv2 := [some (vR (some b0)), none, some (vI b2), some (vI b3), some (vJ b4), none, some (vJ b6), none, none, some (vJ b9), none, some (vJ b11), none, some (vI v129), some (vI x14)]) C dX12_plan_410 (Nat.le_of_ble_eq_true rfl) rfl rfl rfl ?_
        obtain ⟨v131, ev131, hf⟩ := mm_lt_some hf
        refine me_iinc (q := 415) (v := v131) (lv2 := [some (vR (some b0)), none, some (vI b2), some (vI b3), some (vJ b4), none, some (vJ b6), none, none, some (vJ b9), none, some (vJ b11), none, some (vI v129), some (vI v131)]) C dX12_plan_412 rfl (by rw [ev131]; rfl) (Nat.le_of_ble_eq_true rfl) rfl rfl rfl ?_
        refine me_goto (q := 370) C dX12_plan_415 (by decide) ?_
        exact ih _ _ _ hf hk418
      obtain ⟨q132, eq132, hf⟩ := mm_jn_some hf
      have Hq132 : ∀ (_u : Unit), q132 _u = some (r, h1) → mm_E X h 0 0 409 [some (vR (some b0)), none, some (vI b2), some (vI b3), some (vJ b4), none, some (vJ b6), none, none, some (vJ b9), none, some (vJ b11), none, none, some (vI x14)] [] := by
        intro _u hf
        subst eq132
        refine me_iconst (v := (0 : Int32)) (q := 410) C dX12_plan_409 (by decide) rfl ?_
        exact Hq130 _ hf
      refine me_if_eq (q2 := 409) (q := 381) C dX12_plan_378 (by decide) rfl (fun c133 => ?_) (fun c133 => ?_)
      · have hf := mm_if_t c133 hf
        refine me_mask [true, false, true, true, true, false, true, false, false, true, false, true, false, false, true] (lv2 := [some (vR (some b0)), none, some (vI b2), some (vI b3), some (vJ b4), none, some (vJ b6), none, none, some (vJ b9), none, some (vJ b11), none, none, some (vI x14)]) rfl ?_
        exact Hq132 () hf
      · have hf := mm_if_f c133 hf
        refine me_aload_n (q := 382) C dX12_plan_381 rfl rfl rfl ?_
        obtain ⟨k134, hf⟩ := mm_ck_some hf
        refine me_getR (q := 385) C dX12_plan_382 mf_X12_233 rfl rfl k134 rfl ?_
        refine me_iload (q := 387) C dX12_plan_385 rfl rfl ?_
        obtain ⟨u135, eu135, hf⟩ := mm_rf_some hf
        obtain ⟨k136, hf⟩ := mm_ck_some hf
        obtain ⟨k137, hf⟩ := mm_ck_some hf
        refine me_lald (q := 388) C dX12_plan_387 eu135 k136 k137 rfl ?_
        refine me_aload_n (q := 389) C dX12_plan_388 rfl rfl rfl ?_
        refine me_getR (q := 392) C dX12_plan_389 mf_X12_185 rfl rfl k134 rfl ?_
        refine me_aload_n (q := 393) C dX12_plan_392 rfl rfl rfl ?_
        refine me_getR (q := 396) C dX12_plan_393 mf_X12_212 rfl rfl k134 rfl ?_
        refine me_iload (q := 398) C dX12_plan_396 rfl rfl ?_
        obtain ⟨u138, eu138, hf⟩ := mm_rf_some hf
        obtain ⟨k139, hf⟩ := mm_ck_some hf
        obtain ⟨k140, hf⟩ := mm_ck_some hf
        refine me_iald (q := 399) C dX12_plan_398 eu138 k139 k140 rfl ?_
        obtain ⟨u141, eu141, hf⟩ := mm_rf_some hf
        obtain ⟨k142, hf⟩ := mm_ck_some hf
        obtain ⟨k143, hf⟩ := mm_ck_some hf
        refine me_iald (q := 400) C dX12_plan_399 eu141 k142 k143 rfl ?_
        refine me_i2l (q := 401) C dX12_plan_400 rfl ?_
        refine me_lcmp (q := 402) C dX12_plan_401 rfl ?_
        refine me_if_gt (q2 := 409) (q := 405) C dX12_plan_402 (by decide) rfl (fun c144 => ?_) (fun c144 => ?_)
        · have hf := mm_if_t c144 hf
          refine me_mask [true, false, true, true, true, false, true, false, false, true, false, true, false, false, true] (lv2 := [some (vR (some b0)), none, some (vI b2), some (vI b3), some (vJ b4), none, some (vJ b6), none, none, some (vJ b9), none, some (vJ b11), none, none, some (vI x14)]) rfl ?_
          exact Hq132 () hf
        · have hf := mm_if_f c144 hf
          refine me_iconst (v := (1 : Int32)) (q := 406) C dX12_plan_405 (by decide) rfl ?_
          refine me_goto (q := 410) C dX12_plan_406 (by decide) ?_
          refine me_mask [true, false, true, true, true, false, true, false, false, true, false, true, false, false, true] (lv2 := [some (vR (some b0)), none, some (vI b2), some (vI b3), some (vJ b4), none, some (vJ b6), none, none, some (vJ b9), none, some (vJ b11), none, none, some (vI x14)]) rfl ?_
          exact Hq130 _ hf
set_option maxRecDepth 100000 in
set_option maxHeartbeats 4000000 in
theorem cX12_plan_L512 {X : mm_X} (C : mm_C X cX12_plan yX12_plan 8 0 0) {r : Int64} {h1 : mm_H} (hE : mm_End X 0 0 (some .long) (some (vJ r)) h1) {b0 : Nat} {b2 : Int32} {b3 : Int32} {b4 : Int64} {b6 : Int64} (K580 : Int32 → mm_H → Option (Int64 × mm_H)) : ∀ (n : Nat) (x8 : Int32) (x14 : Int32) (h : mm_H), fX12_plan_L512 b0 b2 b3 b4 b6 K580 n x8 x14 h = some (r, h1) → (∀ (y8 : Int32) (h : mm_H), K580 y8 h = some (r, h1) → mm_E X h 0 0 580 [some (vR (some b0)), none, some (vI b2), some (vI b3), some (vJ b4), none, some (vJ b6), none, some (vI y8), none, none, none, none, none, none] []) → mm_E X h 0 0 512 [some (vR (some b0)), none, some (vI b2), some (vI b3), some (vJ b4), none, some (vJ b6), none, some (vI x8), none, none, none, none, none, some (vI x14)] [] := by
  intro n
  induction n with
  | zero =>
    intro x8 x14 h hf
    exact absurd (show (none : Option (Int64 × mm_H)) = some (r, h1) from hf) (by simp)
  | succ n ih =>
    intro x8 x14 h hf hk580
    have hf : fX12_plan_L512_b b0 b2 b3 b4 b6 K580 (fX12_plan_L512 b0 b2 b3 b4 b6 K580 n) x8 x14 h = some (r, h1) := hf
    unfold fX12_plan_L512_b at hf
    refine me_iload (q := 514) C dX12_plan_512 rfl rfl ?_
    refine me_if_lt (q2 := 580) (q := 517) C dX12_plan_514 (by decide) rfl (fun c152 => ?_) (fun c152 => ?_)
    · have hf := mm_if_t c152 hf
      refine me_mask [true, false, true, true, true, false, true, false, true, false, false, false, false, false, false] (lv2 := [some (vR (some b0)), none, some (vI b2), some (vI b3), some (vJ b4), none, some (vJ b6), none, some (vI x8), none, none, none, none, none, none]) rfl ?_
      exact hk580 _ _ hf
    · have hf := mm_if_f c152 hf
      refine me_iload (q := 519) C dX12_plan_517 rfl rfl ?_
      refine me_if_ne (q2 := 580) (q := 522) C dX12_plan_519 (by decide) rfl (fun c153 => ?_) (fun c153 => ?_)
      · have hf := mm_if_t c153 hf
        refine me_mask [true, false, true, true, true, false, true, false, true, false, false, false, false, false, false] (lv2 := [some (vR (some b0)), none, some (vI b2), some (vI b3), some (vJ b4), none, some (vJ b6), none, some (vI x8), none, none, none, none, none, none]) rfl ?_
        exact hk580 _ _ hf
      · have hf := mm_if_f c153 hf
        refine me_aload_n (q := 523) C dX12_plan_522 rfl rfl rfl ?_
        obtain ⟨k154, hf⟩ := mm_ck_some hf
        refine me_getR (q := 526) C dX12_plan_523 mf_X12_218 rfl rfl k154 rfl ?_
        refine me_iload (q := 528) C dX12_plan_526 rfl rfl ?_
        refine me_dup2_11 (q := 529) C dX12_plan_528 rfl rfl rfl ?_
        obtain ⟨u155, eu155, hf⟩ := mm_rf_some hf
        obtain ⟨k156, hf⟩ := mm_ck_some hf
        obtain ⟨k157, hf⟩ := mm_ck_some hf
        refine me_iald (q := 530) C dX12_plan_529 eu155 k156 k157 rfl ?_
        refine me_iconst (v := (1 : Int32)) (q := 531) C dX12_plan_530 (by decide) rfl ?_
        refine me_iadd (q := 532) C dX12_plan_531 rfl ?_
        obtain ⟨k158, hf⟩ := mm_ck_some hf
        obtain ⟨g159, eg159, hf⟩ := mm_lt_some hf
        refine me_iastH (q := 533) C eg159 dX12_plan_532 eu155 k156 k158 rfl ?_
        refine me_aload_n (q := 534) C dX12_plan_533 rfl rfl rfl ?_
        refine me_getR (q := 537) C dX12_plan_534 mf_X12_218 rfl rfl (mm_kI eg159 k154) rfl ?_
        refine me_iload (q := 539) C dX12_plan_537 rfl rfl ?_
        obtain ⟨u160, eu160, hf⟩ := mm_rf_some hf
        obtain ⟨k161, hf⟩ := mm_ck_some hf
        obtain ⟨k162, hf⟩ := mm_ck_some hf
        refine me_iald (q := 540) C dX12_plan_539 eu160 k161 k162 rfl ?_
        refine me_iload_n (q := 541) C dX12_plan_540 rfl rfl rfl ?_
        obtain ⟨q164, eq164, hf⟩ := mm_jn_some hf
        have Hq164 : ∀ (v163 : Int32), q164 v163 = some (r, h1) → mm_E X g159 0 0 549 [some (vR (some b0)), none, some (vI b2), some (vI b3), some (vJ b4), none, some (vJ b6), none, none, none, none, none, none, none, some (vI x14)] [vI v163] := by
          intro v163 hf
          subst eq164
          refine me_istore (q := 551) (lv2 := [some (vR (some b0)), none, some (vI b2), some (vI b3), some (vJ b4), none, some (vJ b6), none, some (vI v163), none, none, none, none, none, some (vI x14)]) C dX12_plan_549 (Nat.le_of_ble_eq_true rfl) rfl rfl rfl ?_
          refine me_aload_n (q := 552) C dX12_plan_551 rfl rfl rfl ?_
          refine me_getR (q := 555) C dX12_plan_552 mf_X12_218 rfl rfl (mm_kI eg159 k154) rfl ?_
          refine me_iload (q := 557) C dX12_plan_555 rfl rfl ?_
          refine me_iload (q := 559) C dX12_plan_557 rfl rfl ?_
          obtain ⟨q166, eq166, hf⟩ := mm_jn_some hf
          have Hq166 : ∀ (v165 : Int32), q166 v165 = some (r, h1) → mm_E X g159 0 0 573 [some (vR (some b0)), none, some (vI b2), some (vI b3), some (vJ b4), none, some (vJ b6), none, some (vI v163), none, none, none, none, none, some (vI x14)] [vI v165, vI x14, vR (mm_r g159 b0 96)] := by
            intro v165 hf
            subst eq166
            obtain ⟨k167, hf⟩ := mm_ck_some hf
            obtain ⟨g168, eg168, hf⟩ := mm_lt_some hf
            refine me_iastH (q := 574) C eg168 dX12_plan_573 eu160 k161 k167 rfl ?_
            obtain ⟨v169, ev169, hf⟩ := mm_lt_some hf
            refine me_iinc (q := 577) (v := v169) (lv2 := [some (vR (some b0)), none, some (vI b2), some (vI b3), some (vJ b4), none, some (vJ b6), none, some (vI v163), none, none, none, none, none, some (vI v169)]) C dX12_plan_574 rfl (by rw [ev169]; rfl) (Nat.le_of_ble_eq_true rfl) rfl rfl rfl ?_
            refine me_goto (q := 512) C dX12_plan_577 (by decide) ?_
            exact ih _ _ _ hf hk580
          refine me_if_eq (q2 := 572) (q := 562) C dX12_plan_559 (by decide) rfl (fun c170 => ?_) (fun c170 => ?_)
          · have hf := mm_if_t c170 hf
            refine me_iconst (v := (0 : Int32)) (q := 573) C dX12_plan_572 (by decide) rfl ?_
            exact Hq166 _ hf
          · have hf := mm_if_f c170 hf
            refine me_aload_n (q := 563) C dX12_plan_562 rfl rfl rfl ?_
            refine me_getR (q := 566) C dX12_plan_563 mf_X12_218 rfl rfl (mm_kI eg159 k154) rfl ?_
            refine me_iload (q := 568) C dX12_plan_566 rfl rfl ?_
            obtain ⟨k171, hf⟩ := mm_ck_some hf
            refine me_iald (q := 569) C dX12_plan_568 eu160 k161 k171 rfl ?_
            refine me_goto (q := 573) C dX12_plan_569 (by decide) ?_
            exact Hq166 _ hf
        refine me_icmp_gt (q2 := 548) (q := 544) C dX12_plan_541 (by decide) rfl (fun c172 => ?_) (fun c172 => ?_)
        · have hf := mm_if_t c172 hf
          refine me_iconst (v := (0 : Int32)) (q := 549) C dX12_plan_548 (by decide) rfl ?_
          refine me_mask [true, false, true, true, true, false, true, false, false, false, false, false, false, false, true] (lv2 := [some (vR (some b0)), none, some (vI b2), some (vI b3), some (vJ b4), none, some (vJ b6), none, none, none, none, none, none, none, some (vI x14)]) rfl ?_
          exact Hq164 _ hf
        · have hf := mm_if_f c172 hf
          refine me_iconst (v := (1 : Int32)) (q := 545) C dX12_plan_544 (by decide) rfl ?_
          refine me_goto (q := 549) C dX12_plan_545 (by decide) ?_
          refine me_mask [true, false, true, true, true, false, true, false, false, false, false, false, false, false, true] (lv2 := [some (vR (some b0)), none, some (vI b2), some (vI b3), some (vJ b4), none, some (vJ b6), none, none, none, none, none, none, none, some (vI x14)]) rfl ?_
          exact Hq164 _ hf
set_option maxRecDepth 100000 in
set_option maxHeartbeats 4000000 in
theorem cX12_plan_L458 {X : mm_X} (C : mm_C X cX12_plan yX12_plan 8 0 0) {r : Int64} {h1 : mm_H} (hE : mm_End X 0 0 (some .long) (some (vJ r)) h1) {b0 : Nat} {b2 : Int32} {b3 : Int32} {b4 : Int64} {b6 : Int64} (K504 : mm_H → Option (Int64 × mm_H)) : ∀ (n : Nat) (x14 : Int32) (h : mm_H), fX12_plan_L458 b0 b2 b3 b4 b6 K504 n x14 h = some (r, h1) → (∀ (h : mm_H), K504 h = some (r, h1) → mm_E X h 0 0 504 [some (vR (some b0)), none, some (vI b2), some (vI b3), some (vJ b4), none, some (vJ b6), none, none, none, none, none, none, none, none] []) → mm_E X h 0 0 458 [some (vR (some b0)), none, some (vI b2), some (vI b3), some (vJ b4), none, some (vJ b6), none, none, none, none, none, none, none, some (vI x14)] [] := by
  intro n
  induction n with
  | zero =>
    intro x14 h hf
    exact absurd (show (none : Option (Int64 × mm_H)) = some (r, h1) from hf) (by simp)
  | succ n ih =>
    intro x14 h hf hk504
    have hf : fX12_plan_L458_b b0 b2 b3 b4 b6 K504 (fX12_plan_L458 b0 b2 b3 b4 b6 K504 n) x14 h = some (r, h1) := hf
    unfold fX12_plan_L458_b at hf
    refine me_iload (q := 460) C dX12_plan_458 rfl rfl ?_
    refine me_iload_n (q := 461) C dX12_plan_460 rfl rfl rfl ?_
    refine me_icmp_ge (q2 := 504) (q := 464) C dX12_plan_461 (by decide) rfl (fun c177 => ?_) (fun c177 => ?_)
    · have hf := mm_if_t c177 hf
      refine me_mask [true, false, true, true, true, false, true, false, false, false, false, false, false, false, false] (lv2 := [some (vR (some b0)), none, some (vI b2), some (vI b3), some (vJ b4), none, some (vJ b6), none, none, none, none, none, none, none, none]) rfl ?_
      exact hk504 _ hf
    · have hf := mm_if_f c177 hf
      refine me_aload_n (q := 465) C dX12_plan_464 rfl rfl rfl ?_
      obtain ⟨k178, hf⟩ := mm_ck_some hf
      refine me_getR (q := 468) C dX12_plan_465 mf_X12_209 rfl rfl k178 rfl ?_
      refine me_iload (q := 470) C dX12_plan_468 rfl rfl ?_
      refine me_aload_n (q := 471) C dX12_plan_470 rfl rfl rfl ?_
      refine me_getR (q := 474) C dX12_plan_471 mf_X12_218 rfl rfl k178 rfl ?_
      refine me_iload (q := 476) C dX12_plan_474 rfl rfl ?_
      obtain ⟨u179, eu179, hf⟩ := mm_rf_some hf
      obtain ⟨k180, hf⟩ := mm_ck_some hf
      obtain ⟨k181, hf⟩ := mm_ck_some hf
      refine me_iald (q := 477) C dX12_plan_476 eu179 k180 k181 rfl ?_
      refine me_iload_n (q := 478) C dX12_plan_477 rfl rfl rfl ?_
      obtain ⟨q183, eq183, hf⟩ := mm_jn_some hf
      have Hq183 : ∀ (v182 : Int32), q183 v182 = some (r, h1) → mm_E X h 0 0 497 [some (vR (some b0)), none, some (vI b2), some (vI b3), some (vJ b4), none, some (vJ b6), none, none, none, none, none, none, none, some (vI x14)] [vI v182, vI x14, vR (mm_r h b0 93)] := by
        intro v182 hf
        subst eq183
        obtain ⟨u184, eu184, hf⟩ := mm_rf_some hf
        obtain ⟨k185, hf⟩ := mm_ck_some hf
        obtain ⟨k186, hf⟩ := mm_ck_some hf
        obtain ⟨g187, eg187, hf⟩ := mm_lt_some hf
        refine me_iastH (q := 498) C eg187 dX12_plan_497 eu184 k185 k186 rfl ?_
        obtain ⟨v188, ev188, hf⟩ := mm_lt_some hf
        refine me_iinc (q := 501) (v := v188) (lv2 := [some (vR (some b0)), none, some (vI b2), some (vI b3), some (vJ b4), none, some (vJ b6), none, none, none, none, none, none, none, some (vI v188)]) C dX12_plan_498 rfl (by rw [ev188]; rfl) (Nat.le_of_ble_eq_true rfl) rfl rfl rfl ?_
        refine me_goto (q := 458) C dX12_plan_501 (by decide) ?_
        exact ih _ _ hf hk504
      refine me_icmp_ne (q2 := 485) (q := 481) C dX12_plan_478 (by decide) rfl (fun c189 => ?_) (fun c189 => ?_)
      · have hf := mm_if_t c189 hf
        refine me_aload_n (q := 486) C dX12_plan_485 rfl rfl rfl ?_
        refine me_getR (q := 489) C dX12_plan_486 mf_X12_212 rfl rfl k178 rfl ?_
        refine me_aload_n (q := 490) C dX12_plan_489 rfl rfl rfl ?_
        refine me_getR (q := 493) C dX12_plan_490 mf_X12_218 rfl rfl k178 rfl ?_
        refine me_iload (q := 495) C dX12_plan_493 rfl rfl ?_
        obtain ⟨k190, hf⟩ := mm_ck_some hf
        refine me_iald (q := 496) C dX12_plan_495 eu179 k180 k190 rfl ?_
        obtain ⟨u191, eu191, hf⟩ := mm_rf_some hf
        obtain ⟨k192, hf⟩ := mm_ck_some hf
        obtain ⟨k193, hf⟩ := mm_ck_some hf
        refine me_iald (q := 497) C dX12_plan_496 eu191 k192 k193 rfl ?_
        exact Hq183 _ hf
      · have hf := mm_if_f c189 hf
        refine me_iconst (v := (-1 : Int32)) (q := 482) C dX12_plan_481 (by decide) rfl ?_
        refine me_goto (q := 497) C dX12_plan_482 (by decide) ?_
        exact Hq183 _ hf
set_option maxRecDepth 100000 in
set_option maxHeartbeats 4000000 in
theorem cX12_plan_L243 {X : mm_X} (C : mm_C X cX12_plan yX12_plan 8 0 0) {r : Int64} {h1 : mm_H} (hE : mm_End X 0 0 (some .long) (some (vJ r)) h1) {b0 : Nat} {b2 : Int32} {b3 : Int32} (K583 : Int64 → Int64 → mm_H → Option (Int64 × mm_H)) : ∀ (n : Nat) (x4 : Int64) (x6 : Int64) (x8 : Int32) (h : mm_H), fX12_plan_L243 b0 b2 b3 K583 n x4 x6 x8 h = some (r, h1) → (∀ (y4 : Int64) (y6 : Int64) (h : mm_H), K583 y4 y6 h = some (r, h1) → mm_E X h 0 0 583 [some (vR (some b0)), none, some (vI b2), some (vI b3), some (vJ y4), none, some (vJ y6), none, none, none, none, none, none, none, none] []) → mm_E X h 0 0 243 [some (vR (some b0)), none, some (vI b2), some (vI b3), some (vJ x4), none, some (vJ x6), none, some (vI x8), none, none, none, none, none, none] [] := by
  intro n
  induction n with
  | zero =>
    intro x4 x6 x8 h hf
    exact absurd (show (none : Option (Int64 × mm_H)) = some (r, h1) from hf) (by simp)
  | succ n ih =>
    intro x4 x6 x8 h hf hk583
    have hf : fX12_plan_L243_b b0 b2 b3 K583 (fX12_plan_L243 b0 b2 b3 K583 n) x4 x6 x8 h = some (r, h1) := hf
    unfold fX12_plan_L243_b at hf
    refine me_iload (q := 245) C dX12_plan_243 rfl rfl ?_
    refine me_if_eq (q2 := 583) (q := 248) C dX12_plan_245 (by decide) rfl (fun c89 => ?_) (fun c89 => ?_)
    · have hf := mm_if_t c89 hf
      refine me_mask [true, false, true, true, true, false, true, false, false, false, false, false, false, false, false] (lv2 := [some (vR (some b0)), none, some (vI b2), some (vI b3), some (vJ x4), none, some (vJ x6), none, none, none, none, none, none, none, none]) rfl ?_
      exact hk583 _ _ _ hf
    · have hf := mm_if_f c89 hf
      refine me_lconst (v := (0 : Int64)) (q := 249) C dX12_plan_248 (by decide) rfl ?_
      refine me_lstore (q := 251) (lv2 := [some (vR (some b0)), none, some (vI b2), some (vI b3), some (vJ x4), none, some (vJ x6), none, some (vI x8), some (vJ (0 : Int64)), none, none, none, none, none]) C dX12_plan_249 (Nat.le_of_ble_eq_true rfl) rfl rfl rfl ?_
      refine me_lconst (v := (0 : Int64)) (q := 252) C dX12_plan_251 (by decide) rfl ?_
      refine me_lstore (q := 254) (lv2 := [some (vR (some b0)), none, some (vI b2), some (vI b3), some (vJ x4), none, some (vJ x6), none, some (vI x8), some (vJ (0 : Int64)), none, some (vJ (0 : Int64)), none, none, none]) C dX12_plan_252 (Nat.le_of_ble_eq_true rfl) rfl rfl rfl ?_
      refine me_iconst (v := (1 : Int32)) (q := 255) C dX12_plan_254 (by decide) rfl ?_
      refine me_istore (q := 257) (lv2 := [some (vR (some b0)), none, some (vI b2), some (vI b3), some (vJ x4), none, some (vJ x6), none, some (vI x8), some (vJ (0 : Int64)), none, some (vJ (0 : Int64)), none, some (vI (1 : Int32)), none]) C dX12_plan_255 (Nat.le_of_ble_eq_true rfl) rfl rfl rfl ?_
      refine me_iconst (v := (0 : Int32)) (q := 258) C dX12_plan_257 (by decide) rfl ?_
      refine me_istore (q := 260) (lv2 := [some (vR (some b0)), none, some (vI b2), some (vI b3), some (vJ x4), none, some (vJ x6), none, some (vI x8), some (vJ (0 : Int64)), none, some (vJ (0 : Int64)), none, some (vI (1 : Int32)), some (vI (0 : Int32))]) C dX12_plan_258 (Nat.le_of_ble_eq_true rfl) rfl rfl rfl ?_
      refine me_mask [true, false, true, true, true, false, true, false, false, true, false, true, false, true, true] (lv2 := [some (vR (some b0)), none, some (vI b2), some (vI b3), some (vJ x4), none, some (vJ x6), none, none, some (vJ (0 : Int64)), none, some (vJ (0 : Int64)), none, some (vI (1 : Int32)), some (vI (0 : Int32))]) rfl ?_
      refine cX12_plan_L260 C hE _ _ _ _ hf ?_
      · intro g97 hf
        refine me_iconst (v := (0 : Int32)) (q := 281) C dX12_plan_280 (by decide) rfl ?_
        refine me_istore (q := 283) (lv2 := [some (vR (some b0)), none, some (vI b2), some (vI b3), some (vJ x4), none, some (vJ x6), none, none, some (vJ (0 : Int64)), none, some (vJ (0 : Int64)), none, some (vI (1 : Int32)), some (vI (0 : Int32))]) C dX12_plan_281 (Nat.le_of_ble_eq_true rfl) rfl rfl rfl ?_
        refine cX12_plan_L283 C hE _ _ _ _ _ _ hf ?_
        · intro z125 z126 g127 hf
          refine me_iconst (v := (0 : Int32)) (q := 368) C dX12_plan_367 (by decide) rfl ?_
          refine me_istore (q := 370) (lv2 := [some (vR (some b0)), none, some (vI b2), some (vI b3), some (vJ x4), none, some (vJ x6), none, none, some (vJ z125), none, some (vJ z126), none, some (vI (1 : Int32)), some (vI (0 : Int32))]) C dX12_plan_368 (Nat.le_of_ble_eq_true rfl) rfl rfl rfl ?_
          refine cX12_plan_L370 C hE _ _ _ _ _ hf ?_
          · intro z145 g146 hf
            refine me_iload (q := 420) C dX12_plan_418 rfl rfl ?_
            obtain ⟨q150, eq150, hf⟩ := mm_jn_some hf
            have Hq150 : ∀ (v147 : Int64) (v148 : Int64) (g149 : mm_H), q150 v147 v148 g149 = some (r, h1) → mm_E X g149 0 0 504 [some (vR (some b0)), none, some (vI b2), some (vI b3), some (vJ v147), none, some (vJ v148), none, none, none, none, none, none, none, none] [] := by
              intro v147 v148 g149 hf
              subst eq150
              refine me_iconst (v := (0 : Int32)) (q := 505) C dX12_plan_504 (by decide) rfl ?_
              refine me_istore (q := 507) (lv2 := [some (vR (some b0)), none, some (vI b2), some (vI b3), some (vJ v147), none, some (vJ v148), none, some (vI (0 : Int32)), none, none, none, none, none, none]) C dX12_plan_505 (Nat.le_of_ble_eq_true rfl) rfl rfl rfl ?_
              refine me_iload_n (q := 508) C dX12_plan_507 rfl rfl rfl ?_
              refine me_iconst (v := (1 : Int32)) (q := 509) C dX12_plan_508 (by decide) rfl ?_
              refine me_isub (q := 510) C dX12_plan_509 rfl ?_
              obtain ⟨v151, ev151, hf⟩ := mm_lt_some hf
              refine me_topI ev151 ?_
              refine me_istore (q := 512) (lv2 := [some (vR (some b0)), none, some (vI b2), some (vI b3), some (vJ v147), none, some (vJ v148), none, some (vI (0 : Int32)), none, none, none, none, none, some (vI v151)]) C dX12_plan_510 (Nat.le_of_ble_eq_true rfl) rfl rfl rfl ?_
              refine cX12_plan_L512 C hE _ _ _ _ _ hf ?_
              · intro z173 g174 hf
                refine me_goto (q := 243) C dX12_plan_580 (by decide) ?_
                exact ih _ _ _ _ hf hk583
            refine me_if_eq (q2 := 504) (q := 423) C dX12_plan_420 (by decide) rfl (fun c175 => ?_) (fun c175 => ?_)
            · have hf := mm_if_t c175 hf
              refine me_mask [true, false, true, true, true, false, true, false, false, false, false, false, false, false, false] (lv2 := [some (vR (some b0)), none, some (vI b2), some (vI b3), some (vJ x4), none, some (vJ x6), none, none, none, none, none, none, none, none]) rfl ?_
              exact Hq150 _ _ _ hf
            · have hf := mm_if_f c175 hf
              refine me_lload (q := 425) C dX12_plan_423 rfl rfl ?_
              refine me_lload (q := 427) C dX12_plan_425 rfl rfl ?_
              refine me_lcmp (q := 428) C dX12_plan_427 rfl ?_
              obtain ⟨q176, eq176, hf⟩ := mm_jn_some hf
              have Hq176 : ∀ (_u : Unit), q176 _u = some (r, h1) → mm_E X g146 0 0 447 [some (vR (some b0)), none, some (vI b2), some (vI b3), none, none, none, none, none, some (vJ z125), none, some (vJ z126), none, none, none] [] := by
                intro _u hf
                subst eq176
                refine me_lload (q := 449) C dX12_plan_447 rfl rfl ?_
                refine me_lstore (q := 451) (lv2 := [some (vR (some b0)), none, some (vI b2), some (vI b3), some (vJ z125), none, none, none, none, some (vJ z125), none, some (vJ z126), none, none, none]) C dX12_plan_449 (Nat.le_of_ble_eq_true rfl) rfl rfl rfl ?_
                refine me_lload (q := 453) C dX12_plan_451 rfl rfl ?_
                refine me_lstore (q := 455) (lv2 := [some (vR (some b0)), none, some (vI b2), some (vI b3), some (vJ z125), none, some (vJ z126), none, none, some (vJ z125), none, some (vJ z126), none, none, none]) C dX12_plan_453 (Nat.le_of_ble_eq_true rfl) rfl rfl rfl ?_
                refine me_iconst (v := (0 : Int32)) (q := 456) C dX12_plan_455 (by decide) rfl ?_
                refine me_istore (q := 458) (lv2 := [some (vR (some b0)), none, some (vI b2), some (vI b3), some (vJ z125), none, some (vJ z126), none, none, some (vJ z125), none, some (vJ z126), none, none, some (vI (0 : Int32))]) C dX12_plan_456 (Nat.le_of_ble_eq_true rfl) rfl rfl rfl ?_
                refine me_mask [true, false, true, true, true, false, true, false, false, false, false, false, false, false, true] (lv2 := [some (vR (some b0)), none, some (vI b2), some (vI b3), some (vJ z125), none, some (vJ z126), none, none, none, none, none, none, none, some (vI (0 : Int32))]) rfl ?_
                refine cX12_plan_L458 C hE _ _ _ _ hf ?_
                · intro g194 hf
                  exact Hq150 _ _ _ hf
              refine me_if_gt (q2 := 447) (q := 431) C dX12_plan_428 (by decide) rfl (fun c195 => ?_) (fun c195 => ?_)
              · have hf := mm_if_t c195 hf
                refine me_mask [true, false, true, true, false, false, false, false, false, true, false, true, false, false, false] (lv2 := [some (vR (some b0)), none, some (vI b2), some (vI b3), none, none, none, none, none, some (vJ z125), none, some (vJ z126), none, none, none]) rfl ?_
                exact Hq176 () hf
              · have hf := mm_if_f c195 hf
                refine me_lload (q := 433) C dX12_plan_431 rfl rfl ?_
                refine me_lload (q := 435) C dX12_plan_433 rfl rfl ?_
                refine me_lcmp (q := 436) C dX12_plan_435 rfl ?_
                refine me_if_ne (q2 := 504) (q := 439) C dX12_plan_436 (by decide) rfl (fun c196 => ?_) (fun c196 => ?_)
                · have hf := mm_if_t c196 hf
                  refine me_mask [true, false, true, true, true, false, true, false, false, false, false, false, false, false, false] (lv2 := [some (vR (some b0)), none, some (vI b2), some (vI b3), some (vJ x4), none, some (vJ x6), none, none, none, none, none, none, none, none]) rfl ?_
                  exact Hq150 _ _ _ hf
                · have hf := mm_if_f c196 hf
                  refine me_lload (q := 441) C dX12_plan_439 rfl rfl ?_
                  refine me_lload (q := 443) C dX12_plan_441 rfl rfl ?_
                  refine me_lcmp (q := 444) C dX12_plan_443 rfl ?_
                  refine me_if_le (q2 := 504) (q := 447) C dX12_plan_444 (by decide) rfl (fun c197 => ?_) (fun c197 => ?_)
                  · have hf := mm_if_t c197 hf
                    refine me_mask [true, false, true, true, true, false, true, false, false, false, false, false, false, false, false] (lv2 := [some (vR (some b0)), none, some (vI b2), some (vI b3), some (vJ x4), none, some (vJ x6), none, none, none, none, none, none, none, none]) rfl ?_
                    exact Hq150 _ _ _ hf
                  · have hf := mm_if_f c197 hf
                    refine me_mask [true, false, true, true, false, false, false, false, false, true, false, true, false, false, false] (lv2 := [some (vR (some b0)), none, some (vI b2), some (vI b3), none, none, none, none, none, some (vJ z125), none, some (vJ z126), none, none, none]) rfl ?_
                    exact Hq176 () hf
set_option maxRecDepth 100000 in
set_option maxHeartbeats 4000000 in
theorem cX12_plan_L586 {X : mm_X} (C : mm_C X cX12_plan yX12_plan 8 0 0) {r : Int64} {h1 : mm_H} (hE : mm_End X 0 0 (some .long) (some (vJ r)) h1) {b0 : Nat} {b2 : Int32} {b3 : Int32} {b4 : Int64} {b6 : Int64} (K612 : mm_H → Option (Int64 × mm_H)) : ∀ (n : Nat) (x9 : Int32) (h : mm_H), fX12_plan_L586 b0 b2 b3 b4 b6 K612 n x9 h = some (r, h1) → (∀ (h : mm_H), K612 h = some (r, h1) → mm_E X h 0 0 612 [some (vR (some b0)), none, some (vI b2), some (vI b3), some (vJ b4), none, some (vJ b6), none, none, none, none, none, none, none, none] []) → mm_E X h 0 0 586 [some (vR (some b0)), none, some (vI b2), some (vI b3), some (vJ b4), none, some (vJ b6), none, none, some (vI x9), none, none, none, none, none] [] := by
  intro n
  induction n with
  | zero =>
    intro x9 h hf
    exact absurd (show (none : Option (Int64 × mm_H)) = some (r, h1) from hf) (by simp)
  | succ n ih =>
    intro x9 h hf hk612
    have hf : fX12_plan_L586_b b0 b2 b3 b4 b6 K612 (fX12_plan_L586 b0 b2 b3 b4 b6 K612 n) x9 h = some (r, h1) := hf
    unfold fX12_plan_L586_b at hf
    refine me_iload (q := 588) C dX12_plan_586 rfl rfl ?_
    refine me_iload_n (q := 589) C dX12_plan_588 rfl rfl rfl ?_
    refine me_icmp_ge (q2 := 612) (q := 592) C dX12_plan_589 (by decide) rfl (fun c201 => ?_) (fun c201 => ?_)
    · have hf := mm_if_t c201 hf
      refine me_mask [true, false, true, true, true, false, true, false, false, false, false, false, false, false, false] (lv2 := [some (vR (some b0)), none, some (vI b2), some (vI b3), some (vJ b4), none, some (vJ b6), none, none, none, none, none, none, none, none]) rfl ?_
      exact hk612 _ hf
    · have hf := mm_if_f c201 hf
      refine me_aload_n (q := 593) C dX12_plan_592 rfl rfl rfl ?_
      obtain ⟨k202, hf⟩ := mm_ck_some hf
      refine me_getR (q := 596) C dX12_plan_593 mf_X12_206 rfl rfl k202 rfl ?_
      refine me_iload (q := 598) C dX12_plan_596 rfl rfl ?_
      refine me_aload_n (q := 599) C dX12_plan_598 rfl rfl rfl ?_
      refine me_getR (q := 602) C dX12_plan_599 mf_X12_215 rfl rfl k202 rfl ?_
      refine me_iload (q := 604) C dX12_plan_602 rfl rfl ?_
      obtain ⟨u203, eu203, hf⟩ := mm_rf_some hf
      obtain ⟨k204, hf⟩ := mm_ck_some hf
      obtain ⟨k205, hf⟩ := mm_ck_some hf
      refine me_iald (q := 605) C dX12_plan_604 eu203 k204 k205 rfl ?_
      obtain ⟨u206, eu206, hf⟩ := mm_rf_some hf
      obtain ⟨k207, hf⟩ := mm_ck_some hf
      obtain ⟨k208, hf⟩ := mm_ck_some hf
      obtain ⟨g209, eg209, hf⟩ := mm_lt_some hf
      refine me_iastH (q := 606) C eg209 dX12_plan_605 eu206 k207 k208 rfl ?_
      obtain ⟨v210, ev210, hf⟩ := mm_lt_some hf
      refine me_iinc (q := 609) (v := v210) (lv2 := [some (vR (some b0)), none, some (vI b2), some (vI b3), some (vJ b4), none, some (vJ b6), none, none, some (vI v210), none, none, none, none, none]) C dX12_plan_606 rfl (by rw [ev210]; rfl) (Nat.le_of_ble_eq_true rfl) rfl rfl rfl ?_
      refine me_goto (q := 586) C dX12_plan_609 (by decide) ?_
      exact ih _ _ hf hk612
set_option maxRecDepth 100000 in
set_option maxHeartbeats 4000000 in
theorem cX12_plan_ok (l : Launch) {a0 : Nat} {a1 : Int32} {h : mm_H} {r : Int64} {h1 : mm_H} (hf : fX12_plan a0 a1 h = some (r, h1)) : mm_M l yX12_plan cX12_plan 15 (some .long) 8 0 0 [vR (some a0), vI a1] h (some (vJ r)) h1 := by
  refine mm_enter (lv := [some (vR (some a0)), some (vI a1), none, none, none, none, none, none, none, none, none, none, none, none, none]) (by decide) rfl (Nat.le_of_ble_eq_true rfl) ?_
  intro X hl C hE
  subst hl
  unfold fX12_plan at hf
  refine me_aload_n (q := 1) C dX12_plan_0 rfl rfl rfl ?_
  refine me_iload_n (q := 2) C dX12_plan_1 rfl rfl rfl ?_
  obtain ⟨k1, hf⟩ := mm_ck_some hf
  obtain ⟨v2, g3, e4, hf⟩ := mm_cl_some hf
  refine me_callV (q := 5) (c2 := 0) (s2 := 0) (st := []) C (cX12_isThere_ok _ e4) mt_X12_285 mv_X12_isThere rfl (by decide) dX12_plan_2 rfl k1 rfl rfl rfl (Nat.le_of_ble_eq_true rfl) rfl (Nat.le_of_ble_eq_true rfl) rfl (Nat.le_of_ble_eq_true rfl) rfl rfl ?_
  refine me_if_ne (q2 := 12) (q := 8) C dX12_plan_5 (by decide) rfl (fun c5 => ?_) (fun c5 => ?_)
  · have hf := mm_if_t c5 hf
    refine me_iconst (v := (0 : Int32)) (q := 13) C dX12_plan_12 (by decide) rfl ?_
    refine me_istore_n (q := 14) (lv2 := [some (vR (some a0)), some (vI a1), some (vI (0 : Int32)), none, none, none, none, none, none, none, none, none, none, none, none]) C dX12_plan_13 rfl (Nat.le_of_ble_eq_true rfl) rfl rfl rfl ?_
    refine me_iconst (v := (0 : Int32)) (q := 15) C dX12_plan_14 (by decide) rfl ?_
    refine me_istore_n (q := 16) (lv2 := [some (vR (some a0)), some (vI a1), some (vI (0 : Int32)), some (vI (0 : Int32)), none, none, none, none, none, none, none, none, none, none, none]) C dX12_plan_15 rfl (Nat.le_of_ble_eq_true rfl) rfl rfl rfl ?_
    refine cX12_plan_L16 C hE _ _ _ _ _ hf ?_
    · intro z26 g27 hf
      refine me_aload_n (q := 65) C dX12_plan_64 rfl rfl rfl ?_
      obtain ⟨k28, hf⟩ := mm_ck_some hf
      obtain ⟨v29, g30, e31, hf⟩ := mm_cl_some hf
      refine me_callV (q := 68) (c2 := 0) (s2 := 0) (st := []) C (cX12_gathers_ok _ e31) mt_X12_555 mv_X12_gathers rfl (by decide) dX12_plan_65 rfl k28 rfl rfl rfl (Nat.le_of_ble_eq_true rfl) rfl (Nat.le_of_ble_eq_true rfl) rfl (Nat.le_of_ble_eq_true rfl) rfl rfl ?_
      refine me_istore_n (q := 69) (lv2 := [some (vR (some a0)), none, some (vI z26), some (vI v29), none, none, none, none, none, none, none, none, none, none, none]) C dX12_plan_68 rfl (Nat.le_of_ble_eq_true rfl) rfl rfl rfl ?_
      refine me_iconst (v := (0 : Int32)) (q := 70) C dX12_plan_69 (by decide) rfl ?_
      refine me_istore (q := 72) (lv2 := [some (vR (some a0)), none, some (vI z26), some (vI v29), some (vI (0 : Int32)), none, none, none, none, none, none, none, none, none, none]) C dX12_plan_70 (Nat.le_of_ble_eq_true rfl) rfl rfl rfl ?_
      refine cX12_plan_L72 C hE _ _ _ _ hf ?_
      · intro g88 hf
        refine me_ldc2_w (v := (-1 : Int64)) (q := 235) C dX12_plan_232 mc_X12_553 rfl ?_
        refine me_lstore (q := 237) (lv2 := [some (vR (some a0)), none, some (vI z26), some (vI v29), some (vJ (-1 : Int64)), none, none, none, none, none, none, none, none, none, none]) C dX12_plan_235 (Nat.le_of_ble_eq_true rfl) rfl rfl rfl ?_
        refine me_lconst (v := (0 : Int64)) (q := 238) C dX12_plan_237 (by decide) rfl ?_
        refine me_lstore (q := 240) (lv2 := [some (vR (some a0)), none, some (vI z26), some (vI v29), some (vJ (-1 : Int64)), none, some (vJ (0 : Int64)), none, none, none, none, none, none, none, none]) C dX12_plan_238 (Nat.le_of_ble_eq_true rfl) rfl rfl rfl ?_
        refine me_iconst (v := (1 : Int32)) (q := 241) C dX12_plan_240 (by decide) rfl ?_
        refine me_istore (q := 243) (lv2 := [some (vR (some a0)), none, some (vI z26), some (vI v29), some (vJ (-1 : Int64)), none, some (vJ (0 : Int64)), none, some (vI (1 : Int32)), none, none, none, none, none, none]) C dX12_plan_241 (Nat.le_of_ble_eq_true rfl) rfl rfl rfl ?_
        refine cX12_plan_L243 C hE _ _ _ _ _ _ hf ?_
        · intro z198 z199 g200 hf
          refine me_iconst (v := (0 : Int32)) (q := 584) C dX12_plan_583 (by decide) rfl ?_
          refine me_istore (q := 586) (lv2 := [some (vR (some a0)), none, some (vI z26), some (vI v29), some (vJ z198), none, some (vJ z199), none, none, some (vI (0 : Int32)), none, none, none, none, none]) C dX12_plan_584 (Nat.le_of_ble_eq_true rfl) rfl rfl rfl ?_
          refine cX12_plan_L586 C hE _ _ _ _ hf ?_
          · intro g211 hf
            refine me_aload_n (q := 613) C dX12_plan_612 rfl rfl rfl ?_
            refine me_iconst (v := (1 : Int32)) (q := 614) C dX12_plan_613 (by decide) rfl ?_
            obtain ⟨k212, hf⟩ := mm_ck_some hf
            obtain ⟨g213, eg213, hf⟩ := mm_lt_some hf
            refine me_putZ (q := 617) C (Or.inr rfl) eg213 dX12_plan_614 mf_X12_558 mp_X12_13_88 rfl (by decide) rfl k212 rfl ?_
            refine me_aload_n (q := 618) C dX12_plan_617 rfl rfl rfl ?_
            refine me_iload_n (q := 619) C dX12_plan_618 rfl rfl rfl ?_
            obtain ⟨g214, eg214, hf⟩ := mm_lt_some hf
            refine me_putI (q := 622) C eg214 dX12_plan_619 mf_X12_562 mp_X12_13_89 rfl (by decide) rfl (mm_kI eg213 k212) rfl ?_
            refine me_aload_n (q := 623) C dX12_plan_622 rfl rfl rfl ?_
            refine me_iload_n (q := 624) C dX12_plan_623 rfl rfl rfl ?_
            obtain ⟨g215, eg215, hf⟩ := mm_lt_some hf
            refine me_putI (q := 627) C eg215 dX12_plan_624 mf_X12_565 mp_X12_13_90 rfl (by decide) rfl (mm_kI eg214 (mm_kI eg213 k212)) rfl ?_
            refine me_aload_n (q := 628) C dX12_plan_627 rfl rfl rfl ?_
            refine me_lload (q := 630) C dX12_plan_628 rfl rfl ?_
            obtain ⟨g216, eg216, hf⟩ := mm_lt_some hf
            refine me_putJ (q := 633) C eg216 dX12_plan_630 mf_X12_568 mp_X12_13_91 rfl (by decide) rfl (mm_kI eg215 (mm_kI eg214 (mm_kI eg213 k212))) rfl ?_
            refine me_lload (q := 635) C dX12_plan_633 rfl rfl ?_
            exact me_lret C hE (Nat.le_of_ble_eq_true rfl) (Nat.le_of_ble_eq_true rfl) rfl dX12_plan_635 (mm_rj hf)
  · have hf := mm_if_f c5 hf
    refine me_ldc2_w (v := (-1 : Int64)) (q := 11) C dX12_plan_8 mc_X12_553 rfl ?_
    exact me_lret C hE (Nat.le_of_ble_eq_true rfl) (Nat.le_of_ble_eq_true rfl) rfl dX12_plan_11 (mm_rj hf)
set_option maxRecDepth 100000 in
set_option maxHeartbeats 4000000 in
theorem cX12_planned_ok (l : Launch) {a0 : Nat} {a1 : Int32} {a2 : Int32} {h : mm_H} {r : Int32} {h1 : mm_H} (hf : fX12_planned a0 a1 a2 h = some (r, h1)) : mm_M l yX12_planned cX12_planned 3 (some .int) 4 0 0 [vR (some a0), vI a1, vI a2] h (some (vI r)) h1 := by
  refine mm_enter (lv := [some (vR (some a0)), some (vI a1), some (vI a2)]) (by decide) rfl (Nat.le_of_ble_eq_true rfl) ?_
  intro X hl C hE
  subst hl
  unfold fX12_planned at hf
  refine me_aload_n (q := 1) C dX12_planned_0 rfl rfl rfl ?_
  obtain ⟨k1, hf⟩ := mm_ck_some hf
  refine me_getI (q := 4) C dX12_planned_1 mf_X12_558 rfl rfl k1 rfl ?_
  refine me_if_eq (q2 := 30) (q := 7) C dX12_planned_4 (by decide) rfl (fun c2 => ?_) (fun c2 => ?_)
  · have hf := mm_if_t c2 hf
    refine me_iconst (v := (-1 : Int32)) (q := 31) C dX12_planned_30 (by decide) rfl ?_
    exact me_iret C hE (Nat.le_of_ble_eq_true rfl) (Nat.le_of_ble_eq_true rfl) rfl dX12_planned_31 (mm_ri hf)
  · have hf := mm_if_f c2 hf
    refine me_iload_n (q := 8) C dX12_planned_7 rfl rfl rfl ?_
    refine me_iconst (v := (-1 : Int32)) (q := 9) C dX12_planned_8 (by decide) rfl ?_
    refine me_aload_n (q := 10) C dX12_planned_9 rfl rfl rfl ?_
    refine me_getI (q := 13) C dX12_planned_10 mf_X12_562 rfl rfl k1 rfl ?_
    refine me_iconst (v := (1 : Int32)) (q := 14) C dX12_planned_13 (by decide) rfl ?_
    refine me_isub (q := 15) C dX12_planned_14 rfl ?_
    obtain ⟨v3, g4, e5, hf⟩ := mm_cl_some hf
    refine me_callS (q := 18) (c2 := 0) (s2 := 0) (st := []) C (cX12_in_ok _ e5) mt_X12_269 ms_X12_in dX12_planned_15 rfl rfl rfl (Nat.le_of_ble_eq_true rfl) rfl (Nat.le_of_ble_eq_true rfl) rfl (Nat.le_of_ble_eq_true rfl) rfl rfl ?_
    refine me_if_eq (q2 := 30) (q := 21) C dX12_planned_18 (by decide) rfl (fun c6 => ?_) (fun c6 => ?_)
    · have hf := mm_if_t c6 hf
      refine me_iconst (v := (-1 : Int32)) (q := 31) C dX12_planned_30 (by decide) rfl ?_
      exact me_iret C hE (Nat.le_of_ble_eq_true rfl) (Nat.le_of_ble_eq_true rfl) rfl dX12_planned_31 (mm_ri hf)
    · have hf := mm_if_f c6 hf
      refine me_iload_n (q := 22) C dX12_planned_21 rfl rfl rfl ?_
      refine me_iconst (v := (0 : Int32)) (q := 23) C dX12_planned_22 (by decide) rfl ?_
      refine me_iconst (v := (1 : Int32)) (q := 24) C dX12_planned_23 (by decide) rfl ?_
      obtain ⟨v7, g8, e9, hf⟩ := mm_cl_some hf
      refine me_callS (q := 27) (c2 := 0) (s2 := 0) (st := []) C (cX12_in_ok _ e9) mt_X12_269 ms_X12_in dX12_planned_24 rfl rfl rfl (Nat.le_of_ble_eq_true rfl) rfl (Nat.le_of_ble_eq_true rfl) rfl (Nat.le_of_ble_eq_true rfl) rfl rfl ?_
      refine me_if_ne (q2 := 32) (q := 30) C dX12_planned_27 (by decide) rfl (fun c10 => ?_) (fun c10 => ?_)
      · have hf := mm_if_t c10 hf
        refine me_iload_n (q := 33) C dX12_planned_32 rfl rfl rfl ?_
        refine me_iconst (v := (-1 : Int32)) (q := 34) C dX12_planned_33 (by decide) rfl ?_
        refine me_icmp_ne (q2 := 53) (q := 37) C dX12_planned_34 (by decide) rfl (fun c11 => ?_) (fun c11 => ?_)
        · have hf := mm_if_t c11 hf
          refine me_iload_n (q := 54) C dX12_planned_53 rfl rfl rfl ?_
          refine me_if_ne (q2 := 66) (q := 57) C dX12_planned_54 (by decide) rfl (fun c12 => ?_) (fun c12 => ?_)
          · have hf := mm_if_t c12 hf
            refine me_aload_n (q := 67) C dX12_planned_66 rfl rfl rfl ?_
            obtain ⟨k13, hf⟩ := mm_ck_some hf
            refine me_getR (q := 70) C dX12_planned_67 mf_X12_209 rfl rfl k13 rfl ?_
            refine me_iload_n (q := 71) C dX12_planned_70 rfl rfl rfl ?_
            obtain ⟨u14, eu14, hf⟩ := mm_rf_some hf
            obtain ⟨k15, hf⟩ := mm_ck_some hf
            obtain ⟨k16, hf⟩ := mm_ck_some hf
            refine me_iald (q := 72) C dX12_planned_71 eu14 k15 k16 rfl ?_
            exact me_iret C hE (Nat.le_of_ble_eq_true rfl) (Nat.le_of_ble_eq_true rfl) rfl dX12_planned_72 (mm_ri hf)
          · have hf := mm_if_f c12 hf
            refine me_aload_n (q := 58) C dX12_planned_57 rfl rfl rfl ?_
            obtain ⟨k17, hf⟩ := mm_ck_some hf
            refine me_getR (q := 61) C dX12_planned_58 mf_X12_206 rfl rfl k17 rfl ?_
            refine me_iload_n (q := 62) C dX12_planned_61 rfl rfl rfl ?_
            obtain ⟨u18, eu18, hf⟩ := mm_rf_some hf
            obtain ⟨k19, hf⟩ := mm_ck_some hf
            obtain ⟨k20, hf⟩ := mm_ck_some hf
            refine me_iald (q := 63) C dX12_planned_62 eu18 k19 k20 rfl ?_
            refine me_goto (q := 72) C dX12_planned_63 (by decide) ?_
            exact me_iret C hE (Nat.le_of_ble_eq_true rfl) (Nat.le_of_ble_eq_true rfl) rfl dX12_planned_72 (mm_ri hf)
        · have hf := mm_if_f c11 hf
          refine me_iload_n (q := 38) C dX12_planned_37 rfl rfl rfl ?_
          refine me_if_ne (q2 := 48) (q := 41) C dX12_planned_38 (by decide) rfl (fun c21 => ?_) (fun c21 => ?_)
          · have hf := mm_if_t c21 hf
            refine me_aload_n (q := 49) C dX12_planned_48 rfl rfl rfl ?_
            obtain ⟨k22, hf⟩ := mm_ck_some hf
            refine me_getI (q := 52) C dX12_planned_49 mf_X12_565 rfl rfl k22 rfl ?_
            exact me_iret C hE (Nat.le_of_ble_eq_true rfl) (Nat.le_of_ble_eq_true rfl) rfl dX12_planned_52 (mm_ri hf)
          · have hf := mm_if_f c21 hf
            refine me_aload_n (q := 42) C dX12_planned_41 rfl rfl rfl ?_
            obtain ⟨k23, hf⟩ := mm_ck_some hf
            refine me_getI (q := 45) C dX12_planned_42 mf_X12_562 rfl rfl k23 rfl ?_
            refine me_goto (q := 52) C dX12_planned_45 (by decide) ?_
            exact me_iret C hE (Nat.le_of_ble_eq_true rfl) (Nat.le_of_ble_eq_true rfl) rfl dX12_planned_52 (mm_ri hf)
      · have hf := mm_if_f c10 hf
        refine me_iconst (v := (-1 : Int32)) (q := 31) C dX12_planned_30 (by decide) rfl ?_
        exact me_iret C hE (Nat.le_of_ble_eq_true rfl) (Nat.le_of_ble_eq_true rfl) rfl dX12_planned_31 (mm_ri hf)
set_option maxRecDepth 100000 in
set_option maxHeartbeats 4000000 in
theorem cX12_high_ok (l : Launch) {a0 : Nat} {h : mm_H} {r : Int64} {h1 : mm_H} (hf : fX12_high a0 h = some (r, h1)) : mm_M l yX12_high cX12_high 1 (some .long) 2 0 0 [vR (some a0)] h (some (vJ r)) h1 := by
  refine mm_enter (lv := [some (vR (some a0))]) (by decide) rfl (Nat.le_of_ble_eq_true rfl) ?_
  intro X hl C hE
  subst hl
  unfold fX12_high at hf
  refine me_aload_n (q := 1) C dX12_high_0 rfl rfl rfl ?_
  obtain ⟨k1, hf⟩ := mm_ck_some hf
  refine me_getI (q := 4) C dX12_high_1 mf_X12_558 rfl rfl k1 rfl ?_
  refine me_if_eq (q2 := 14) (q := 7) C dX12_high_4 (by decide) rfl (fun c2 => ?_) (fun c2 => ?_)
  · have hf := mm_if_t c2 hf
    refine me_ldc2_w (v := (-1 : Int64)) (q := 17) C dX12_high_14 mc_X12_553 rfl ?_
    exact me_lret C hE (Nat.le_of_ble_eq_true rfl) (Nat.le_of_ble_eq_true rfl) rfl dX12_high_17 (mm_rj hf)
  · have hf := mm_if_f c2 hf
    refine me_aload_n (q := 8) C dX12_high_7 rfl rfl rfl ?_
    refine me_getJ (q := 11) C dX12_high_8 mf_X12_568 rfl rfl k1 rfl ?_
    refine me_goto (q := 17) C dX12_high_11 (by decide) ?_
    exact me_lret C hE (Nat.le_of_ble_eq_true rfl) (Nat.le_of_ble_eq_true rfl) rfl dX12_high_17 (mm_rj hf)
set_option maxRecDepth 100000 in
set_option maxHeartbeats 4000000 in
theorem cX12_sail_ok (l : Launch) {a0 : Nat} {a1 : Int32} {a2 : Int32} {h : mm_H} {r : Int32} {h1 : mm_H} (hf : fX12_sail a0 a1 a2 h = some (r, h1)) : mm_M l yX12_sail cX12_sail 4 (some .int) 8 0 0 [vR (some a0), vI a1, vI a2] h (some (vI r)) h1 := by
  refine mm_enter (lv := [some (vR (some a0)), some (vI a1), some (vI a2), none]) (by decide) rfl (Nat.le_of_ble_eq_true rfl) ?_
  intro X hl C hE
  subst hl
  unfold fX12_sail at hf
  refine me_aload_n (q := 1) C dX12_sail_0 rfl rfl rfl ?_
  refine me_iload_n (q := 2) C dX12_sail_1 rfl rfl rfl ?_
  obtain ⟨k1, hf⟩ := mm_ck_some hf
  obtain ⟨v2, g3, e4, hf⟩ := mm_cl_some hf
  refine me_callV (q := 5) (c2 := 0) (s2 := 0) (st := []) C (cX12_isThere_ok _ e4) mt_X12_285 mv_X12_isThere rfl (by decide) dX12_sail_2 rfl k1 rfl rfl rfl (Nat.le_of_ble_eq_true rfl) rfl (Nat.le_of_ble_eq_true rfl) rfl (Nat.le_of_ble_eq_true rfl) rfl rfl ?_
  refine me_if_eq (q2 := 49) (q := 8) C dX12_sail_5 (by decide) rfl (fun c5 => ?_) (fun c5 => ?_)
  · have hf := mm_if_t c5 hf
    refine me_iconst (v := (-1 : Int32)) (q := 50) C dX12_sail_49 (by decide) rfl ?_
    exact me_iret C hE (Nat.le_of_ble_eq_true rfl) (Nat.le_of_ble_eq_true rfl) rfl dX12_sail_50 (mm_ri hf)
  · have hf := mm_if_f c5 hf
    refine me_iload_n (q := 9) C dX12_sail_8 rfl rfl rfl ?_
    refine me_iconst (v := (0 : Int32)) (q := 10) C dX12_sail_9 (by decide) rfl ?_
    refine me_aload_n (q := 11) C dX12_sail_10 rfl rfl rfl ?_
    obtain ⟨k6, hf⟩ := mm_ck_some hf
    refine me_getI (q := 14) C dX12_sail_11 mf_X12_547 rfl rfl k6 rfl ?_
    refine me_iconst (v := (1 : Int32)) (q := 15) C dX12_sail_14 (by decide) rfl ?_
    refine me_isub (q := 16) C dX12_sail_15 rfl ?_
    obtain ⟨v7, g8, e9, hf⟩ := mm_cl_some hf
    refine me_callS (q := 19) (c2 := 0) (s2 := 0) (st := []) C (cX12_in_ok _ e9) mt_X12_269 ms_X12_in dX12_sail_16 rfl rfl rfl (Nat.le_of_ble_eq_true rfl) rfl (Nat.le_of_ble_eq_true rfl) rfl (Nat.le_of_ble_eq_true rfl) rfl rfl ?_
    refine me_if_eq (q2 := 49) (q := 22) C dX12_sail_19 (by decide) rfl (fun c10 => ?_) (fun c10 => ?_)
    · have hf := mm_if_t c10 hf
      refine me_iconst (v := (-1 : Int32)) (q := 50) C dX12_sail_49 (by decide) rfl ?_
      exact me_iret C hE (Nat.le_of_ble_eq_true rfl) (Nat.le_of_ble_eq_true rfl) rfl dX12_sail_50 (mm_ri hf)
    · have hf := mm_if_f c10 hf
      refine me_aload_n (q := 23) C dX12_sail_22 rfl rfl rfl ?_
      obtain ⟨k11, hf⟩ := mm_ck_some hf
      refine me_getI (q := 26) C dX12_sail_23 mf_X12_273 rfl rfl k11 rfl ?_
      refine me_aload_n (q := 27) C dX12_sail_26 rfl rfl rfl ?_
      refine me_getR (q := 30) C dX12_sail_27 mf_X12_179 rfl rfl k11 rfl ?_
      refine me_iload_n (q := 31) C dX12_sail_30 rfl rfl rfl ?_
      obtain ⟨u12, eu12, hf⟩ := mm_rf_some hf
      obtain ⟨k13, hf⟩ := mm_ck_some hf
      obtain ⟨k14, hf⟩ := mm_ck_some hf
      refine me_iald (q := 32) C dX12_sail_31 eu12 k13 k14 rfl ?_
      refine me_icmp_gt (q2 := 49) (q := 35) C dX12_sail_32 (by decide) rfl (fun c15 => ?_) (fun c15 => ?_)
      · have hf := mm_if_t c15 hf
        refine me_iconst (v := (-1 : Int32)) (q := 50) C dX12_sail_49 (by decide) rfl ?_
        exact me_iret C hE (Nat.le_of_ble_eq_true rfl) (Nat.le_of_ble_eq_true rfl) rfl dX12_sail_50 (mm_ri hf)
      · have hf := mm_if_f c15 hf
        refine me_aload_n (q := 36) C dX12_sail_35 rfl rfl rfl ?_
        refine me_getR (q := 39) C dX12_sail_36 mf_X12_203 rfl rfl k11 rfl ?_
        refine me_bipush (v := (40 : Int32)) (q := 41) C dX12_sail_39 (by decide) rfl ?_
        refine me_iload_n (q := 42) C dX12_sail_41 rfl rfl rfl ?_
        refine me_imul (q := 43) C dX12_sail_42 rfl ?_
        refine me_iload_n (q := 44) C dX12_sail_43 rfl rfl rfl ?_
        refine me_iadd (q := 45) C dX12_sail_44 rfl ?_
        obtain ⟨u16, eu16, hf⟩ := mm_rf_some hf
        obtain ⟨k17, hf⟩ := mm_ck_some hf
        obtain ⟨k18, hf⟩ := mm_ck_some hf
        refine me_zald (q := 46) C dX12_sail_45 eu16 k17 k18 rfl ?_
        refine me_if_eq (q2 := 51) (q := 49) C dX12_sail_46 (by decide) rfl (fun c19 => ?_) (fun c19 => ?_)
        · have hf := mm_if_t c19 hf
          refine me_aload_n (q := 52) C dX12_sail_51 rfl rfl rfl ?_
          refine me_getR (q := 55) C dX12_sail_52 mf_X12_203 rfl rfl k11 rfl ?_
          refine me_bipush (v := (40 : Int32)) (q := 57) C dX12_sail_55 (by decide) rfl ?_
          refine me_iload_n (q := 58) C dX12_sail_57 rfl rfl rfl ?_
          refine me_imul (q := 59) C dX12_sail_58 rfl ?_
          refine me_iload_n (q := 60) C dX12_sail_59 rfl rfl rfl ?_
          refine me_iadd (q := 61) C dX12_sail_60 rfl ?_
          refine me_iconst (v := (1 : Int32)) (q := 62) C dX12_sail_61 (by decide) rfl ?_
          obtain ⟨k20, hf⟩ := mm_ck_some hf
          obtain ⟨g21, eg21, hf⟩ := mm_lt_some hf
          refine me_zastH (q := 63) C eg21 dX12_sail_62 eu16 k17 k20 rfl ?_
          refine me_aload_n (q := 64) C dX12_sail_63 rfl rfl rfl ?_
          refine me_getR (q := 67) C dX12_sail_64 mf_X12_179 rfl rfl (mm_kI eg21 k11) rfl ?_
          refine me_iload_n (q := 68) C dX12_sail_67 rfl rfl rfl ?_
          obtain ⟨u22, eu22, hf⟩ := mm_rf_some hf
          obtain ⟨k23, hf⟩ := mm_ck_some hf
          obtain ⟨k24, hf⟩ := mm_ck_some hf
          refine me_iald (q := 69) C dX12_sail_68 eu22 k23 k24 rfl ?_
          refine me_aload_n (q := 70) C dX12_sail_69 rfl rfl rfl ?_
          refine me_getR (q := 73) C dX12_sail_70 mf_X12_182 rfl rfl (mm_kI eg21 k11) rfl ?_
          refine me_iload_n (q := 74) C dX12_sail_73 rfl rfl rfl ?_
          obtain ⟨u25, eu25, hf⟩ := mm_rf_some hf
          obtain ⟨k26, hf⟩ := mm_ck_some hf
          obtain ⟨k27, hf⟩ := mm_ck_some hf
          refine me_iald (q := 75) C dX12_sail_74 eu25 k26 k27 rfl ?_
          refine me_iadd (q := 76) C dX12_sail_75 rfl ?_
          obtain ⟨v28, ev28, hf⟩ := mm_lt_some hf
          refine me_topI ev28 ?_
          refine me_istore_n (q := 77) (lv2 := [some (vR (some a0)), some (vI a1), some (vI a2), some (vI v28)]) C dX12_sail_76 rfl (Nat.le_of_ble_eq_true rfl) rfl rfl rfl ?_
          refine me_aload_n (q := 78) C dX12_sail_77 rfl rfl rfl ?_
          refine me_aload_n (q := 79) C dX12_sail_78 rfl rfl rfl ?_
          refine me_getR (q := 82) C dX12_sail_79 mf_X12_176 rfl rfl (mm_kI eg21 k11) rfl ?_
          refine me_iload_n (q := 83) C dX12_sail_82 rfl rfl rfl ?_
          obtain ⟨u29, eu29, hf⟩ := mm_rf_some hf
          obtain ⟨k30, hf⟩ := mm_ck_some hf
          obtain ⟨k31, hf⟩ := mm_ck_some hf
          refine me_iald (q := 84) C dX12_sail_83 eu29 k30 k31 rfl ?_
          refine me_iload_n (q := 85) C dX12_sail_84 rfl rfl rfl ?_
          refine me_aload_n (q := 86) C dX12_sail_85 rfl rfl rfl ?_
          refine me_getR (q := 89) C dX12_sail_86 mf_X12_179 rfl rfl (mm_kI eg21 k11) rfl ?_
          refine me_iload_n (q := 90) C dX12_sail_89 rfl rfl rfl ?_
          obtain ⟨k32, hf⟩ := mm_ck_some hf
          refine me_iald (q := 91) C dX12_sail_90 eu22 k23 k32 rfl ?_
          obtain ⟨v33, g34, e35, hf⟩ := mm_cl_some hf
          refine me_callV (q := 94) (c2 := 0) (s2 := 0) (st := []) C (cX12_shuts_ok _ e35) mt_X12_469 mv_X12_shuts rfl (by decide) dX12_sail_91 rfl (mm_kI eg21 k11) rfl rfl rfl (Nat.le_of_ble_eq_true rfl) rfl (Nat.le_of_ble_eq_true rfl) rfl (Nat.le_of_ble_eq_true rfl) rfl rfl ?_
          refine me_if_eq (q2 := 109) (q := 97) C dX12_sail_94 (by decide) rfl (fun c36 => ?_) (fun c36 => ?_)
          · have hf := mm_if_t c36 hf
            refine me_aload_n (q := 110) C dX12_sail_109 rfl rfl rfl ?_
            refine me_aload_n (q := 111) C dX12_sail_110 rfl rfl rfl ?_
            obtain ⟨k37, hf⟩ := mm_ck_some hf
            refine me_getR (q := 114) C dX12_sail_111 mf_X12_176 rfl rfl k37 rfl ?_
            refine me_iload_n (q := 115) C dX12_sail_114 rfl rfl rfl ?_
            obtain ⟨u38, eu38, hf⟩ := mm_rf_some hf
            obtain ⟨k39, hf⟩ := mm_ck_some hf
            obtain ⟨k40, hf⟩ := mm_ck_some hf
            refine me_iald (q := 116) C dX12_sail_115 eu38 k39 k40 rfl ?_
            refine me_iload_n (q := 117) C dX12_sail_116 rfl rfl rfl ?_
            refine me_ldc_w (v := (100000 : Int32)) (q := 120) C dX12_sail_117 mc_X12_280 rfl ?_
            obtain ⟨v41, g42, e43, hf⟩ := mm_cl_some hf
            refine me_callV (q := 123) (c2 := 0) (s2 := 0) (st := []) C (cX12_shuts_ok _ e43) mt_X12_469 mv_X12_shuts rfl (by decide) dX12_sail_120 rfl k37 rfl rfl rfl (Nat.le_of_ble_eq_true rfl) rfl (Nat.le_of_ble_eq_true rfl) rfl (Nat.le_of_ble_eq_true rfl) rfl rfl ?_
            refine me_if_eq (q2 := 130) (q := 126) C dX12_sail_123 (by decide) rfl (fun c44 => ?_) (fun c44 => ?_)
            · have hf := mm_if_t c44 hf
              refine me_iconst (v := (0 : Int32)) (q := 131) C dX12_sail_130 (by decide) rfl ?_
              exact me_iret C hE (Nat.le_of_ble_eq_true rfl) (Nat.le_of_ble_eq_true rfl) rfl dX12_sail_131 (mm_ri hf)
            · have hf := mm_if_f c44 hf
              refine me_iconst (v := (2 : Int32)) (q := 127) C dX12_sail_126 (by decide) rfl ?_
              refine me_goto (q := 131) C dX12_sail_127 (by decide) ?_
              exact me_iret C hE (Nat.le_of_ble_eq_true rfl) (Nat.le_of_ble_eq_true rfl) rfl dX12_sail_131 (mm_ri hf)
          · have hf := mm_if_f c36 hf
            refine me_aload_n (q := 98) C dX12_sail_97 rfl rfl rfl ?_
            obtain ⟨k45, hf⟩ := mm_ck_some hf
            refine me_getR (q := 101) C dX12_sail_98 mf_X12_22 rfl rfl k45 rfl ?_
            refine me_iload_n (q := 102) C dX12_sail_101 rfl rfl rfl ?_
            refine me_dup2_11 (q := 103) C dX12_sail_102 rfl rfl rfl ?_
            obtain ⟨u46, eu46, hf⟩ := mm_rf_some hf
            obtain ⟨k47, hf⟩ := mm_ck_some hf
            obtain ⟨k48, hf⟩ := mm_ck_some hf
            refine me_iald (q := 104) C dX12_sail_103 eu46 k47 k48 rfl ?_
            refine me_iconst (v := (1 : Int32)) (q := 105) C dX12_sail_104 (by decide) rfl ?_
            refine me_iadd (q := 106) C dX12_sail_105 rfl ?_
            obtain ⟨k49, hf⟩ := mm_ck_some hf
            obtain ⟨g50, eg50, hf⟩ := mm_lt_some hf
            refine me_iastH (q := 107) C eg50 dX12_sail_106 eu46 k47 k49 rfl ?_
            refine me_iconst (v := (1 : Int32)) (q := 108) C dX12_sail_107 (by decide) rfl ?_
            exact me_iret C hE (Nat.le_of_ble_eq_true rfl) (Nat.le_of_ble_eq_true rfl) rfl dX12_sail_108 (mm_ri hf)
        · have hf := mm_if_f c19 hf
          refine me_iconst (v := (-1 : Int32)) (q := 50) C dX12_sail_49 (by decide) rfl ?_
          exact me_iret C hE (Nat.le_of_ble_eq_true rfl) (Nat.le_of_ble_eq_true rfl) rfl dX12_sail_50 (mm_ri hf)
set_option maxRecDepth 100000 in
set_option maxHeartbeats 4000000 in
theorem cX12_broke_ok (l : Launch) {a0 : Nat} {a1 : Int32} {h : mm_H} {r : Int32} {h1 : mm_H} (hf : fX12_broke a0 a1 h = some (r, h1)) : mm_M l yX12_broke cX12_broke 2 (some .int) 6 0 0 [vR (some a0), vI a1] h (some (vI r)) h1 := by
  refine mm_enter (lv := [some (vR (some a0)), some (vI a1)]) (by decide) rfl (Nat.le_of_ble_eq_true rfl) ?_
  intro X hl C hE
  subst hl
  unfold fX12_broke at hf
  refine me_aload_n (q := 1) C dX12_broke_0 rfl rfl rfl ?_
  refine me_iload_n (q := 2) C dX12_broke_1 rfl rfl rfl ?_
  obtain ⟨k1, hf⟩ := mm_ck_some hf
  obtain ⟨v2, g3, e4, hf⟩ := mm_cl_some hf
  refine me_callV (q := 5) (c2 := 0) (s2 := 0) (st := []) C (cX12_isMan_ok _ e4) mt_X12_281 mv_X12_isMan rfl (by decide) dX12_broke_2 rfl k1 rfl rfl rfl (Nat.le_of_ble_eq_true rfl) rfl (Nat.le_of_ble_eq_true rfl) rfl (Nat.le_of_ble_eq_true rfl) rfl rfl ?_
  refine me_if_eq (q2 := 17) (q := 8) C dX12_broke_5 (by decide) rfl (fun c5 => ?_) (fun c5 => ?_)
  · have hf := mm_if_t c5 hf
    refine me_iconst (v := (-1 : Int32)) (q := 18) C dX12_broke_17 (by decide) rfl ?_
    exact me_iret C hE (Nat.le_of_ble_eq_true rfl) (Nat.le_of_ble_eq_true rfl) rfl dX12_broke_18 (mm_ri hf)
  · have hf := mm_if_f c5 hf
    refine me_aload_n (q := 9) C dX12_broke_8 rfl rfl rfl ?_
    obtain ⟨k6, hf⟩ := mm_ck_some hf
    refine me_getR (q := 12) C dX12_broke_9 mf_X12_22 rfl rfl k6 rfl ?_
    refine me_iload_n (q := 13) C dX12_broke_12 rfl rfl rfl ?_
    obtain ⟨u7, eu7, hf⟩ := mm_rf_some hf
    obtain ⟨k8, hf⟩ := mm_ck_some hf
    obtain ⟨k9, hf⟩ := mm_ck_some hf
    refine me_iald (q := 14) C dX12_broke_13 eu7 k8 k9 rfl ?_
    refine me_goto (q := 18) C dX12_broke_14 (by decide) ?_
    exact me_iret C hE (Nat.le_of_ble_eq_true rfl) (Nat.le_of_ble_eq_true rfl) rfl dX12_broke_18 (mm_ri hf)
set_option maxRecDepth 100000 in
set_option maxHeartbeats 4000000 in
theorem cX12_hand_ok (l : Launch) {a0 : Nat} {a1 : Int32} {a2 : Int32} {a3 : Int32} {a4 : Int32} {h : mm_H} {r : Int32} {h1 : mm_H} (hf : fX12_hand a0 a1 a2 a3 a4 h = some (r, h1)) : mm_M l yX12_hand cX12_hand 5 (some .boolean) 4 0 0 [vR (some a0), vI a1, vI a2, vI a3, vI a4] h (some (vI r)) h1 := by
  refine mm_enter (lv := [some (vR (some a0)), some (vI a1), some (vI a2), some (vI a3), some (vI a4)]) (by decide) rfl (Nat.le_of_ble_eq_true rfl) ?_
  intro X hl C hE
  subst hl
  unfold fX12_hand at hf
  refine me_iload_n (q := 1) C dX12_hand_0 rfl rfl rfl ?_
  refine me_iconst (v := (0 : Int32)) (q := 2) C dX12_hand_1 (by decide) rfl ?_
  refine me_aload_n (q := 3) C dX12_hand_2 rfl rfl rfl ?_
  obtain ⟨k1, hf⟩ := mm_ck_some hf
  refine me_getI (q := 6) C dX12_hand_3 mf_X12_571 rfl rfl k1 rfl ?_
  refine me_bipush (v := (8 : Int32)) (q := 8) C dX12_hand_6 (by decide) rfl ?_
  obtain ⟨q3, eq3, hf⟩ := mm_jn_some hf
  have Hq3 : ∀ (v2 : Int32), q3 v2 = some (r, h1) → mm_E X h 0 0 20 [some (vR (some a0)), some (vI a1), some (vI a2), some (vI a3), some (vI a4)] [vI v2, vI (0 : Int32), vI a1] := by
    intro v2 hf
    subst eq3
    obtain ⟨v4, g5, e6, hf⟩ := mm_cl_some hf
    refine me_callS (q := 23) (c2 := 0) (s2 := 0) (st := []) C (cX12_in_ok _ e6) mt_X12_269 ms_X12_in dX12_hand_20 rfl rfl rfl (Nat.le_of_ble_eq_true rfl) rfl (Nat.le_of_ble_eq_true rfl) rfl (Nat.le_of_ble_eq_true rfl) rfl rfl ?_
    refine me_if_eq (q2 := 59) (q := 26) C dX12_hand_23 (by decide) rfl (fun c7 => ?_) (fun c7 => ?_)
    · have hf := mm_if_t c7 hf
      refine me_iconst (v := (0 : Int32)) (q := 60) C dX12_hand_59 (by decide) rfl ?_
      exact me_zret C hE (Nat.le_of_ble_eq_true rfl) (Nat.le_of_ble_eq_true rfl) rfl (Or.inl rfl) dX12_hand_60 (mm_ri hf)
    · have hf := mm_if_f c7 hf
      refine me_iload_n (q := 27) C dX12_hand_26 rfl rfl rfl ?_
      refine me_iconst (v := (0 : Int32)) (q := 28) C dX12_hand_27 (by decide) rfl ?_
      refine me_sipush (v := (9999 : Int32)) (q := 31) C dX12_hand_28 (by decide) rfl ?_
      obtain ⟨v8, g9, e10, hf⟩ := mm_cl_some hf
      refine me_callS (q := 34) (c2 := 0) (s2 := 0) (st := []) C (cX12_in_ok _ e10) mt_X12_269 ms_X12_in dX12_hand_31 rfl rfl rfl (Nat.le_of_ble_eq_true rfl) rfl (Nat.le_of_ble_eq_true rfl) rfl (Nat.le_of_ble_eq_true rfl) rfl rfl ?_
      refine me_if_eq (q2 := 59) (q := 37) C dX12_hand_34 (by decide) rfl (fun c11 => ?_) (fun c11 => ?_)
      · have hf := mm_if_t c11 hf
        refine me_iconst (v := (0 : Int32)) (q := 60) C dX12_hand_59 (by decide) rfl ?_
        exact me_zret C hE (Nat.le_of_ble_eq_true rfl) (Nat.le_of_ble_eq_true rfl) rfl (Or.inl rfl) dX12_hand_60 (mm_ri hf)
      · have hf := mm_if_f c11 hf
        refine me_iload_n (q := 38) C dX12_hand_37 rfl rfl rfl ?_
        refine me_iconst (v := (0 : Int32)) (q := 39) C dX12_hand_38 (by decide) rfl ?_
        refine me_sipush (v := (9999 : Int32)) (q := 42) C dX12_hand_39 (by decide) rfl ?_
        obtain ⟨v12, g13, e14, hf⟩ := mm_cl_some hf
        refine me_callS (q := 45) (c2 := 0) (s2 := 0) (st := []) C (cX12_in_ok _ e14) mt_X12_269 ms_X12_in dX12_hand_42 rfl rfl rfl (Nat.le_of_ble_eq_true rfl) rfl (Nat.le_of_ble_eq_true rfl) rfl (Nat.le_of_ble_eq_true rfl) rfl rfl ?_
        refine me_if_eq (q2 := 59) (q := 48) C dX12_hand_45 (by decide) rfl (fun c15 => ?_) (fun c15 => ?_)
        · have hf := mm_if_t c15 hf
          refine me_iconst (v := (0 : Int32)) (q := 60) C dX12_hand_59 (by decide) rfl ?_
          exact me_zret C hE (Nat.le_of_ble_eq_true rfl) (Nat.le_of_ble_eq_true rfl) rfl (Or.inl rfl) dX12_hand_60 (mm_ri hf)
        · have hf := mm_if_f c15 hf
          refine me_iload (q := 50) C dX12_hand_48 rfl rfl ?_
          refine me_iconst (v := (1 : Int32)) (q := 51) C dX12_hand_50 (by decide) rfl ?_
          refine me_bipush (v := (8 : Int32)) (q := 53) C dX12_hand_51 (by decide) rfl ?_
          obtain ⟨v16, g17, e18, hf⟩ := mm_cl_some hf
          refine me_callS (q := 56) (c2 := 0) (s2 := 0) (st := []) C (cX12_in_ok _ e18) mt_X12_269 ms_X12_in dX12_hand_53 rfl rfl rfl (Nat.le_of_ble_eq_true rfl) rfl (Nat.le_of_ble_eq_true rfl) rfl (Nat.le_of_ble_eq_true rfl) rfl rfl ?_
          refine me_if_ne (q2 := 61) (q := 59) C dX12_hand_56 (by decide) rfl (fun c19 => ?_) (fun c19 => ?_)
          · have hf := mm_if_t c19 hf
            refine me_aload_n (q := 62) C dX12_hand_61 rfl rfl rfl ?_
            obtain ⟨k20, hf⟩ := mm_ck_some hf
            refine me_getR (q := 65) C dX12_hand_62 mf_X12_236 rfl rfl k20 rfl ?_
            refine me_iload_n (q := 66) C dX12_hand_65 rfl rfl rfl ?_
            refine me_iload_n (q := 67) C dX12_hand_66 rfl rfl rfl ?_
            obtain ⟨u21, eu21, hf⟩ := mm_rf_some hf
            obtain ⟨k22, hf⟩ := mm_ck_some hf
            obtain ⟨k23, hf⟩ := mm_ck_some hf
            obtain ⟨g24, eg24, hf⟩ := mm_lt_some hf
            refine me_iastH (q := 68) C eg24 dX12_hand_67 eu21 k22 k23 rfl ?_
            refine me_aload_n (q := 69) C dX12_hand_68 rfl rfl rfl ?_
            refine me_getR (q := 72) C dX12_hand_69 mf_X12_239 rfl rfl (mm_kI eg24 k20) rfl ?_
            refine me_iload_n (q := 73) C dX12_hand_72 rfl rfl rfl ?_
            refine me_iload_n (q := 74) C dX12_hand_73 rfl rfl rfl ?_
            obtain ⟨u25, eu25, hf⟩ := mm_rf_some hf
            obtain ⟨k26, hf⟩ := mm_ck_some hf
            obtain ⟨k27, hf⟩ := mm_ck_some hf
            obtain ⟨g28, eg28, hf⟩ := mm_lt_some hf
            refine me_iastH (q := 75) C eg28 dX12_hand_74 eu25 k26 k27 rfl ?_
            refine me_aload_n (q := 76) C dX12_hand_75 rfl rfl rfl ?_
            refine me_getR (q := 79) C dX12_hand_76 mf_X12_242 rfl rfl (mm_kI eg28 (mm_kI eg24 k20)) rfl ?_
            refine me_iload_n (q := 80) C dX12_hand_79 rfl rfl rfl ?_
            refine me_iload (q := 82) C dX12_hand_80 rfl rfl ?_
            obtain ⟨u29, eu29, hf⟩ := mm_rf_some hf
            obtain ⟨k30, hf⟩ := mm_ck_some hf
            obtain ⟨k31, hf⟩ := mm_ck_some hf
            obtain ⟨g32, eg32, hf⟩ := mm_lt_some hf
            refine me_iastH (q := 83) C eg32 dX12_hand_82 eu29 k30 k31 rfl ?_
            refine me_aload_n (q := 84) C dX12_hand_83 rfl rfl rfl ?_
            refine me_iload_n (q := 85) C dX12_hand_84 rfl rfl rfl ?_
            refine me_aload_n (q := 86) C dX12_hand_85 rfl rfl rfl ?_
            refine me_getI (q := 89) C dX12_hand_86 mf_X12_571 rfl rfl (mm_kI eg32 (mm_kI eg28 (mm_kI eg24 k20))) rfl ?_
            refine me_icmp_ne (q2 := 98) (q := 92) C dX12_hand_89 (by decide) rfl (fun c33 => ?_) (fun c33 => ?_)
            · have hf := mm_if_t c33 hf
              refine me_aload_n (q := 99) C dX12_hand_98 rfl rfl rfl ?_
              refine me_getI (q := 102) C dX12_hand_99 mf_X12_571 rfl rfl (mm_kI eg32 (mm_kI eg28 (mm_kI eg24 k20))) rfl ?_
              obtain ⟨g34, eg34, hf⟩ := mm_lt_some hf
              refine me_putI (q := 105) C eg34 dX12_hand_102 mf_X12_571 mp_X12_13_102 rfl (by decide) rfl (mm_kI eg32 (mm_kI eg28 (mm_kI eg24 k20))) rfl ?_
              refine me_iconst (v := (1 : Int32)) (q := 106) C dX12_hand_105 (by decide) rfl ?_
              exact me_zret C hE (Nat.le_of_ble_eq_true rfl) (Nat.le_of_ble_eq_true rfl) rfl (Or.inr rfl) dX12_hand_106 (mm_ri hf)
            · have hf := mm_if_f c33 hf
              refine me_iload_n (q := 93) C dX12_hand_92 rfl rfl rfl ?_
              refine me_iconst (v := (1 : Int32)) (q := 94) C dX12_hand_93 (by decide) rfl ?_
              refine me_iadd (q := 95) C dX12_hand_94 rfl ?_
              refine me_goto (q := 102) C dX12_hand_95 (by decide) ?_
              obtain ⟨g35, eg35, hf⟩ := mm_lt_some hf
              refine me_putI (q := 105) C eg35 dX12_hand_102 mf_X12_571 mp_X12_13_102 rfl (by decide) rfl (mm_kI eg32 (mm_kI eg28 (mm_kI eg24 k20))) rfl ?_
              refine me_iconst (v := (1 : Int32)) (q := 106) C dX12_hand_105 (by decide) rfl ?_
              exact me_zret C hE (Nat.le_of_ble_eq_true rfl) (Nat.le_of_ble_eq_true rfl) rfl (Or.inr rfl) dX12_hand_106 (mm_ri hf)
          · have hf := mm_if_f c19 hf
            refine me_iconst (v := (0 : Int32)) (q := 60) C dX12_hand_59 (by decide) rfl ?_
            exact me_zret C hE (Nat.le_of_ble_eq_true rfl) (Nat.le_of_ble_eq_true rfl) rfl (Or.inl rfl) dX12_hand_60 (mm_ri hf)
  refine me_icmp_ge (q2 := 18) (q := 11) C dX12_hand_8 (by decide) rfl (fun c36 => ?_) (fun c36 => ?_)
  · have hf := mm_if_t c36 hf
    refine me_bipush (v := (7 : Int32)) (q := 20) C dX12_hand_18 (by decide) rfl ?_
    exact Hq3 _ hf
  · have hf := mm_if_f c36 hf
    refine me_aload_n (q := 12) C dX12_hand_11 rfl rfl rfl ?_
    refine me_getI (q := 15) C dX12_hand_12 mf_X12_571 rfl rfl k1 rfl ?_
    refine me_goto (q := 20) C dX12_hand_15 (by decide) ?_
    exact Hq3 _ hf
set_option maxRecDepth 100000 in
set_option maxHeartbeats 4000000 in
theorem cX12_worth_ok (l : Launch) {a0 : Nat} {a1 : Int32} {a2 : Int32} {h : mm_H} {r : Int32} {h1 : mm_H} (hf : fX12_worth a0 a1 a2 h = some (r, h1)) : mm_M l yX12_worth cX12_worth 3 (some .int) 2 0 0 [vR (some a0), vI a1, vI a2] h (some (vI r)) h1 := by
  refine mm_enter (lv := [some (vR (some a0)), some (vI a1), some (vI a2)]) (by decide) rfl (Nat.le_of_ble_eq_true rfl) ?_
  intro X hl C hE
  subst hl
  unfold fX12_worth at hf
  refine me_aload_n (q := 1) C dX12_worth_0 rfl rfl rfl ?_
  obtain ⟨k1, hf⟩ := mm_ck_some hf
  refine me_getR (q := 4) C dX12_worth_1 mf_X12_236 rfl rfl k1 rfl ?_
  refine me_iload_n (q := 5) C dX12_worth_4 rfl rfl rfl ?_
  obtain ⟨u2, eu2, hf⟩ := mm_rf_some hf
  obtain ⟨k3, hf⟩ := mm_ck_some hf
  obtain ⟨k4, hf⟩ := mm_ck_some hf
  refine me_iald (q := 6) C dX12_worth_5 eu2 k3 k4 rfl ?_
  refine me_iload_n (q := 7) C dX12_worth_6 rfl rfl rfl ?_
  refine me_aload_n (q := 8) C dX12_worth_7 rfl rfl rfl ?_
  refine me_getR (q := 11) C dX12_worth_8 mf_X12_242 rfl rfl k1 rfl ?_
  refine me_iload_n (q := 12) C dX12_worth_11 rfl rfl rfl ?_
  obtain ⟨u5, eu5, hf⟩ := mm_rf_some hf
  obtain ⟨k6, hf⟩ := mm_ck_some hf
  obtain ⟨k7, hf⟩ := mm_ck_some hf
  refine me_iald (q := 13) C dX12_worth_12 eu5 k6 k7 rfl ?_
  refine me_icmp_ge (q2 := 25) (q := 16) C dX12_worth_13 (by decide) rfl (fun c8 => ?_) (fun c8 => ?_)
  · have hf := mm_if_t c8 hf
    refine me_iconst (v := (0 : Int32)) (q := 26) C dX12_worth_25 (by decide) rfl ?_
    refine me_isub (q := 27) C dX12_worth_26 rfl ?_
    exact me_iret C hE (Nat.le_of_ble_eq_true rfl) (Nat.le_of_ble_eq_true rfl) rfl dX12_worth_27 (mm_ri hf)
  · have hf := mm_if_f c8 hf
    refine me_aload_n (q := 17) C dX12_worth_16 rfl rfl rfl ?_
    refine me_getR (q := 20) C dX12_worth_17 mf_X12_239 rfl rfl k1 rfl ?_
    refine me_iload_n (q := 21) C dX12_worth_20 rfl rfl rfl ?_
    obtain ⟨u9, eu9, hf⟩ := mm_rf_some hf
    obtain ⟨k10, hf⟩ := mm_ck_some hf
    obtain ⟨k11, hf⟩ := mm_ck_some hf
    refine me_iald (q := 22) C dX12_worth_21 eu9 k10 k11 rfl ?_
    refine me_goto (q := 26) C dX12_worth_22 (by decide) ?_
    refine me_isub (q := 27) C dX12_worth_26 rfl ?_
    exact me_iret C hE (Nat.le_of_ble_eq_true rfl) (Nat.le_of_ble_eq_true rfl) rfl dX12_worth_27 (mm_ri hf)
set_option maxRecDepth 100000 in
set_option maxHeartbeats 4000000 in
theorem cX12_breakers_L39 {X : mm_X} (C : mm_C X cX12_breakers yX12_breakers 4 0 0) {r : Int32} {h1 : mm_H} (hE : mm_End X 0 0 (some .int) (some (vI r)) h1) {b0 : Nat} {b1 : Int32} {b2 : Int32} (K60 : Int32 → mm_H → Option (Int32 × mm_H)) : ∀ (n : Nat) (x3 : Int32) (x4 : Int32) (h : mm_H), fX12_breakers_L39 b0 b1 b2 K60 n x3 x4 h = some (r, h1) → (∀ (y3 : Int32) (h : mm_H), K60 y3 h = some (r, h1) → mm_E X h 0 0 60 [some (vR (some b0)), some (vI b1), some (vI b2), some (vI y3), none, none] []) → mm_E X h 0 0 39 [some (vR (some b0)), some (vI b1), some (vI b2), some (vI x3), some (vI x4), none] [] := by
  intro n
  induction n with
  | zero =>
    intro x3 x4 h hf
    exact absurd (show (none : Option (Int32 × mm_H)) = some (r, h1) from hf) (by simp)
  | succ n ih =>
    intro x3 x4 h hf hk60
    have hf : fX12_breakers_L39_b b0 b1 b2 K60 (fX12_breakers_L39 b0 b1 b2 K60 n) x3 x4 h = some (r, h1) := hf
    unfold fX12_breakers_L39_b at hf
    refine me_iload (q := 41) C dX12_breakers_39 rfl rfl ?_
    refine me_iload_n (q := 42) C dX12_breakers_41 rfl rfl rfl ?_
    refine me_icmp_ge (q2 := 60) (q := 45) C dX12_breakers_42 (by decide) rfl (fun c9 => ?_) (fun c9 => ?_)
    · have hf := mm_if_t c9 hf
      refine me_mask [true, true, true, true, false, false] (lv2 := [some (vR (some b0)), some (vI b1), some (vI b2), some (vI x3), none, none]) rfl ?_
      exact hk60 _ _ hf
    · have hf := mm_if_f c9 hf
      refine me_iload_n (q := 46) C dX12_breakers_45 rfl rfl rfl ?_
      refine me_iload_n (q := 47) C dX12_breakers_46 rfl rfl rfl ?_
      refine me_iload (q := 49) C dX12_breakers_47 rfl rfl ?_
      refine me_ishr (q := 50) C dX12_breakers_49 rfl ?_
      refine me_iconst (v := (1 : Int32)) (q := 51) C dX12_breakers_50 (by decide) rfl ?_
      refine me_iand (q := 52) C dX12_breakers_51 rfl ?_
      refine me_iadd (q := 53) C dX12_breakers_52 rfl ?_
      obtain ⟨v10, ev10, hf⟩ := mm_lt_some hf
      refine me_topI ev10 ?_
      refine me_istore_n (q := 54) (lv2 := [some (vR (some b0)), some (vI b1), some (vI b2), some (vI v10), some (vI x4), none]) C dX12_breakers_53 rfl (Nat.le_of_ble_eq_true rfl) rfl rfl rfl ?_
      obtain ⟨v11, ev11, hf⟩ := mm_lt_some hf
      refine me_iinc (q := 57) (v := v11) (lv2 := [some (vR (some b0)), some (vI b1), some (vI b2), some (vI v10), some (vI v11), none]) C dX12_breakers_54 rfl (by rw [ev11]; rfl) (Nat.le_of_ble_eq_true rfl) rfl rfl rfl ?_
      refine me_goto (q := 39) C dX12_breakers_57 (by decide) ?_
      exact ih _ _ _ hf hk60
set_option maxRecDepth 100000 in
set_option maxHeartbeats 4000000 in
theorem cX12_breakers_L66 {X : mm_X} (C : mm_C X cX12_breakers yX12_breakers 4 0 0) {r : Int32} {h1 : mm_H} (hE : mm_End X 0 0 (some .int) (some (vI r)) h1) {b0 : Nat} {b1 : Int32} {b2 : Int32} {b3 : Int32} (K125 : Int32 → mm_H → Option (Int32 × mm_H)) : ∀ (n : Nat) (x4 : Int32) (x5 : Int32) (h : mm_H), fX12_breakers_L66 b0 b1 b2 b3 K125 n x4 x5 h = some (r, h1) → (∀ (y4 : Int32) (h : mm_H), K125 y4 h = some (r, h1) → mm_E X h 0 0 125 [some (vR (some b0)), some (vI b1), some (vI b2), none, some (vI y4), none] []) → mm_E X h 0 0 66 [some (vR (some b0)), some (vI b1), some (vI b2), some (vI b3), some (vI x4), some (vI x5)] [] := by
  intro n
  induction n with
  | zero =>
    intro x4 x5 h hf
    exact absurd (show (none : Option (Int32 × mm_H)) = some (r, h1) from hf) (by simp)
  | succ n ih =>
    intro x4 x5 h hf hk125
    have hf : fX12_breakers_L66_b b0 b1 b2 b3 K125 (fX12_breakers_L66 b0 b1 b2 b3 K125 n) x4 x5 h = some (r, h1) := hf
    unfold fX12_breakers_L66_b at hf
    refine me_iload (q := 68) C dX12_breakers_66 rfl rfl ?_
    refine me_iload_n (q := 69) C dX12_breakers_68 rfl rfl rfl ?_
    refine me_icmp_ge (q2 := 125) (q := 72) C dX12_breakers_69 (by decide) rfl (fun c14 => ?_) (fun c14 => ?_)
    · have hf := mm_if_t c14 hf
      refine me_mask [true, true, true, false, true, false] (lv2 := [some (vR (some b0)), some (vI b1), some (vI b2), none, some (vI x4), none]) rfl ?_
      exact hk125 _ _ hf
    · have hf := mm_if_f c14 hf
      refine me_iload (q := 74) C dX12_breakers_72 rfl rfl ?_
      obtain ⟨q17, eq17, hf⟩ := mm_jn_some hf
      have Hq17 : ∀ (v15 : Int32) (g16 : mm_H), q17 v15 g16 = some (r, h1) → mm_E X g16 0 0 117 [some (vR (some b0)), some (vI b1), some (vI b2), some (vI b3), none, some (vI x5)] [vI v15] := by
        intro v15 g16 hf
        subst eq17
        refine me_istore (q := 119) (lv2 := [some (vR (some b0)), some (vI b1), some (vI b2), some (vI b3), some (vI v15), some (vI x5)]) C dX12_breakers_117 (Nat.le_of_ble_eq_true rfl) rfl rfl rfl ?_
        obtain ⟨v18, ev18, hf⟩ := mm_lt_some hf
        refine me_iinc (q := 122) (v := v18) (lv2 := [some (vR (some b0)), some (vI b1), some (vI b2), some (vI b3), some (vI v15), some (vI v18)]) C dX12_breakers_119 rfl (by rw [ev18]; rfl) (Nat.le_of_ble_eq_true rfl) rfl rfl rfl ?_
        refine me_goto (q := 66) C dX12_breakers_122 (by decide) ?_
        exact ih _ _ _ hf hk125
      obtain ⟨q20, eq20, hf⟩ := mm_jn_some hf
      have Hq20 : ∀ (g19 : mm_H), q20 g19 = some (r, h1) → mm_E X g19 0 0 116 [some (vR (some b0)), some (vI b1), some (vI b2), some (vI b3), none, some (vI x5)] [] := by
        intro g19 hf
        subst eq20
        refine me_iconst (v := (0 : Int32)) (q := 117) C dX12_breakers_116 (by decide) rfl ?_
        exact Hq17 _ _ hf
      refine me_if_eq (q2 := 116) (q := 77) C dX12_breakers_74 (by decide) rfl (fun c21 => ?_) (fun c21 => ?_)
      · have hf := mm_if_t c21 hf
        refine me_mask [true, true, true, true, false, true] (lv2 := [some (vR (some b0)), some (vI b1), some (vI b2), some (vI b3), none, some (vI x5)]) rfl ?_
        exact Hq20 _ hf
      · have hf := mm_if_f c21 hf
        refine me_iload_n (q := 78) C dX12_breakers_77 rfl rfl rfl ?_
        refine me_iload (q := 80) C dX12_breakers_78 rfl rfl ?_
        refine me_ishr (q := 81) C dX12_breakers_80 rfl ?_
        refine me_iconst (v := (1 : Int32)) (q := 82) C dX12_breakers_81 (by decide) rfl ?_
        refine me_iand (q := 83) C dX12_breakers_82 rfl ?_
        refine me_iconst (v := (1 : Int32)) (q := 84) C dX12_breakers_83 (by decide) rfl ?_
        obtain ⟨q23, eq23, hf⟩ := mm_jn_some hf
        have Hq23 : ∀ (g22 : mm_H), q23 g22 = some (r, h1) → mm_E X g22 0 0 112 [some (vR (some b0)), some (vI b1), some (vI b2), some (vI b3), none, some (vI x5)] [] := by
          intro g22 hf
          subst eq23
          refine me_iconst (v := (1 : Int32)) (q := 113) C dX12_breakers_112 (by decide) rfl ?_
          refine me_goto (q := 117) C dX12_breakers_113 (by decide) ?_
          exact Hq17 _ _ hf
        refine me_icmp_ne (q2 := 100) (q := 87) C dX12_breakers_84 (by decide) rfl (fun c24 => ?_) (fun c24 => ?_)
        · have hf := mm_if_t c24 hf
          refine me_aload_n (q := 101) C dX12_breakers_100 rfl rfl rfl ?_
          refine me_iload (q := 103) C dX12_breakers_101 rfl rfl ?_
          refine me_iload_n (q := 104) C dX12_breakers_103 rfl rfl rfl ?_
          refine me_iconst (v := (1 : Int32)) (q := 105) C dX12_breakers_104 (by decide) rfl ?_
          refine me_iadd (q := 106) C dX12_breakers_105 rfl ?_
          obtain ⟨k25, hf⟩ := mm_ck_some hf
          obtain ⟨v26, g27, e28, hf⟩ := mm_cl_some hf
          refine me_callV (q := 109) (c2 := 0) (s2 := 0) (st := []) C (cX12_worth_ok _ e28) mt_X12_577 mv_X12_worth rfl (by decide) dX12_breakers_106 rfl k25 rfl rfl rfl (Nat.le_of_ble_eq_true rfl) rfl (Nat.le_of_ble_eq_true rfl) rfl (Nat.le_of_ble_eq_true rfl) rfl rfl ?_
          refine me_if_gt (q2 := 116) (q := 112) C dX12_breakers_109 (by decide) rfl (fun c29 => ?_) (fun c29 => ?_)
          · have hf := mm_if_t c29 hf
            refine me_mask [true, true, true, true, false, true] (lv2 := [some (vR (some b0)), some (vI b1), some (vI b2), some (vI b3), none, some (vI x5)]) rfl ?_
            exact Hq20 _ hf
          · have hf := mm_if_f c29 hf
            refine me_mask [true, true, true, true, false, true] (lv2 := [some (vR (some b0)), some (vI b1), some (vI b2), some (vI b3), none, some (vI x5)]) rfl ?_
            exact Hq23 _ hf
        · have hf := mm_if_f c24 hf
          refine me_aload_n (q := 88) C dX12_breakers_87 rfl rfl rfl ?_
          refine me_iload (q := 90) C dX12_breakers_88 rfl rfl ?_
          refine me_iload_n (q := 91) C dX12_breakers_90 rfl rfl rfl ?_
          obtain ⟨k30, hf⟩ := mm_ck_some hf
          obtain ⟨v31, g32, e33, hf⟩ := mm_cl_some hf
          refine me_callV (q := 94) (c2 := 0) (s2 := 0) (st := []) C (cX12_worth_ok _ e33) mt_X12_577 mv_X12_worth rfl (by decide) dX12_breakers_91 rfl k30 rfl rfl rfl (Nat.le_of_ble_eq_true rfl) rfl (Nat.le_of_ble_eq_true rfl) rfl (Nat.le_of_ble_eq_true rfl) rfl rfl ?_
          refine me_if_lt (q2 := 116) (q := 97) C dX12_breakers_94 (by decide) rfl (fun c34 => ?_) (fun c34 => ?_)
          · have hf := mm_if_t c34 hf
            refine me_mask [true, true, true, true, false, true] (lv2 := [some (vR (some b0)), some (vI b1), some (vI b2), some (vI b3), none, some (vI x5)]) rfl ?_
            exact Hq20 _ hf
          · have hf := mm_if_f c34 hf
            refine me_goto (q := 112) C dX12_breakers_97 (by decide) ?_
            refine me_mask [true, true, true, true, false, true] (lv2 := [some (vR (some b0)), some (vI b1), some (vI b2), some (vI b3), none, some (vI x5)]) rfl ?_
            exact Hq23 _ hf
set_option maxRecDepth 100000 in
set_option maxHeartbeats 4000000 in
theorem cX12_breakers_L27 {X : mm_X} (C : mm_C X cX12_breakers yX12_breakers 4 0 0) {r : Int32} {h1 : mm_H} (hE : mm_End X 0 0 (some .int) (some (vI r)) h1) {b0 : Nat} {b1 : Int32} (K156 : mm_H → Option (Int32 × mm_H)) : ∀ (n : Nat) (x2 : Int32) (h : mm_H), fX12_breakers_L27 b0 b1 K156 n x2 h = some (r, h1) → (∀ (h : mm_H), K156 h = some (r, h1) → mm_E X h 0 0 156 [some (vR (some b0)), none, none, none, none, none] []) → mm_E X h 0 0 27 [some (vR (some b0)), some (vI b1), some (vI x2), none, none, none] [] := by
  intro n
  induction n with
  | zero =>
    intro x2 h hf
    exact absurd (show (none : Option (Int32 × mm_H)) = some (r, h1) from hf) (by simp)
  | succ n ih =>
    intro x2 h hf hk156
    have hf : fX12_breakers_L27_b b0 b1 K156 (fX12_breakers_L27 b0 b1 K156 n) x2 h = some (r, h1) := hf
    unfold fX12_breakers_L27_b at hf
    refine me_iload_n (q := 28) C dX12_breakers_27 rfl rfl rfl ?_
    refine me_iconst (v := (1 : Int32)) (q := 29) C dX12_breakers_28 (by decide) rfl ?_
    refine me_iload_n (q := 30) C dX12_breakers_29 rfl rfl rfl ?_
    refine me_ishl (q := 31) C dX12_breakers_30 rfl ?_
    refine me_icmp_ge (q2 := 156) (q := 34) C dX12_breakers_31 (by decide) rfl (fun c8 => ?_) (fun c8 => ?_)
    · have hf := mm_if_t c8 hf
      refine me_mask [true, false, false, false, false, false] (lv2 := [some (vR (some b0)), none, none, none, none, none]) rfl ?_
      exact hk156 _ hf
    · have hf := mm_if_f c8 hf
      refine me_iconst (v := (0 : Int32)) (q := 35) C dX12_breakers_34 (by decide) rfl ?_
      refine me_istore_n (q := 36) (lv2 := [some (vR (some b0)), some (vI b1), some (vI x2), some (vI (0 : Int32)), none, none]) C dX12_breakers_35 rfl (Nat.le_of_ble_eq_true rfl) rfl rfl rfl ?_
      refine me_iconst (v := (0 : Int32)) (q := 37) C dX12_breakers_36 (by decide) rfl ?_
      refine me_istore (q := 39) (lv2 := [some (vR (some b0)), some (vI b1), some (vI x2), some (vI (0 : Int32)), some (vI (0 : Int32)), none]) C dX12_breakers_37 (Nat.le_of_ble_eq_true rfl) rfl rfl rfl ?_
      refine cX12_breakers_L39 C hE _ _ _ _ _ hf ?_
      · intro z12 g13 hf
        refine me_iconst (v := (1 : Int32)) (q := 61) C dX12_breakers_60 (by decide) rfl ?_
        refine me_istore (q := 63) (lv2 := [some (vR (some b0)), some (vI b1), some (vI x2), some (vI z12), some (vI (1 : Int32)), none]) C dX12_breakers_61 (Nat.le_of_ble_eq_true rfl) rfl rfl rfl ?_
        refine me_iconst (v := (0 : Int32)) (q := 64) C dX12_breakers_63 (by decide) rfl ?_
        refine me_istore (q := 66) (lv2 := [some (vR (some b0)), some (vI b1), some (vI x2), some (vI z12), some (vI (1 : Int32)), some (vI (0 : Int32))]) C dX12_breakers_64 (Nat.le_of_ble_eq_true rfl) rfl rfl rfl ?_
        refine cX12_breakers_L66 C hE _ _ _ _ _ hf ?_
        · intro z35 g36 hf
          refine me_iload (q := 127) C dX12_breakers_125 rfl rfl ?_
          obtain ⟨q38, eq38, hf⟩ := mm_jn_some hf
          have Hq38 : ∀ (g37 : mm_H), q38 g37 = some (r, h1) → mm_E X g37 0 0 150 [some (vR (some b0)), some (vI b1), some (vI x2), none, none, none] [] := by
            intro g37 hf
            subst eq38
            obtain ⟨v39, ev39, hf⟩ := mm_lt_some hf
            refine me_iinc (q := 153) (v := v39) (lv2 := [some (vR (some b0)), some (vI b1), some (vI v39), none, none, none]) C dX12_breakers_150 rfl (by rw [ev39]; rfl) (Nat.le_of_ble_eq_true rfl) rfl rfl rfl ?_
            refine me_goto (q := 27) C dX12_breakers_153 (by decide) ?_
            exact ih _ _ hf hk156
          refine me_if_eq (q2 := 150) (q := 130) C dX12_breakers_127 (by decide) rfl (fun c40 => ?_) (fun c40 => ?_)
          · have hf := mm_if_t c40 hf
            refine me_mask [true, true, true, false, false, false] (lv2 := [some (vR (some b0)), some (vI b1), some (vI x2), none, none, none]) rfl ?_
            exact Hq38 _ hf
          · have hf := mm_if_f c40 hf
            refine me_aload_n (q := 131) C dX12_breakers_130 rfl rfl rfl ?_
            obtain ⟨k41, hf⟩ := mm_ck_some hf
            refine me_getR (q := 134) C dX12_breakers_131 mf_X12_245 rfl rfl k41 rfl ?_
            refine me_aload_n (q := 135) C dX12_breakers_134 rfl rfl rfl ?_
            refine me_getI (q := 138) C dX12_breakers_135 mf_X12_574 rfl rfl k41 rfl ?_
            refine me_iload_n (q := 139) C dX12_breakers_138 rfl rfl rfl ?_
            obtain ⟨u42, eu42, hf⟩ := mm_rf_some hf
            obtain ⟨k43, hf⟩ := mm_ck_some hf
            obtain ⟨k44, hf⟩ := mm_ck_some hf
            obtain ⟨g45, eg45, hf⟩ := mm_lt_some hf
            refine me_iastH (q := 140) C eg45 dX12_breakers_139 eu42 k43 k44 rfl ?_
            refine me_aload_n (q := 141) C dX12_breakers_140 rfl rfl rfl ?_
            refine me_dup (q := 142) C dX12_breakers_141 rfl rfl ?_
            refine me_getI (q := 145) C dX12_breakers_142 mf_X12_574 rfl rfl (mm_kI eg45 k41) rfl ?_
            refine me_iconst (v := (1 : Int32)) (q := 146) C dX12_breakers_145 (by decide) rfl ?_
            refine me_iadd (q := 147) C dX12_breakers_146 rfl ?_
            obtain ⟨g46, eg46, hf⟩ := mm_lt_some hf
            refine me_putI (q := 150) C eg46 dX12_breakers_147 mf_X12_574 mp_X12_13_103 rfl (by decide) rfl (mm_kI eg45 k41) rfl ?_
            refine me_mask [true, true, true, false, false, false] (lv2 := [some (vR (some b0)), some (vI b1), some (vI x2), none, none, none]) rfl ?_
            exact Hq38 _ hf
set_option maxRecDepth 100000 in
set_option maxHeartbeats 4000000 in
theorem cX12_breakers_ok (l : Launch) {a0 : Nat} {a1 : Int32} {h : mm_H} {r : Int32} {h1 : mm_H} (hf : fX12_breakers a0 a1 h = some (r, h1)) : mm_M l yX12_breakers cX12_breakers 6 (some .int) 4 0 0 [vR (some a0), vI a1] h (some (vI r)) h1 := by
  refine mm_enter (lv := [some (vR (some a0)), some (vI a1), none, none, none, none]) (by decide) rfl (Nat.le_of_ble_eq_true rfl) ?_
  intro X hl C hE
  subst hl
  unfold fX12_breakers at hf
  refine me_iload_n (q := 1) C dX12_breakers_0 rfl rfl rfl ?_
  refine me_iconst (v := (1 : Int32)) (q := 2) C dX12_breakers_1 (by decide) rfl ?_
  refine me_bipush (v := (8 : Int32)) (q := 4) C dX12_breakers_2 (by decide) rfl ?_
  obtain ⟨v1, g2, e3, hf⟩ := mm_cl_some hf
  refine me_callS (q := 7) (c2 := 0) (s2 := 0) (st := []) C (cX12_in_ok _ e3) mt_X12_269 ms_X12_in dX12_breakers_4 rfl rfl rfl (Nat.le_of_ble_eq_true rfl) rfl (Nat.le_of_ble_eq_true rfl) rfl (Nat.le_of_ble_eq_true rfl) rfl rfl ?_
  refine me_if_eq (q2 := 18) (q := 10) C dX12_breakers_7 (by decide) rfl (fun c4 => ?_) (fun c4 => ?_)
  · have hf := mm_if_t c4 hf
    refine me_iconst (v := (-1 : Int32)) (q := 19) C dX12_breakers_18 (by decide) rfl ?_
    exact me_iret C hE (Nat.le_of_ble_eq_true rfl) (Nat.le_of_ble_eq_true rfl) rfl dX12_breakers_19 (mm_ri hf)
  · have hf := mm_if_f c4 hf
    refine me_iload_n (q := 11) C dX12_breakers_10 rfl rfl rfl ?_
    refine me_aload_n (q := 12) C dX12_breakers_11 rfl rfl rfl ?_
    obtain ⟨k5, hf⟩ := mm_ck_some hf
    refine me_getI (q := 15) C dX12_breakers_12 mf_X12_571 rfl rfl k5 rfl ?_
    refine me_icmp_le (q2 := 20) (q := 18) C dX12_breakers_15 (by decide) rfl (fun c6 => ?_) (fun c6 => ?_)
    · have hf := mm_if_t c6 hf
      refine me_aload_n (q := 21) C dX12_breakers_20 rfl rfl rfl ?_
      refine me_iconst (v := (0 : Int32)) (q := 22) C dX12_breakers_21 (by decide) rfl ?_
      obtain ⟨g7, eg7, hf⟩ := mm_lt_some hf
      refine me_putI (q := 25) C eg7 dX12_breakers_22 mf_X12_574 mp_X12_13_103 rfl (by decide) rfl k5 rfl ?_
      refine me_iconst (v := (0 : Int32)) (q := 26) C dX12_breakers_25 (by decide) rfl ?_
      refine me_istore_n (q := 27) (lv2 := [some (vR (some a0)), some (vI a1), some (vI (0 : Int32)), none, none, none]) C dX12_breakers_26 rfl (Nat.le_of_ble_eq_true rfl) rfl rfl rfl ?_
      refine cX12_breakers_L27 C hE _ _ _ _ hf ?_
      · intro g47 hf
        refine me_aload_n (q := 157) C dX12_breakers_156 rfl rfl rfl ?_
        obtain ⟨k48, hf⟩ := mm_ck_some hf
        refine me_getI (q := 160) C dX12_breakers_157 mf_X12_574 rfl rfl k48 rfl ?_
        exact me_iret C hE (Nat.le_of_ble_eq_true rfl) (Nat.le_of_ble_eq_true rfl) rfl dX12_breakers_160 (mm_ri hf)
    · have hf := mm_if_f c6 hf
      refine me_iconst (v := (-1 : Int32)) (q := 19) C dX12_breakers_18 (by decide) rfl ?_
      exact me_iret C hE (Nat.le_of_ble_eq_true rfl) (Nat.le_of_ble_eq_true rfl) rfl dX12_breakers_19 (mm_ri hf)
set_option maxRecDepth 100000 in
set_option maxHeartbeats 4000000 in
theorem cX12_holds__ok (l : Launch) {a0 : Nat} {a1 : Int32} {h : mm_H} {r : Int32} {h1 : mm_H} (hf : fX12_holds_ a0 a1 h = some (r, h1)) : mm_M l yX12_holds_ cX12_holds_ 2 (some .int) 4 0 0 [vR (some a0), vI a1] h (some (vI r)) h1 := by
  refine mm_enter (lv := [some (vR (some a0)), some (vI a1)]) (by decide) rfl (Nat.le_of_ble_eq_true rfl) ?_
  intro X hl C hE
  subst hl
  unfold fX12_holds_ at hf
  refine me_iload_n (q := 1) C dX12_holds__0 rfl rfl rfl ?_
  refine me_iconst (v := (0 : Int32)) (q := 2) C dX12_holds__1 (by decide) rfl ?_
  refine me_aload_n (q := 3) C dX12_holds__2 rfl rfl rfl ?_
  obtain ⟨k1, hf⟩ := mm_ck_some hf
  refine me_getI (q := 6) C dX12_holds__3 mf_X12_574 rfl rfl k1 rfl ?_
  refine me_iconst (v := (1 : Int32)) (q := 7) C dX12_holds__6 (by decide) rfl ?_
  refine me_isub (q := 8) C dX12_holds__7 rfl ?_
  obtain ⟨v2, g3, e4, hf⟩ := mm_cl_some hf
  refine me_callS (q := 11) (c2 := 0) (s2 := 0) (st := []) C (cX12_in_ok _ e4) mt_X12_269 ms_X12_in dX12_holds__8 rfl rfl rfl (Nat.le_of_ble_eq_true rfl) rfl (Nat.le_of_ble_eq_true rfl) rfl (Nat.le_of_ble_eq_true rfl) rfl rfl ?_
  refine me_if_eq (q2 := 23) (q := 14) C dX12_holds__11 (by decide) rfl (fun c5 => ?_) (fun c5 => ?_)
  · have hf := mm_if_t c5 hf
    refine me_iconst (v := (-1 : Int32)) (q := 24) C dX12_holds__23 (by decide) rfl ?_
    exact me_iret C hE (Nat.le_of_ble_eq_true rfl) (Nat.le_of_ble_eq_true rfl) rfl dX12_holds__24 (mm_ri hf)
  · have hf := mm_if_f c5 hf
    refine me_aload_n (q := 15) C dX12_holds__14 rfl rfl rfl ?_
    obtain ⟨k6, hf⟩ := mm_ck_some hf
    refine me_getR (q := 18) C dX12_holds__15 mf_X12_245 rfl rfl k6 rfl ?_
    refine me_iload_n (q := 19) C dX12_holds__18 rfl rfl rfl ?_
    obtain ⟨u7, eu7, hf⟩ := mm_rf_some hf
    obtain ⟨k8, hf⟩ := mm_ck_some hf
    obtain ⟨k9, hf⟩ := mm_ck_some hf
    refine me_iald (q := 20) C dX12_holds__19 eu7 k8 k9 rfl ?_
    refine me_goto (q := 24) C dX12_holds__20 (by decide) ?_
    exact me_iret C hE (Nat.le_of_ble_eq_true rfl) (Nat.le_of_ble_eq_true rfl) rfl dX12_holds__24 (mm_ri hf)
set_option maxRecDepth 100000 in
set_option maxHeartbeats 4000000 in
theorem cX12_entry_ok (l : Launch) {a0 : Nat} {a1 : Int32} {a2 : Int32} {a3 : Int32} {a4 : Int32} {h : mm_H} {r : Int32} {h1 : mm_H} (hf : fX12_entry a0 a1 a2 a3 a4 h = some (r, h1)) : mm_M l yX12_entry cX12_entry 6 (some .int) 6 0 0 [vR (some a0), vI a1, vI a2, vI a3, vI a4] h (some (vI r)) h1 := by
  refine mm_enter (lv := [some (vR (some a0)), some (vI a1), some (vI a2), some (vI a3), some (vI a4), none]) (by decide) rfl (Nat.le_of_ble_eq_true rfl) ?_
  intro X hl C hE
  subst hl
  unfold fX12_entry at hf
  refine me_iload_n (q := 1) C dX12_entry_0 rfl rfl rfl ?_
  refine me_iconst (v := (0 : Int32)) (q := 2) C dX12_entry_1 (by decide) rfl ?_
  refine me_iconst (v := (1 : Int32)) (q := 3) C dX12_entry_2 (by decide) rfl ?_
  obtain ⟨v1, g2, e3, hf⟩ := mm_cl_some hf
  refine me_callS (q := 6) (c2 := 0) (s2 := 0) (st := []) C (cX12_in_ok _ e3) mt_X12_269 ms_X12_in dX12_entry_3 rfl rfl rfl (Nat.le_of_ble_eq_true rfl) rfl (Nat.le_of_ble_eq_true rfl) rfl (Nat.le_of_ble_eq_true rfl) rfl rfl ?_
  refine me_if_eq (q2 := 47) (q := 9) C dX12_entry_6 (by decide) rfl (fun c4 => ?_) (fun c4 => ?_)
  · have hf := mm_if_t c4 hf
    refine me_iconst (v := (-1 : Int32)) (q := 48) C dX12_entry_47 (by decide) rfl ?_
    exact me_iret C hE (Nat.le_of_ble_eq_true rfl) (Nat.le_of_ble_eq_true rfl) rfl dX12_entry_48 (mm_ri hf)
  · have hf := mm_if_f c4 hf
    refine me_aload_n (q := 10) C dX12_entry_9 rfl rfl rfl ?_
    obtain ⟨k5, hf⟩ := mm_ck_some hf
    refine me_getR (q := 13) C dX12_entry_10 mf_X12_248 rfl rfl k5 rfl ?_
    refine me_iload_n (q := 14) C dX12_entry_13 rfl rfl rfl ?_
    obtain ⟨u6, eu6, hf⟩ := mm_rf_some hf
    obtain ⟨k7, hf⟩ := mm_ck_some hf
    obtain ⟨k8, hf⟩ := mm_ck_some hf
    refine me_iald (q := 15) C dX12_entry_14 eu6 k7 k8 rfl ?_
    refine me_bipush (v := (10 : Int32)) (q := 17) C dX12_entry_15 (by decide) rfl ?_
    refine me_icmp_eq (q2 := 47) (q := 20) C dX12_entry_17 (by decide) rfl (fun c9 => ?_) (fun c9 => ?_)
    · have hf := mm_if_t c9 hf
      refine me_iconst (v := (-1 : Int32)) (q := 48) C dX12_entry_47 (by decide) rfl ?_
      exact me_iret C hE (Nat.le_of_ble_eq_true rfl) (Nat.le_of_ble_eq_true rfl) rfl dX12_entry_48 (mm_ri hf)
    · have hf := mm_if_f c9 hf
      refine me_iload_n (q := 21) C dX12_entry_20 rfl rfl rfl ?_
      obtain ⟨v10, g11, e12, hf⟩ := mm_cl_some hf
      refine me_callS (q := 24) (c2 := 0) (s2 := 0) (st := []) C (cX12_isDay_ok _ e12) mt_X12_451 ms_X12_isDay dX12_entry_21 rfl rfl rfl (Nat.le_of_ble_eq_true rfl) rfl (Nat.le_of_ble_eq_true rfl) rfl (Nat.le_of_ble_eq_true rfl) rfl rfl ?_
      refine me_if_eq (q2 := 47) (q := 27) C dX12_entry_24 (by decide) rfl (fun c13 => ?_) (fun c13 => ?_)
      · have hf := mm_if_t c13 hf
        refine me_iconst (v := (-1 : Int32)) (q := 48) C dX12_entry_47 (by decide) rfl ?_
        exact me_iret C hE (Nat.le_of_ble_eq_true rfl) (Nat.le_of_ble_eq_true rfl) rfl dX12_entry_48 (mm_ri hf)
      · have hf := mm_if_f c13 hf
        refine me_aload_n (q := 28) C dX12_entry_27 rfl rfl rfl ?_
        refine me_iload_n (q := 29) C dX12_entry_28 rfl rfl rfl ?_
        obtain ⟨k14, hf⟩ := mm_ck_some hf
        obtain ⟨v15, g16, e17, hf⟩ := mm_cl_some hf
        refine me_callV (q := 32) (c2 := 0) (s2 := 0) (st := []) C (cX12_isMan_ok _ e17) mt_X12_281 mv_X12_isMan rfl (by decide) dX12_entry_29 rfl k14 rfl rfl rfl (Nat.le_of_ble_eq_true rfl) rfl (Nat.le_of_ble_eq_true rfl) rfl (Nat.le_of_ble_eq_true rfl) rfl rfl ?_
        refine me_if_eq (q2 := 47) (q := 35) C dX12_entry_32 (by decide) rfl (fun c18 => ?_) (fun c18 => ?_)
        · have hf := mm_if_t c18 hf
          refine me_iconst (v := (-1 : Int32)) (q := 48) C dX12_entry_47 (by decide) rfl ?_
          exact me_iret C hE (Nat.le_of_ble_eq_true rfl) (Nat.le_of_ble_eq_true rfl) rfl dX12_entry_48 (mm_ri hf)
        · have hf := mm_if_f c18 hf
          refine me_iload (q := 37) C dX12_entry_35 rfl rfl ?_
          refine me_iconst (v := (0 : Int32)) (q := 38) C dX12_entry_37 (by decide) rfl ?_
          refine me_ldc_w (v := (1000000 : Int32)) (q := 41) C dX12_entry_38 mc_X12_279 rfl ?_
          obtain ⟨v19, g20, e21, hf⟩ := mm_cl_some hf
          refine me_callS (q := 44) (c2 := 0) (s2 := 0) (st := []) C (cX12_in_ok _ e21) mt_X12_269 ms_X12_in dX12_entry_41 rfl rfl rfl (Nat.le_of_ble_eq_true rfl) rfl (Nat.le_of_ble_eq_true rfl) rfl (Nat.le_of_ble_eq_true rfl) rfl rfl ?_
          refine me_if_ne (q2 := 49) (q := 47) C dX12_entry_44 (by decide) rfl (fun c22 => ?_) (fun c22 => ?_)
          · have hf := mm_if_t c22 hf
            refine me_bipush (v := (10 : Int32)) (q := 51) C dX12_entry_49 (by decide) rfl ?_
            refine me_iload_n (q := 52) C dX12_entry_51 rfl rfl rfl ?_
            refine me_imul (q := 53) C dX12_entry_52 rfl ?_
            refine me_aload_n (q := 54) C dX12_entry_53 rfl rfl rfl ?_
            obtain ⟨k23, hf⟩ := mm_ck_some hf
            refine me_getR (q := 57) C dX12_entry_54 mf_X12_248 rfl rfl k23 rfl ?_
            refine me_iload_n (q := 58) C dX12_entry_57 rfl rfl rfl ?_
            obtain ⟨u24, eu24, hf⟩ := mm_rf_some hf
            obtain ⟨k25, hf⟩ := mm_ck_some hf
            obtain ⟨k26, hf⟩ := mm_ck_some hf
            refine me_iald (q := 59) C dX12_entry_58 eu24 k25 k26 rfl ?_
            refine me_iadd (q := 60) C dX12_entry_59 rfl ?_
            obtain ⟨v27, ev27, hf⟩ := mm_lt_some hf
            refine me_topI ev27 ?_
            refine me_istore (q := 62) (lv2 := [some (vR (some a0)), some (vI a1), some (vI a2), some (vI a3), some (vI a4), some (vI v27)]) C dX12_entry_60 (Nat.le_of_ble_eq_true rfl) rfl rfl rfl ?_
            refine me_aload_n (q := 63) C dX12_entry_62 rfl rfl rfl ?_
            refine me_getR (q := 66) C dX12_entry_63 mf_X12_251 rfl rfl k23 rfl ?_
            refine me_iload (q := 68) C dX12_entry_66 rfl rfl ?_
            refine me_iload_n (q := 69) C dX12_entry_68 rfl rfl rfl ?_
            obtain ⟨u28, eu28, hf⟩ := mm_rf_some hf
            obtain ⟨k29, hf⟩ := mm_ck_some hf
            obtain ⟨k30, hf⟩ := mm_ck_some hf
            obtain ⟨g31, eg31, hf⟩ := mm_lt_some hf
            refine me_iastH (q := 70) C eg31 dX12_entry_69 eu28 k29 k30 rfl ?_
            refine me_aload_n (q := 71) C dX12_entry_70 rfl rfl rfl ?_
            refine me_getR (q := 74) C dX12_entry_71 mf_X12_254 rfl rfl (mm_kI eg31 k23) rfl ?_
            refine me_iload (q := 76) C dX12_entry_74 rfl rfl ?_
            refine me_iload_n (q := 77) C dX12_entry_76 rfl rfl rfl ?_
            obtain ⟨u32, eu32, hf⟩ := mm_rf_some hf
            obtain ⟨k33, hf⟩ := mm_ck_some hf
            obtain ⟨k34, hf⟩ := mm_ck_some hf
            obtain ⟨g35, eg35, hf⟩ := mm_lt_some hf
            refine me_iastH (q := 78) C eg35 dX12_entry_77 eu32 k33 k34 rfl ?_
            refine me_aload_n (q := 79) C dX12_entry_78 rfl rfl rfl ?_
            refine me_getR (q := 82) C dX12_entry_79 mf_X12_257 rfl rfl (mm_kI eg35 (mm_kI eg31 k23)) rfl ?_
            refine me_iload (q := 84) C dX12_entry_82 rfl rfl ?_
            refine me_iload (q := 86) C dX12_entry_84 rfl rfl ?_
            obtain ⟨u36, eu36, hf⟩ := mm_rf_some hf
            obtain ⟨k37, hf⟩ := mm_ck_some hf
            obtain ⟨k38, hf⟩ := mm_ck_some hf
            obtain ⟨g39, eg39, hf⟩ := mm_lt_some hf
            refine me_iastH (q := 87) C eg39 dX12_entry_86 eu36 k37 k38 rfl ?_
            refine me_aload_n (q := 88) C dX12_entry_87 rfl rfl rfl ?_
            refine me_getR (q := 91) C dX12_entry_88 mf_X12_248 rfl rfl (mm_kI eg39 (mm_kI eg35 (mm_kI eg31 k23))) rfl ?_
            refine me_iload_n (q := 92) C dX12_entry_91 rfl rfl rfl ?_
            refine me_dup2_11 (q := 93) C dX12_entry_92 rfl rfl rfl ?_
            obtain ⟨u40, eu40, hf⟩ := mm_rf_some hf
            obtain ⟨k41, hf⟩ := mm_ck_some hf
            obtain ⟨k42, hf⟩ := mm_ck_some hf
            refine me_iald (q := 94) C dX12_entry_93 eu40 k41 k42 rfl ?_
            refine me_iconst (v := (1 : Int32)) (q := 95) C dX12_entry_94 (by decide) rfl ?_
            refine me_iadd (q := 96) C dX12_entry_95 rfl ?_
            obtain ⟨k43, hf⟩ := mm_ck_some hf
            obtain ⟨g44, eg44, hf⟩ := mm_lt_some hf
            refine me_iastH (q := 97) C eg44 dX12_entry_96 eu40 k41 k43 rfl ?_
            refine me_aload_n (q := 98) C dX12_entry_97 rfl rfl rfl ?_
            refine me_iconst (v := (0 : Int32)) (q := 99) C dX12_entry_98 (by decide) rfl ?_
            obtain ⟨g45, eg45, hf⟩ := mm_lt_some hf
            refine me_putZ (q := 102) C (Or.inl rfl) eg45 dX12_entry_99 mf_X12_579 mp_X12_13_108 rfl (by decide) rfl (mm_kI eg44 (mm_kI eg39 (mm_kI eg35 (mm_kI eg31 k23)))) rfl ?_
            refine me_aload_n (q := 103) C dX12_entry_102 rfl rfl rfl ?_
            refine me_getR (q := 106) C dX12_entry_103 mf_X12_248 rfl rfl (mm_kI eg45 (mm_kI eg44 (mm_kI eg39 (mm_kI eg35 (mm_kI eg31 k23))))) rfl ?_
            refine me_iload_n (q := 107) C dX12_entry_106 rfl rfl rfl ?_
            obtain ⟨u46, eu46, hf⟩ := mm_rf_some hf
            obtain ⟨k47, hf⟩ := mm_ck_some hf
            obtain ⟨k48, hf⟩ := mm_ck_some hf
            refine me_iald (q := 108) C dX12_entry_107 eu46 k47 k48 rfl ?_
            refine me_iconst (v := (1 : Int32)) (q := 109) C dX12_entry_108 (by decide) rfl ?_
            refine me_isub (q := 110) C dX12_entry_109 rfl ?_
            exact me_iret C hE (Nat.le_of_ble_eq_true rfl) (Nat.le_of_ble_eq_true rfl) rfl dX12_entry_110 (mm_ri hf)
          · have hf := mm_if_f c22 hf
            refine me_iconst (v := (-1 : Int32)) (q := 48) C dX12_entry_47 (by decide) rfl ?_
            exact me_iret C hE (Nat.le_of_ble_eq_true rfl) (Nat.le_of_ble_eq_true rfl) rfl dX12_entry_48 (mm_ri hf)
set_option maxRecDepth 100000 in
set_option maxHeartbeats 4000000 in
theorem cX12_clear_ok (l : Launch) {a0 : Nat} {h : mm_H} {r : Int32} {h1 : mm_H} (hf : fX12_clear a0 h = some (r, h1)) : mm_M l yX12_clear cX12_clear 2 (some .int) 2 0 0 [vR (some a0)] h (some (vI r)) h1 := by
  refine mm_enter (lv := [some (vR (some a0)), none]) (by decide) rfl (Nat.le_of_ble_eq_true rfl) ?_
  intro X hl C hE
  subst hl
  unfold fX12_clear at hf
  refine me_aload_n (q := 1) C dX12_clear_0 rfl rfl rfl ?_
  obtain ⟨k1, hf⟩ := mm_ck_some hf
  refine me_getR (q := 4) C dX12_clear_1 mf_X12_248 rfl rfl k1 rfl ?_
  refine me_iconst (v := (0 : Int32)) (q := 5) C dX12_clear_4 (by decide) rfl ?_
  obtain ⟨u2, eu2, hf⟩ := mm_rf_some hf
  obtain ⟨k3, hf⟩ := mm_ck_some hf
  obtain ⟨k4, hf⟩ := mm_ck_some hf
  refine me_iald (q := 6) C dX12_clear_5 eu2 k3 k4 rfl ?_
  refine me_aload_n (q := 7) C dX12_clear_6 rfl rfl rfl ?_
  refine me_getR (q := 10) C dX12_clear_7 mf_X12_248 rfl rfl k1 rfl ?_
  refine me_iconst (v := (1 : Int32)) (q := 11) C dX12_clear_10 (by decide) rfl ?_
  obtain ⟨k5, hf⟩ := mm_ck_some hf
  refine me_iald (q := 12) C dX12_clear_11 eu2 k3 k5 rfl ?_
  refine me_iadd (q := 13) C dX12_clear_12 rfl ?_
  obtain ⟨v6, ev6, hf⟩ := mm_lt_some hf
  refine me_topI ev6 ?_
  refine me_istore_n (q := 14) (lv2 := [some (vR (some a0)), some (vI v6)]) C dX12_clear_13 rfl (Nat.le_of_ble_eq_true rfl) rfl rfl rfl ?_
  refine me_aload_n (q := 15) C dX12_clear_14 rfl rfl rfl ?_
  refine me_getR (q := 18) C dX12_clear_15 mf_X12_248 rfl rfl k1 rfl ?_
  refine me_iconst (v := (0 : Int32)) (q := 19) C dX12_clear_18 (by decide) rfl ?_
  refine me_iconst (v := (0 : Int32)) (q := 20) C dX12_clear_19 (by decide) rfl ?_
  obtain ⟨k7, hf⟩ := mm_ck_some hf
  obtain ⟨g8, eg8, hf⟩ := mm_lt_some hf
  refine me_iastH (q := 21) C eg8 dX12_clear_20 eu2 k3 k7 rfl ?_
  refine me_aload_n (q := 22) C dX12_clear_21 rfl rfl rfl ?_
  refine me_getR (q := 25) C dX12_clear_22 mf_X12_248 rfl rfl (mm_kI eg8 k1) rfl ?_
  refine me_iconst (v := (1 : Int32)) (q := 26) C dX12_clear_25 (by decide) rfl ?_
  refine me_iconst (v := (0 : Int32)) (q := 27) C dX12_clear_26 (by decide) rfl ?_
  obtain ⟨u9, eu9, hf⟩ := mm_rf_some hf
  obtain ⟨k10, hf⟩ := mm_ck_some hf
  obtain ⟨k11, hf⟩ := mm_ck_some hf
  obtain ⟨g12, eg12, hf⟩ := mm_lt_some hf
  refine me_iastH (q := 28) C eg12 dX12_clear_27 eu9 k10 k11 rfl ?_
  refine me_aload_n (q := 29) C dX12_clear_28 rfl rfl rfl ?_
  refine me_aload_n (q := 30) C dX12_clear_29 rfl rfl rfl ?_
  refine me_getI (q := 33) C dX12_clear_30 mf_X12_579 rfl rfl (mm_kI eg12 (mm_kI eg8 k1)) rfl ?_
  refine me_if_eq (q2 := 44) (q := 36) C dX12_clear_33 (by decide) rfl (fun c13 => ?_) (fun c13 => ?_)
  · have hf := mm_if_t c13 hf
    refine me_iconst (v := (0 : Int32)) (q := 45) C dX12_clear_44 (by decide) rfl ?_
    obtain ⟨g14, eg14, hf⟩ := mm_lt_some hf
    refine me_putZ (q := 48) C (Or.inl rfl) eg14 dX12_clear_45 mf_X12_579 mp_X12_13_108 rfl (by decide) rfl (mm_kI eg12 (mm_kI eg8 k1)) rfl ?_
    refine me_iload_n (q := 49) C dX12_clear_48 rfl rfl rfl ?_
    exact me_iret C hE (Nat.le_of_ble_eq_true rfl) (Nat.le_of_ble_eq_true rfl) rfl dX12_clear_49 (mm_ri hf)
  · have hf := mm_if_f c13 hf
    refine me_iload_n (q := 37) C dX12_clear_36 rfl rfl rfl ?_
    refine me_if_ne (q2 := 44) (q := 40) C dX12_clear_37 (by decide) rfl (fun c15 => ?_) (fun c15 => ?_)
    · have hf := mm_if_t c15 hf
      refine me_iconst (v := (0 : Int32)) (q := 45) C dX12_clear_44 (by decide) rfl ?_
      obtain ⟨g16, eg16, hf⟩ := mm_lt_some hf
      refine me_putZ (q := 48) C (Or.inl rfl) eg16 dX12_clear_45 mf_X12_579 mp_X12_13_108 rfl (by decide) rfl (mm_kI eg12 (mm_kI eg8 k1)) rfl ?_
      refine me_iload_n (q := 49) C dX12_clear_48 rfl rfl rfl ?_
      exact me_iret C hE (Nat.le_of_ble_eq_true rfl) (Nat.le_of_ble_eq_true rfl) rfl dX12_clear_49 (mm_ri hf)
    · have hf := mm_if_f c15 hf
      refine me_iconst (v := (1 : Int32)) (q := 41) C dX12_clear_40 (by decide) rfl ?_
      refine me_goto (q := 45) C dX12_clear_41 (by decide) ?_
      obtain ⟨g17, eg17, hf⟩ := mm_lt_some hf
      refine me_putZ (q := 48) C (Or.inr rfl) eg17 dX12_clear_45 mf_X12_579 mp_X12_13_108 rfl (by decide) rfl (mm_kI eg12 (mm_kI eg8 k1)) rfl ?_
      refine me_iload_n (q := 49) C dX12_clear_48 rfl rfl rfl ?_
      exact me_iret C hE (Nat.le_of_ble_eq_true rfl) (Nat.le_of_ble_eq_true rfl) rfl dX12_clear_49 (mm_ri hf)
set_option maxRecDepth 100000 in
set_option maxHeartbeats 4000000 in
theorem cX12_off_ok (l : Launch) {a0 : Int32} {a1 : Int32} {h : mm_H} {r : Int32} {h1 : mm_H} (hf : fX12_off a0 a1 h = some (r, h1)) : mm_M l yX12_off cX12_off 2 (some .int) 2 0 0 [vI a0, vI a1] h (some (vI r)) h1 := by
  refine mm_enter (lv := [some (vI a0), some (vI a1)]) (by decide) rfl (Nat.le_of_ble_eq_true rfl) ?_
  intro X hl C hE
  subst hl
  unfold fX12_off at hf
  refine me_iload_n (q := 1) C dX12_off_0 rfl rfl rfl ?_
  refine me_iload_n (q := 2) C dX12_off_1 rfl rfl rfl ?_
  refine me_icmp_le (q2 := 11) (q := 5) C dX12_off_2 (by decide) rfl (fun c1 => ?_) (fun c1 => ?_)
  · have hf := mm_if_t c1 hf
    refine me_iload_n (q := 12) C dX12_off_11 rfl rfl rfl ?_
    refine me_iload_n (q := 13) C dX12_off_12 rfl rfl rfl ?_
    refine me_isub (q := 14) C dX12_off_13 rfl ?_
    exact me_iret C hE (Nat.le_of_ble_eq_true rfl) (Nat.le_of_ble_eq_true rfl) rfl dX12_off_14 (mm_ri hf)
  · have hf := mm_if_f c1 hf
    refine me_iload_n (q := 6) C dX12_off_5 rfl rfl rfl ?_
    refine me_iload_n (q := 7) C dX12_off_6 rfl rfl rfl ?_
    refine me_isub (q := 8) C dX12_off_7 rfl ?_
    refine me_goto (q := 14) C dX12_off_8 (by decide) ?_
    exact me_iret C hE (Nat.le_of_ble_eq_true rfl) (Nat.le_of_ble_eq_true rfl) rfl dX12_off_14 (mm_ri hf)
set_option maxRecDepth 100000 in
set_option maxHeartbeats 4000000 in
theorem cX12_pairs_ok (l : Launch) {a0 : Nat} {a1 : Int32} {a2 : Int32} {a3 : Int32} {a4 : Int32} {h : mm_H} {r : Int64} {h1 : mm_H} (hf : fX12_pairs a0 a1 a2 a3 a4 h = some (r, h1)) : mm_M l yX12_pairs cX12_pairs 7 (some .long) 4 0 0 [vR (some a0), vI a1, vI a2, vI a3, vI a4] h (some (vJ r)) h1 := by
  refine mm_enter (lv := [some (vR (some a0)), some (vI a1), some (vI a2), some (vI a3), some (vI a4), none, none]) (by decide) rfl (Nat.le_of_ble_eq_true rfl) ?_
  intro X hl C hE
  subst hl
  unfold fX12_pairs at hf
  refine me_aload_n (q := 1) C dX12_pairs_0 rfl rfl rfl ?_
  obtain ⟨k1, hf⟩ := mm_ck_some hf
  refine me_getR (q := 4) C dX12_pairs_1 mf_X12_257 rfl rfl k1 rfl ?_
  refine me_iload_n (q := 5) C dX12_pairs_4 rfl rfl rfl ?_
  obtain ⟨u2, eu2, hf⟩ := mm_rf_some hf
  obtain ⟨k3, hf⟩ := mm_ck_some hf
  obtain ⟨k4, hf⟩ := mm_ck_some hf
  refine me_iald (q := 6) C dX12_pairs_5 eu2 k3 k4 rfl ?_
  refine me_aload_n (q := 7) C dX12_pairs_6 rfl rfl rfl ?_
  refine me_getR (q := 10) C dX12_pairs_7 mf_X12_257 rfl rfl k1 rfl ?_
  refine me_bipush (v := (10 : Int32)) (q := 12) C dX12_pairs_10 (by decide) rfl ?_
  refine me_iload_n (q := 13) C dX12_pairs_12 rfl rfl rfl ?_
  refine me_iadd (q := 14) C dX12_pairs_13 rfl ?_
  obtain ⟨k5, hf⟩ := mm_ck_some hf
  refine me_iald (q := 15) C dX12_pairs_14 eu2 k3 k5 rfl ?_
  obtain ⟨v6, g7, e8, hf⟩ := mm_cl_some hf
  refine me_callS (q := 18) (c2 := 0) (s2 := 0) (st := []) C (cX12_off_ok _ e8) mt_X12_582 ms_X12_off dX12_pairs_15 rfl rfl rfl (Nat.le_of_ble_eq_true rfl) rfl (Nat.le_of_ble_eq_true rfl) rfl (Nat.le_of_ble_eq_true rfl) rfl rfl ?_
  refine me_istore (q := 20) (lv2 := [some (vR (some a0)), some (vI a1), some (vI a2), some (vI a3), some (vI a4), some (vI v6), none]) C dX12_pairs_18 (Nat.le_of_ble_eq_true rfl) rfl rfl rfl ?_
  refine me_aload_n (q := 21) C dX12_pairs_20 rfl rfl rfl ?_
  obtain ⟨k9, hf⟩ := mm_ck_some hf
  refine me_getR (q := 24) C dX12_pairs_21 mf_X12_251 rfl rfl k9 rfl ?_
  refine me_iload_n (q := 25) C dX12_pairs_24 rfl rfl rfl ?_
  obtain ⟨u10, eu10, hf⟩ := mm_rf_some hf
  obtain ⟨k11, hf⟩ := mm_ck_some hf
  obtain ⟨k12, hf⟩ := mm_ck_some hf
  refine me_iald (q := 26) C dX12_pairs_25 eu10 k11 k12 rfl ?_
  refine me_aload_n (q := 27) C dX12_pairs_26 rfl rfl rfl ?_
  refine me_getR (q := 30) C dX12_pairs_27 mf_X12_251 rfl rfl k9 rfl ?_
  refine me_bipush (v := (10 : Int32)) (q := 32) C dX12_pairs_30 (by decide) rfl ?_
  refine me_iload_n (q := 33) C dX12_pairs_32 rfl rfl rfl ?_
  refine me_iadd (q := 34) C dX12_pairs_33 rfl ?_
  obtain ⟨k13, hf⟩ := mm_ck_some hf
  refine me_iald (q := 35) C dX12_pairs_34 eu10 k11 k13 rfl ?_
  obtain ⟨v14, g15, e16, hf⟩ := mm_cl_some hf
  refine me_callS (q := 38) (c2 := 0) (s2 := 0) (st := []) C (cX12_off_ok _ e16) mt_X12_582 ms_X12_off dX12_pairs_35 rfl rfl rfl (Nat.le_of_ble_eq_true rfl) rfl (Nat.le_of_ble_eq_true rfl) rfl (Nat.le_of_ble_eq_true rfl) rfl rfl ?_
  refine me_istore (q := 40) (lv2 := [some (vR (some a0)), some (vI a1), some (vI a2), some (vI a3), some (vI a4), some (vI v6), some (vI v14)]) C dX12_pairs_38 (Nat.le_of_ble_eq_true rfl) rfl rfl rfl ?_
  refine me_aload_n (q := 41) C dX12_pairs_40 rfl rfl rfl ?_
  obtain ⟨k17, hf⟩ := mm_ck_some hf
  refine me_getR (q := 44) C dX12_pairs_41 mf_X12_254 rfl rfl k17 rfl ?_
  refine me_iload_n (q := 45) C dX12_pairs_44 rfl rfl rfl ?_
  obtain ⟨u18, eu18, hf⟩ := mm_rf_some hf
  obtain ⟨k19, hf⟩ := mm_ck_some hf
  obtain ⟨k20, hf⟩ := mm_ck_some hf
  refine me_iald (q := 46) C dX12_pairs_45 eu18 k19 k20 rfl ?_
  refine me_aload_n (q := 47) C dX12_pairs_46 rfl rfl rfl ?_
  refine me_getR (q := 50) C dX12_pairs_47 mf_X12_254 rfl rfl k17 rfl ?_
  refine me_bipush (v := (10 : Int32)) (q := 52) C dX12_pairs_50 (by decide) rfl ?_
  refine me_iload_n (q := 53) C dX12_pairs_52 rfl rfl rfl ?_
  refine me_iadd (q := 54) C dX12_pairs_53 rfl ?_
  obtain ⟨k21, hf⟩ := mm_ck_some hf
  refine me_iald (q := 55) C dX12_pairs_54 eu18 k19 k21 rfl ?_
  refine me_icmp_ne (q2 := 71) (q := 58) C dX12_pairs_55 (by decide) rfl (fun c22 => ?_) (fun c22 => ?_)
  · have hf := mm_if_t c22 hf
    refine me_lconst (v := (0 : Int64)) (q := 72) C dX12_pairs_71 (by decide) rfl ?_
    refine me_goto (q := 90) C dX12_pairs_72 (by decide) ?_
    exact me_lret C hE (Nat.le_of_ble_eq_true rfl) (Nat.le_of_ble_eq_true rfl) rfl dX12_pairs_90 (mm_rj hf)
  · have hf := mm_if_f c22 hf
    refine me_iload (q := 60) C dX12_pairs_58 rfl rfl ?_
    refine me_iload_n (q := 61) C dX12_pairs_60 rfl rfl rfl ?_
    refine me_icmp_gt (q2 := 71) (q := 64) C dX12_pairs_61 (by decide) rfl (fun c23 => ?_) (fun c23 => ?_)
    · have hf := mm_if_t c23 hf
      refine me_lconst (v := (0 : Int64)) (q := 72) C dX12_pairs_71 (by decide) rfl ?_
      refine me_goto (q := 90) C dX12_pairs_72 (by decide) ?_
      exact me_lret C hE (Nat.le_of_ble_eq_true rfl) (Nat.le_of_ble_eq_true rfl) rfl dX12_pairs_90 (mm_rj hf)
    · have hf := mm_if_f c23 hf
      refine me_iload (q := 66) C dX12_pairs_64 rfl rfl ?_
      refine me_iload (q := 68) C dX12_pairs_66 rfl rfl ?_
      refine me_icmp_le (q2 := 75) (q := 71) C dX12_pairs_68 (by decide) rfl (fun c24 => ?_) (fun c24 => ?_)
      · have hf := mm_if_t c24 hf
        refine me_ldc2_w (v := (10000000000 : Int64)) (q := 78) C dX12_pairs_75 mc_X12_585 rfl ?_
        refine me_ldc2_w (v := (100000 : Int64)) (q := 81) C dX12_pairs_78 mc_X12_587 rfl ?_
        refine me_iload (q := 83) C dX12_pairs_81 rfl rfl ?_
        refine me_i2l (q := 84) C dX12_pairs_83 rfl ?_
        refine me_lmul (q := 85) C dX12_pairs_84 rfl ?_
        refine me_lsub (q := 86) C dX12_pairs_85 rfl ?_
        refine me_iload (q := 88) C dX12_pairs_86 rfl rfl ?_
        refine me_i2l (q := 89) C dX12_pairs_88 rfl ?_
        refine me_lsub (q := 90) C dX12_pairs_89 rfl ?_
        exact me_lret C hE (Nat.le_of_ble_eq_true rfl) (Nat.le_of_ble_eq_true rfl) rfl dX12_pairs_90 (mm_rj hf)
      · have hf := mm_if_f c24 hf
        refine me_lconst (v := (0 : Int64)) (q := 72) C dX12_pairs_71 (by decide) rfl ?_
        refine me_goto (q := 90) C dX12_pairs_72 (by decide) ?_
        exact me_lret C hE (Nat.le_of_ble_eq_true rfl) (Nat.le_of_ble_eq_true rfl) rfl dX12_pairs_90 (mm_rj hf)
set_option maxRecDepth 100000 in
set_option maxHeartbeats 4000000 in
theorem cX12_join_L42 {X : mm_X} (C : mm_C X cX12_join yX12_join 6 0 0) {r : Int32} {h1 : mm_H} (hE : mm_End X 0 0 (some .int) (some (vI r)) h1) {b0 : Nat} {b1 : Int32} {b2 : Int32} {b3 : Int32} {b4 : Int32} (K70 : mm_H → Option (Int32 × mm_H)) : ∀ (n : Nat) (x5 : Int32) (h : mm_H), fX12_join_L42 b0 b1 b2 b3 b4 K70 n x5 h = some (r, h1) → (∀ (h : mm_H), K70 h = some (r, h1) → mm_E X h 0 0 70 [some (vR (some b0)), some (vI b1), some (vI b2), some (vI b3), some (vI b4), none, none, none, none, none, none, none, none, none] []) → mm_E X h 0 0 42 [some (vR (some b0)), some (vI b1), some (vI b2), some (vI b3), some (vI b4), some (vI x5), none, none, none, none, none, none, none, none] [] := by
  intro n
  induction n with
  | zero =>
    intro x5 h hf
    exact absurd (show (none : Option (Int32 × mm_H)) = some (r, h1) from hf) (by simp)
  | succ n ih =>
    intro x5 h hf hk70
    have hf : fX12_join_L42_b b0 b1 b2 b3 b4 K70 (fX12_join_L42 b0 b1 b2 b3 b4 K70 n) x5 h = some (r, h1) := hf
    unfold fX12_join_L42_b at hf
    refine me_iload (q := 44) C dX12_join_42 rfl rfl ?_
    refine me_iconst (v := (1 : Int32)) (q := 45) C dX12_join_44 (by decide) rfl ?_
    refine me_iload (q := 47) C dX12_join_45 rfl rfl ?_
    refine me_ishl (q := 48) C dX12_join_47 rfl ?_
    refine me_icmp_ge (q2 := 70) (q := 51) C dX12_join_48 (by decide) rfl (fun c16 => ?_) (fun c16 => ?_)
    · have hf := mm_if_t c16 hf
      refine me_mask [true, true, true, true, true, false, false, false, false, false, false, false, false, false] (lv2 := [some (vR (some b0)), some (vI b1), some (vI b2), some (vI b3), some (vI b4), none, none, none, none, none, none, none, none, none]) rfl ?_
      exact hk70 _ hf
    · have hf := mm_if_f c16 hf
      refine me_aload_n (q := 52) C dX12_join_51 rfl rfl rfl ?_
      obtain ⟨k17, hf⟩ := mm_ck_some hf
      refine me_getR (q := 55) C dX12_join_52 mf_X12_263 rfl rfl k17 rfl ?_
      refine me_iload_n (q := 56) C dX12_join_55 rfl rfl rfl ?_
      refine me_bipush (v := (10 : Int32)) (q := 58) C dX12_join_56 (by decide) rfl ?_
      refine me_ishl (q := 59) C dX12_join_58 rfl ?_
      refine me_iload (q := 61) C dX12_join_59 rfl rfl ?_
      refine me_iadd (q := 62) C dX12_join_61 rfl ?_
      refine me_lconst (v := (0 : Int64)) (q := 63) C dX12_join_62 (by decide) rfl ?_
      obtain ⟨u18, eu18, hf⟩ := mm_rf_some hf
      obtain ⟨k19, hf⟩ := mm_ck_some hf
      obtain ⟨k20, hf⟩ := mm_ck_some hf
      obtain ⟨g21, eg21, hf⟩ := mm_lt_some hf
      refine me_lastH (q := 64) C eg21 dX12_join_63 eu18 k19 k20 rfl ?_
      obtain ⟨v22, ev22, hf⟩ := mm_lt_some hf
      refine me_iinc (q := 67) (v := v22) (lv2 := [some (vR (some b0)), some (vI b1), some (vI b2), some (vI b3), some (vI b4), some (vI v22), none, none, none, none, none, none, none, none]) C dX12_join_64 rfl (by rw [ev22]; rfl) (Nat.le_of_ble_eq_true rfl) rfl rfl rfl ?_
      refine me_goto (q := 42) C dX12_join_67 (by decide) ?_
      exact ih _ _ hf hk70
set_option maxRecDepth 100000 in
set_option maxHeartbeats 4000000 in
theorem cX12_join_L112 {X : mm_X} (C : mm_C X cX12_join yX12_join 6 0 0) {r : Int32} {h1 : mm_H} (hE : mm_End X 0 0 (some .int) (some (vI r)) h1) {b0 : Nat} {b1 : Int32} {b2 : Int32} {b3 : Int32} {b4 : Int32} {b5 : Int32} {b6 : Int32} (K205 : Int64 → mm_H → Option (Int32 × mm_H)) : ∀ (n : Nat) (x7 : Int64) (x9 : Int32) (h : mm_H), fX12_join_L112 b0 b1 b2 b3 b4 b5 b6 K205 n x7 x9 h = some (r, h1) → (∀ (y7 : Int64) (h : mm_H), K205 y7 h = some (r, h1) → mm_E X h 0 0 205 [some (vR (some b0)), some (vI b1), some (vI b2), some (vI b3), some (vI b4), some (vI b5), some (vI b6), some (vJ y7), none, none, none, none, none, none] []) → mm_E X h 0 0 112 [some (vR (some b0)), some (vI b1), some (vI b2), some (vI b3), some (vI b4), some (vI b5), some (vI b6), some (vJ x7), none, some (vI x9), none, none, none, none] [] := by
  intro n
  induction n with
  | zero =>
    intro x7 x9 h hf
    exact absurd (show (none : Option (Int32 × mm_H)) = some (r, h1) from hf) (by simp)
  | succ n ih =>
    intro x7 x9 h hf hk205
    have hf : fX12_join_L112_b b0 b1 b2 b3 b4 b5 b6 K205 (fX12_join_L112 b0 b1 b2 b3 b4 b5 b6 K205 n) x7 x9 h = some (r, h1) := hf
    unfold fX12_join_L112_b at hf
    refine me_iload (q := 114) C dX12_join_112 rfl rfl ?_
    refine me_iload (q := 116) C dX12_join_114 rfl rfl ?_
    refine me_icmp_ge (q2 := 205) (q := 119) C dX12_join_116 (by decide) rfl (fun c32 => ?_) (fun c32 => ?_)
    · have hf := mm_if_t c32 hf
      refine me_mask [true, true, true, true, true, true, true, true, false, false, false, false, false, false] (lv2 := [some (vR (some b0)), some (vI b1), some (vI b2), some (vI b3), some (vI b4), some (vI b5), some (vI b6), some (vJ x7), none, none, none, none, none, none]) rfl ?_
      exact hk205 _ _ hf
    · have hf := mm_if_f c32 hf
      refine me_iload (q := 121) C dX12_join_119 rfl rfl ?_
      refine me_iload (q := 123) C dX12_join_121 rfl rfl ?_
      refine me_ishr (q := 124) C dX12_join_123 rfl ?_
      refine me_iconst (v := (1 : Int32)) (q := 125) C dX12_join_124 (by decide) rfl ?_
      refine me_iand (q := 126) C dX12_join_125 rfl ?_
      refine me_iconst (v := (1 : Int32)) (q := 127) C dX12_join_126 (by decide) rfl ?_
      obtain ⟨q35, eq35, hf⟩ := mm_jn_some hf
      have Hq35 : ∀ (v33 : Int64) (g34 : mm_H), q35 v33 g34 = some (r, h1) → mm_E X g34 0 0 144 [some (vR (some b0)), some (vI b1), some (vI b2), some (vI b3), some (vI b4), some (vI b5), some (vI b6), some (vJ x7), none, some (vI x9), none, none, none, none] [vJ v33] := by
        intro v33 g34 hf
        subst eq35
        refine me_lstore (q := 146) (lv2 := [some (vR (some b0)), some (vI b1), some (vI b2), some (vI b3), some (vI b4), some (vI b5), some (vI b6), some (vJ x7), none, some (vI x9), some (vJ v33), none, none, none]) C dX12_join_144 (Nat.le_of_ble_eq_true rfl) rfl rfl rfl ?_
        refine me_lload (q := 148) C dX12_join_146 rfl rfl ?_
        refine me_lconst (v := (0 : Int64)) (q := 149) C dX12_join_148 (by decide) rfl ?_
        refine me_lcmp (q := 150) C dX12_join_149 rfl ?_
        obtain ⟨q37, eq37, hf⟩ := mm_jn_some hf
        have Hq37 : ∀ (v36 : Int64), q37 v36 = some (r, h1) → mm_E X g34 0 0 180 [some (vR (some b0)), some (vI b1), some (vI b2), some (vI b3), some (vI b4), some (vI b5), some (vI b6), some (vJ x7), none, some (vI x9), none, none, none, none] [vJ v36] := by
          intro v36 hf
          subst eq37
          refine me_lstore (q := 182) (lv2 := [some (vR (some b0)), some (vI b1), some (vI b2), some (vI b3), some (vI b4), some (vI b5), some (vI b6), some (vJ x7), none, some (vI x9), none, none, some (vJ v36), none]) C dX12_join_180 (Nat.le_of_ble_eq_true rfl) rfl rfl rfl ?_
          refine me_lload (q := 184) C dX12_join_182 rfl rfl ?_
          refine me_lload (q := 186) C dX12_join_184 rfl rfl ?_
          refine me_lcmp (q := 187) C dX12_join_186 rfl ?_
          obtain ⟨q39, eq39, hf⟩ := mm_jn_some hf
          have Hq39 : ∀ (v38 : Int64), q39 v38 = some (r, h1) → mm_E X g34 0 0 197 [some (vR (some b0)), some (vI b1), some (vI b2), some (vI b3), some (vI b4), some (vI b5), some (vI b6), none, none, some (vI x9), none, none, none, none] [vJ v38] := by
            intro v38 hf
            subst eq39
            refine me_lstore (q := 199) (lv2 := [some (vR (some b0)), some (vI b1), some (vI b2), some (vI b3), some (vI b4), some (vI b5), some (vI b6), some (vJ v38), none, some (vI x9), none, none, none, none]) C dX12_join_197 (Nat.le_of_ble_eq_true rfl) rfl rfl rfl ?_
            obtain ⟨v40, ev40, hf⟩ := mm_lt_some hf
            refine me_iinc (q := 202) (v := v40) (lv2 := [some (vR (some b0)), some (vI b1), some (vI b2), some (vI b3), some (vI b4), some (vI b5), some (vI b6), some (vJ v38), none, some (vI v40), none, none, none, none]) C dX12_join_199 rfl (by rw [ev40]; rfl) (Nat.le_of_ble_eq_true rfl) rfl rfl rfl ?_
            refine me_goto (q := 112) C dX12_join_202 (by decide) ?_
            exact ih _ _ _ hf hk205
          refine me_if_le (q2 := 195) (q := 190) C dX12_join_187 (by decide) rfl (fun c41 => ?_) (fun c41 => ?_)
          · have hf := mm_if_t c41 hf
            refine me_lload (q := 197) C dX12_join_195 rfl rfl ?_
            refine me_mask [true, true, true, true, true, true, true, false, false, true, false, false, false, false] (lv2 := [some (vR (some b0)), some (vI b1), some (vI b2), some (vI b3), some (vI b4), some (vI b5), some (vI b6), none, none, some (vI x9), none, none, none, none]) rfl ?_
            exact Hq39 _ hf
          · have hf := mm_if_f c41 hf
            refine me_lload (q := 192) C dX12_join_190 rfl rfl ?_
            refine me_goto (q := 197) C dX12_join_192 (by decide) ?_
            refine me_mask [true, true, true, true, true, true, true, false, false, true, false, false, false, false] (lv2 := [some (vR (some b0)), some (vI b1), some (vI b2), some (vI b3), some (vI b4), some (vI b5), some (vI b6), none, none, some (vI x9), none, none, none, none]) rfl ?_
            exact Hq39 _ hf
        refine me_if_ne (q2 := 157) (q := 153) C dX12_join_150 (by decide) rfl (fun c42 => ?_) (fun c42 => ?_)
        · have hf := mm_if_t c42 hf
          refine me_lload (q := 159) C dX12_join_157 rfl rfl ?_
          refine me_aload_n (q := 160) C dX12_join_159 rfl rfl rfl ?_
          obtain ⟨k43, hf⟩ := mm_ck_some hf
          refine me_getR (q := 163) C dX12_join_160 mf_X12_263 rfl rfl k43 rfl ?_
          refine me_iload (q := 165) C dX12_join_163 rfl rfl ?_
          refine me_iconst (v := (1 : Int32)) (q := 166) C dX12_join_165 (by decide) rfl ?_
          refine me_iadd (q := 167) C dX12_join_166 rfl ?_
          refine me_bipush (v := (10 : Int32)) (q := 169) C dX12_join_167 (by decide) rfl ?_
          refine me_ishl (q := 170) C dX12_join_169 rfl ?_
          refine me_iload (q := 172) C dX12_join_170 rfl rfl ?_
          refine me_iconst (v := (1 : Int32)) (q := 173) C dX12_join_172 (by decide) rfl ?_
          refine me_iload (q := 175) C dX12_join_173 rfl rfl ?_
          refine me_ishl (q := 176) C dX12_join_175 rfl ?_
          refine me_ior (q := 177) C dX12_join_176 rfl ?_
          refine me_iadd (q := 178) C dX12_join_177 rfl ?_
          obtain ⟨u44, eu44, hf⟩ := mm_rf_some hf
          obtain ⟨k45, hf⟩ := mm_ck_some hf
          obtain ⟨k46, hf⟩ := mm_ck_some hf
          refine me_lald (q := 179) C dX12_join_178 eu44 k45 k46 rfl ?_
          refine me_ladd (q := 180) C dX12_join_179 rfl ?_
          refine me_mask [true, true, true, true, true, true, true, true, false, true, false, false, false, false] (lv2 := [some (vR (some b0)), some (vI b1), some (vI b2), some (vI b3), some (vI b4), some (vI b5), some (vI b6), some (vJ x7), none, some (vI x9), none, none, none, none]) rfl ?_
          exact Hq37 _ hf
        · have hf := mm_if_f c42 hf
          refine me_lconst (v := (0 : Int64)) (q := 154) C dX12_join_153 (by decide) rfl ?_
          refine me_goto (q := 180) C dX12_join_154 (by decide) ?_
          refine me_mask [true, true, true, true, true, true, true, true, false, true, false, false, false, false] (lv2 := [some (vR (some b0)), some (vI b1), some (vI b2), some (vI b3), some (vI b4), some (vI b5), some (vI b6), some (vJ x7), none, some (vI x9), none, none, none, none]) rfl ?_
          exact Hq37 _ hf
      refine me_icmp_ne (q2 := 134) (q := 130) C dX12_join_127 (by decide) rfl (fun c47 => ?_) (fun c47 => ?_)
      · have hf := mm_if_t c47 hf
        refine me_aload_n (q := 135) C dX12_join_134 rfl rfl rfl ?_
        refine me_iload (q := 137) C dX12_join_135 rfl rfl ?_
        refine me_iload (q := 139) C dX12_join_137 rfl rfl ?_
        refine me_iload_n (q := 140) C dX12_join_139 rfl rfl rfl ?_
        refine me_iload_n (q := 141) C dX12_join_140 rfl rfl rfl ?_
        obtain ⟨k48, hf⟩ := mm_ck_some hf
        obtain ⟨v49, g50, e51, hf⟩ := mm_cl_some hf
        refine me_callV (q := 144) (c2 := 0) (s2 := 0) (st := []) C (cX12_pairs_ok _ e51) mt_X12_589 mv_X12_pairs rfl (by decide) dX12_join_141 rfl k48 rfl rfl rfl (Nat.le_of_ble_eq_true rfl) rfl (Nat.le_of_ble_eq_true rfl) rfl (Nat.le_of_ble_eq_true rfl) rfl rfl ?_
        exact Hq35 _ _ hf
      · have hf := mm_if_f c47 hf
        refine me_lconst (v := (0 : Int64)) (q := 131) C dX12_join_130 (by decide) rfl ?_
        refine me_goto (q := 144) C dX12_join_131 (by decide) ?_
        exact Hq35 _ _ hf
set_option maxRecDepth 100000 in
set_option maxHeartbeats 4000000 in
theorem cX12_join_L83 {X : mm_X} (C : mm_C X cX12_join yX12_join 6 0 0) {r : Int32} {h1 : mm_H} (hE : mm_End X 0 0 (some .int) (some (vI r)) h1) {b0 : Nat} {b1 : Int32} {b2 : Int32} {b3 : Int32} {b4 : Int32} {b5 : Int32} (K226 : mm_H → Option (Int32 × mm_H)) : ∀ (n : Nat) (x6 : Int32) (h : mm_H), fX12_join_L83 b0 b1 b2 b3 b4 b5 K226 n x6 h = some (r, h1) → (∀ (h : mm_H), K226 h = some (r, h1) → mm_E X h 0 0 226 [some (vR (some b0)), some (vI b1), some (vI b2), some (vI b3), some (vI b4), some (vI b5), none, none, none, none, none, none, none, none] []) → mm_E X h 0 0 83 [some (vR (some b0)), some (vI b1), some (vI b2), some (vI b3), some (vI b4), some (vI b5), some (vI x6), none, none, none, none, none, none, none] [] := by
  intro n
  induction n with
  | zero =>
    intro x6 h hf
    exact absurd (show (none : Option (Int32 × mm_H)) = some (r, h1) from hf) (by simp)
  | succ n ih =>
    intro x6 h hf hk226
    have hf : fX12_join_L83_b b0 b1 b2 b3 b4 b5 K226 (fX12_join_L83 b0 b1 b2 b3 b4 b5 K226 n) x6 h = some (r, h1) := hf
    unfold fX12_join_L83_b at hf
    refine me_iload (q := 85) C dX12_join_83 rfl rfl ?_
    refine me_iconst (v := (1 : Int32)) (q := 86) C dX12_join_85 (by decide) rfl ?_
    refine me_iload (q := 88) C dX12_join_86 rfl rfl ?_
    refine me_ishl (q := 89) C dX12_join_88 rfl ?_
    refine me_icmp_ge (q2 := 226) (q := 92) C dX12_join_89 (by decide) rfl (fun c26 => ?_) (fun c26 => ?_)
    · have hf := mm_if_t c26 hf
      refine me_mask [true, true, true, true, true, true, false, false, false, false, false, false, false, false] (lv2 := [some (vR (some b0)), some (vI b1), some (vI b2), some (vI b3), some (vI b4), some (vI b5), none, none, none, none, none, none, none, none]) rfl ?_
      exact hk226 _ hf
    · have hf := mm_if_f c26 hf
      refine me_aload_n (q := 93) C dX12_join_92 rfl rfl rfl ?_
      obtain ⟨k27, hf⟩ := mm_ck_some hf
      refine me_getR (q := 96) C dX12_join_93 mf_X12_263 rfl rfl k27 rfl ?_
      refine me_iload (q := 98) C dX12_join_96 rfl rfl ?_
      refine me_iconst (v := (1 : Int32)) (q := 99) C dX12_join_98 (by decide) rfl ?_
      refine me_iadd (q := 100) C dX12_join_99 rfl ?_
      refine me_bipush (v := (10 : Int32)) (q := 102) C dX12_join_100 (by decide) rfl ?_
      refine me_ishl (q := 103) C dX12_join_102 rfl ?_
      refine me_iload (q := 105) C dX12_join_103 rfl rfl ?_
      refine me_iadd (q := 106) C dX12_join_105 rfl ?_
      obtain ⟨u28, eu28, hf⟩ := mm_rf_some hf
      obtain ⟨k29, hf⟩ := mm_ck_some hf
      obtain ⟨k30, hf⟩ := mm_ck_some hf
      refine me_lald (q := 107) C dX12_join_106 eu28 k29 k30 rfl ?_
      obtain ⟨v31, ev31, hf⟩ := mm_lt_some hf
      refine me_topJ ev31 ?_
      refine me_lstore (q := 109) (lv2 := [some (vR (some b0)), some (vI b1), some (vI b2), some (vI b3), some (vI b4), some (vI b5), some (vI x6), some (vJ v31), none, none, none, none, none, none]) C dX12_join_107 (Nat.le_of_ble_eq_true rfl) rfl rfl rfl ?_
      refine me_iconst (v := (0 : Int32)) (q := 110) C dX12_join_109 (by decide) rfl ?_
      refine me_istore (q := 112) (lv2 := [some (vR (some b0)), some (vI b1), some (vI b2), some (vI b3), some (vI b4), some (vI b5), some (vI x6), some (vJ v31), none, some (vI (0 : Int32)), none, none, none, none]) C dX12_join_110 (Nat.le_of_ble_eq_true rfl) rfl rfl rfl ?_
      refine cX12_join_L112 C hE _ _ _ _ _ hf ?_
      · intro z52 g53 hf
        refine me_aload_n (q := 206) C dX12_join_205 rfl rfl rfl ?_
        obtain ⟨k54, hf⟩ := mm_ck_some hf
        refine me_getR (q := 209) C dX12_join_206 mf_X12_263 rfl rfl k54 rfl ?_
        refine me_iload (q := 211) C dX12_join_209 rfl rfl ?_
        refine me_bipush (v := (10 : Int32)) (q := 213) C dX12_join_211 (by decide) rfl ?_
        refine me_ishl (q := 214) C dX12_join_213 rfl ?_
        refine me_iload (q := 216) C dX12_join_214 rfl rfl ?_
        refine me_iadd (q := 217) C dX12_join_216 rfl ?_
        refine me_lload (q := 219) C dX12_join_217 rfl rfl ?_
        obtain ⟨u55, eu55, hf⟩ := mm_rf_some hf
        obtain ⟨k56, hf⟩ := mm_ck_some hf
        obtain ⟨k57, hf⟩ := mm_ck_some hf
        obtain ⟨g58, eg58, hf⟩ := mm_lt_some hf
        refine me_lastH (q := 220) C eg58 dX12_join_219 eu55 k56 k57 rfl ?_
        obtain ⟨v59, ev59, hf⟩ := mm_lt_some hf
        refine me_iinc (q := 223) (v := v59) (lv2 := [some (vR (some b0)), some (vI b1), some (vI b2), some (vI b3), some (vI b4), some (vI b5), some (vI v59), some (vJ z52), none, none, none, none, none, none]) C dX12_join_220 rfl (by rw [ev59]; rfl) (Nat.le_of_ble_eq_true rfl) rfl rfl rfl ?_
        refine me_goto (q := 83) C dX12_join_223 (by decide) ?_
        refine me_mask [true, true, true, true, true, true, true, false, false, false, false, false, false, false] (lv2 := [some (vR (some b0)), some (vI b1), some (vI b2), some (vI b3), some (vI b4), some (vI b5), some (vI v59), none, none, none, none, none, none, none]) rfl ?_
        exact ih _ _ hf hk226
set_option maxRecDepth 100000 in
set_option maxHeartbeats 4000000 in
theorem cX12_join_L75 {X : mm_X} (C : mm_C X cX12_join yX12_join 6 0 0) {r : Int32} {h1 : mm_H} (hE : mm_End X 0 0 (some .int) (some (vI r)) h1) {b0 : Nat} {b1 : Int32} {b2 : Int32} {b3 : Int32} {b4 : Int32} (K232 : mm_H → Option (Int32 × mm_H)) : ∀ (n : Nat) (x5 : Int32) (h : mm_H), fX12_join_L75 b0 b1 b2 b3 b4 K232 n x5 h = some (r, h1) → (∀ (h : mm_H), K232 h = some (r, h1) → mm_E X h 0 0 232 [some (vR (some b0)), some (vI b1), some (vI b2), some (vI b3), some (vI b4), none, none, none, none, none, none, none, none, none] []) → mm_E X h 0 0 75 [some (vR (some b0)), some (vI b1), some (vI b2), some (vI b3), some (vI b4), some (vI x5), none, none, none, none, none, none, none, none] [] := by
  intro n
  induction n with
  | zero =>
    intro x5 h hf
    exact absurd (show (none : Option (Int32 × mm_H)) = some (r, h1) from hf) (by simp)
  | succ n ih =>
    intro x5 h hf hk232
    have hf : fX12_join_L75_b b0 b1 b2 b3 b4 K232 (fX12_join_L75 b0 b1 b2 b3 b4 K232 n) x5 h = some (r, h1) := hf
    unfold fX12_join_L75_b at hf
    refine me_iload (q := 77) C dX12_join_75 rfl rfl ?_
    refine me_if_lt (q2 := 232) (q := 80) C dX12_join_77 (by decide) rfl (fun c25 => ?_) (fun c25 => ?_)
    · have hf := mm_if_t c25 hf
      refine me_mask [true, true, true, true, true, false, false, false, false, false, false, false, false, false] (lv2 := [some (vR (some b0)), some (vI b1), some (vI b2), some (vI b3), some (vI b4), none, none, none, none, none, none, none, none, none]) rfl ?_
      exact hk232 _ hf
    · have hf := mm_if_f c25 hf
      refine me_iconst (v := (0 : Int32)) (q := 81) C dX12_join_80 (by decide) rfl ?_
      refine me_istore (q := 83) (lv2 := [some (vR (some b0)), some (vI b1), some (vI b2), some (vI b3), some (vI b4), some (vI x5), some (vI (0 : Int32)), none, none, none, none, none, none, none]) C dX12_join_81 (Nat.le_of_ble_eq_true rfl) rfl rfl rfl ?_
      refine cX12_join_L83 C hE _ _ _ _ hf ?_
      · intro g60 hf
        obtain ⟨v61, ev61, hf⟩ := mm_lt_some hf
        refine me_iinc (q := 229) (v := v61) (lv2 := [some (vR (some b0)), some (vI b1), some (vI b2), some (vI b3), some (vI b4), some (vI v61), none, none, none, none, none, none, none, none]) C dX12_join_226 rfl (by rw [ev61]; rfl) (Nat.le_of_ble_eq_true rfl) rfl rfl rfl ?_
        refine me_goto (q := 75) C dX12_join_229 (by decide) ?_
        exact ih _ _ hf hk232
set_option maxRecDepth 100000 in
set_option maxHeartbeats 4000000 in
theorem cX12_join_L268 {X : mm_X} (C : mm_C X cX12_join yX12_join 6 0 0) {r : Int32} {h1 : mm_H} (hE : mm_End X 0 0 (some .int) (some (vI r)) h1) {b0 : Nat} {b1 : Int32} {b2 : Int32} {b3 : Int32} {b4 : Int32} {b5 : Int32} {b6 : Int32} {b7 : Int32} (K375 : mm_H → Option (Int32 × mm_H)) : ∀ (n : Nat) (x8 : Int32) (h : mm_H), fX12_join_L268 b0 b1 b2 b3 b4 b5 b6 b7 K375 n x8 h = some (r, h1) → (∀ (h : mm_H), K375 h = some (r, h1) → mm_E X h 0 0 375 [some (vR (some b0)), some (vI b1), some (vI b2), some (vI b3), some (vI b4), some (vI b5), some (vI b6), some (vI b7), none, none, none, none, none, none] []) → mm_E X h 0 0 268 [some (vR (some b0)), some (vI b1), some (vI b2), some (vI b3), some (vI b4), some (vI b5), some (vI b6), some (vI b7), some (vI x8), none, none, none, none, none] [] := by
  intro n
  induction n with
  | zero =>
    intro x8 h hf
    exact absurd (show (none : Option (Int32 × mm_H)) = some (r, h1) from hf) (by simp)
  | succ n ih =>
    intro x8 h hf hk375
    have hf : fX12_join_L268_b b0 b1 b2 b3 b4 b5 b6 b7 K375 (fX12_join_L268 b0 b1 b2 b3 b4 b5 b6 b7 K375 n) x8 h = some (r, h1) := hf
    unfold fX12_join_L268_b at hf
    refine me_iload (q := 270) C dX12_join_268 rfl rfl ?_
    refine me_iload (q := 272) C dX12_join_270 rfl rfl ?_
    refine me_icmp_ge (q2 := 375) (q := 275) C dX12_join_272 (by decide) rfl (fun c72 => ?_) (fun c72 => ?_)
    · have hf := mm_if_t c72 hf
      refine me_mask [true, true, true, true, true, true, true, true, false, false, false, false, false, false] (lv2 := [some (vR (some b0)), some (vI b1), some (vI b2), some (vI b3), some (vI b4), some (vI b5), some (vI b6), some (vI b7), none, none, none, none, none, none]) rfl ?_
      exact hk375 _ hf
    · have hf := mm_if_f c72 hf
      refine me_aload_n (q := 276) C dX12_join_275 rfl rfl rfl ?_
      obtain ⟨k73, hf⟩ := mm_ck_some hf
      refine me_getR (q := 279) C dX12_join_276 mf_X12_260 rfl rfl k73 rfl ?_
      refine me_iload (q := 281) C dX12_join_279 rfl rfl ?_
      obtain ⟨u74, eu74, hf⟩ := mm_rf_some hf
      obtain ⟨k75, hf⟩ := mm_ck_some hf
      obtain ⟨k76, hf⟩ := mm_ck_some hf
      refine me_iald (q := 282) C dX12_join_281 eu74 k75 k76 rfl ?_
      refine me_iconst (v := (-1 : Int32)) (q := 283) C dX12_join_282 (by decide) rfl ?_
      refine me_icmp_ne (q2 := 375) (q := 286) C dX12_join_283 (by decide) rfl (fun c77 => ?_) (fun c77 => ?_)
      · have hf := mm_if_t c77 hf
        refine me_mask [true, true, true, true, true, true, true, true, false, false, false, false, false, false] (lv2 := [some (vR (some b0)), some (vI b1), some (vI b2), some (vI b3), some (vI b4), some (vI b5), some (vI b6), some (vI b7), none, none, none, none, none, none]) rfl ?_
        exact hk375 _ hf
      · have hf := mm_if_f c77 hf
        refine me_iload (q := 288) C dX12_join_286 rfl rfl ?_
        refine me_iload (q := 290) C dX12_join_288 rfl rfl ?_
        refine me_ishr (q := 291) C dX12_join_290 rfl ?_
        refine me_iconst (v := (1 : Int32)) (q := 292) C dX12_join_291 (by decide) rfl ?_
        refine me_iand (q := 293) C dX12_join_292 rfl ?_
        refine me_iconst (v := (1 : Int32)) (q := 294) C dX12_join_293 (by decide) rfl ?_
        obtain ⟨q80, eq80, hf⟩ := mm_jn_some hf
        have Hq80 : ∀ (v78 : Int64) (g79 : mm_H), q80 v78 g79 = some (r, h1) → mm_E X g79 0 0 311 [some (vR (some b0)), some (vI b1), some (vI b2), some (vI b3), some (vI b4), some (vI b5), some (vI b6), some (vI b7), some (vI x8), none, none, none, none, none] [vJ v78] := by
          intro v78 g79 hf
          subst eq80
          refine me_lstore (q := 313) (lv2 := [some (vR (some b0)), some (vI b1), some (vI b2), some (vI b3), some (vI b4), some (vI b5), some (vI b6), some (vI b7), some (vI x8), some (vJ v78), none, none, none, none]) C dX12_join_311 (Nat.le_of_ble_eq_true rfl) rfl rfl rfl ?_
          refine me_lload (q := 315) C dX12_join_313 rfl rfl ?_
          refine me_lconst (v := (0 : Int64)) (q := 316) C dX12_join_315 (by decide) rfl ?_
          refine me_lcmp (q := 317) C dX12_join_316 rfl ?_
          obtain ⟨q82, eq82, hf⟩ := mm_jn_some hf
          have Hq82 : ∀ (g81 : mm_H), q82 g81 = some (r, h1) → mm_E X g81 0 0 369 [some (vR (some b0)), some (vI b1), some (vI b2), some (vI b3), some (vI b4), some (vI b5), some (vI b6), some (vI b7), some (vI x8), none, none, none, none, none] [] := by
            intro g81 hf
            subst eq82
            obtain ⟨v83, ev83, hf⟩ := mm_lt_some hf
            refine me_iinc (q := 372) (v := v83) (lv2 := [some (vR (some b0)), some (vI b1), some (vI b2), some (vI b3), some (vI b4), some (vI b5), some (vI b6), some (vI b7), some (vI v83), none, none, none, none, none]) C dX12_join_369 rfl (by rw [ev83]; rfl) (Nat.le_of_ble_eq_true rfl) rfl rfl rfl ?_
            refine me_goto (q := 268) C dX12_join_372 (by decide) ?_
            exact ih _ _ hf hk375
          refine me_if_le (q2 := 369) (q := 320) C dX12_join_317 (by decide) rfl (fun c84 => ?_) (fun c84 => ?_)
          · have hf := mm_if_t c84 hf
            refine me_mask [true, true, true, true, true, true, true, true, true, false, false, false, false, false] (lv2 := [some (vR (some b0)), some (vI b1), some (vI b2), some (vI b3), some (vI b4), some (vI b5), some (vI b6), some (vI b7), some (vI x8), none, none, none, none, none]) rfl ?_
            exact Hq82 _ hf
          · have hf := mm_if_f c84 hf
            refine me_lload (q := 322) C dX12_join_320 rfl rfl ?_
            refine me_aload_n (q := 323) C dX12_join_322 rfl rfl rfl ?_
            obtain ⟨k85, hf⟩ := mm_ck_some hf
            refine me_getR (q := 326) C dX12_join_323 mf_X12_263 rfl rfl k85 rfl ?_
            refine me_iload (q := 328) C dX12_join_326 rfl rfl ?_
            refine me_iconst (v := (1 : Int32)) (q := 329) C dX12_join_328 (by decide) rfl ?_
            refine me_iadd (q := 330) C dX12_join_329 rfl ?_
            refine me_bipush (v := (10 : Int32)) (q := 332) C dX12_join_330 (by decide) rfl ?_
            refine me_ishl (q := 333) C dX12_join_332 rfl ?_
            refine me_iload (q := 335) C dX12_join_333 rfl rfl ?_
            refine me_iconst (v := (1 : Int32)) (q := 336) C dX12_join_335 (by decide) rfl ?_
            refine me_iload (q := 338) C dX12_join_336 rfl rfl ?_
            refine me_ishl (q := 339) C dX12_join_338 rfl ?_
            refine me_ior (q := 340) C dX12_join_339 rfl ?_
            refine me_iadd (q := 341) C dX12_join_340 rfl ?_
            obtain ⟨u86, eu86, hf⟩ := mm_rf_some hf
            obtain ⟨k87, hf⟩ := mm_ck_some hf
            obtain ⟨k88, hf⟩ := mm_ck_some hf
            refine me_lald (q := 342) C dX12_join_341 eu86 k87 k88 rfl ?_
            refine me_ladd (q := 343) C dX12_join_342 rfl ?_
            refine me_aload_n (q := 344) C dX12_join_343 rfl rfl rfl ?_
            refine me_getR (q := 347) C dX12_join_344 mf_X12_263 rfl rfl k85 rfl ?_
            refine me_iload (q := 349) C dX12_join_347 rfl rfl ?_
            refine me_bipush (v := (10 : Int32)) (q := 351) C dX12_join_349 (by decide) rfl ?_
            refine me_ishl (q := 352) C dX12_join_351 rfl ?_
            refine me_iload (q := 354) C dX12_join_352 rfl rfl ?_
            refine me_iadd (q := 355) C dX12_join_354 rfl ?_
            obtain ⟨k89, hf⟩ := mm_ck_some hf
            refine me_lald (q := 356) C dX12_join_355 eu86 k87 k89 rfl ?_
            refine me_lcmp (q := 357) C dX12_join_356 rfl ?_
            refine me_if_ne (q2 := 369) (q := 360) C dX12_join_357 (by decide) rfl (fun c90 => ?_) (fun c90 => ?_)
            · have hf := mm_if_t c90 hf
              refine me_mask [true, true, true, true, true, true, true, true, true, false, false, false, false, false] (lv2 := [some (vR (some b0)), some (vI b1), some (vI b2), some (vI b3), some (vI b4), some (vI b5), some (vI b6), some (vI b7), some (vI x8), none, none, none, none, none]) rfl ?_
              exact Hq82 _ hf
            · have hf := mm_if_f c90 hf
              refine me_aload_n (q := 361) C dX12_join_360 rfl rfl rfl ?_
              refine me_getR (q := 364) C dX12_join_361 mf_X12_260 rfl rfl k85 rfl ?_
              refine me_iload (q := 366) C dX12_join_364 rfl rfl ?_
              refine me_iload (q := 368) C dX12_join_366 rfl rfl ?_
              obtain ⟨u91, eu91, hf⟩ := mm_rf_some hf
              obtain ⟨k92, hf⟩ := mm_ck_some hf
              obtain ⟨k93, hf⟩ := mm_ck_some hf
              obtain ⟨g94, eg94, hf⟩ := mm_lt_some hf
              refine me_iastH (q := 369) C eg94 dX12_join_368 eu91 k92 k93 rfl ?_
              refine me_mask [true, true, true, true, true, true, true, true, true, false, false, false, false, false] (lv2 := [some (vR (some b0)), some (vI b1), some (vI b2), some (vI b3), some (vI b4), some (vI b5), some (vI b6), some (vI b7), some (vI x8), none, none, none, none, none]) rfl ?_
              exact Hq82 _ hf
        refine me_icmp_ne (q2 := 301) (q := 297) C dX12_join_294 (by decide) rfl (fun c95 => ?_) (fun c95 => ?_)
        · have hf := mm_if_t c95 hf
          refine me_aload_n (q := 302) C dX12_join_301 rfl rfl rfl ?_
          refine me_iload (q := 304) C dX12_join_302 rfl rfl ?_
          refine me_iload (q := 306) C dX12_join_304 rfl rfl ?_
          refine me_iload_n (q := 307) C dX12_join_306 rfl rfl rfl ?_
          refine me_iload_n (q := 308) C dX12_join_307 rfl rfl rfl ?_
          obtain ⟨v96, g97, e98, hf⟩ := mm_cl_some hf
          refine me_callV (q := 311) (c2 := 0) (s2 := 0) (st := []) C (cX12_pairs_ok _ e98) mt_X12_589 mv_X12_pairs rfl (by decide) dX12_join_308 rfl k73 rfl rfl rfl (Nat.le_of_ble_eq_true rfl) rfl (Nat.le_of_ble_eq_true rfl) rfl (Nat.le_of_ble_eq_true rfl) rfl rfl ?_
          exact Hq80 _ _ hf
        · have hf := mm_if_f c95 hf
          refine me_lconst (v := (0 : Int64)) (q := 298) C dX12_join_297 (by decide) rfl ?_
          refine me_goto (q := 311) C dX12_join_298 (by decide) ?_
          exact Hq80 _ _ hf
set_option maxRecDepth 100000 in
set_option maxHeartbeats 4000000 in
theorem cX12_join_L251 {X : mm_X} (C : mm_C X cX12_join yX12_join 6 0 0) {r : Int32} {h1 : mm_H} (hE : mm_End X 0 0 (some .int) (some (vI r)) h1) {b0 : Nat} {b1 : Int32} {b2 : Int32} {b3 : Int32} {b4 : Int32} (K477 : Int32 → mm_H → Option (Int32 × mm_H)) : ∀ (n : Nat) (x5 : Int32) (x6 : Int32) (x7 : Int32) (h : mm_H), fX12_join_L251 b0 b1 b2 b3 b4 K477 n x5 x6 x7 h = some (r, h1) → (∀ (y6 : Int32) (h : mm_H), K477 y6 h = some (r, h1) → mm_E X h 0 0 477 [some (vR (some b0)), none, none, none, none, none, some (vI y6), none, none, none, none, none, none, none] []) → mm_E X h 0 0 251 [some (vR (some b0)), some (vI b1), some (vI b2), some (vI b3), some (vI b4), some (vI x5), some (vI x6), some (vI x7), none, none, none, none, none, none] [] := by
  intro n
  induction n with
  | zero =>
    intro x5 x6 x7 h hf
    exact absurd (show (none : Option (Int32 × mm_H)) = some (r, h1) from hf) (by simp)
  | succ n ih =>
    intro x5 x6 x7 h hf hk477
    have hf : fX12_join_L251_b b0 b1 b2 b3 b4 K477 (fX12_join_L251 b0 b1 b2 b3 b4 K477 n) x5 x6 x7 h = some (r, h1) := hf
    unfold fX12_join_L251_b at hf
    refine me_iload (q := 253) C dX12_join_251 rfl rfl ?_
    refine me_iload_n (q := 254) C dX12_join_253 rfl rfl rfl ?_
    refine me_icmp_ge (q2 := 477) (q := 257) C dX12_join_254 (by decide) rfl (fun c66 => ?_) (fun c66 => ?_)
    · have hf := mm_if_t c66 hf
      refine me_mask [true, false, false, false, false, false, true, false, false, false, false, false, false, false] (lv2 := [some (vR (some b0)), none, none, none, none, none, some (vI x6), none, none, none, none, none, none, none]) rfl ?_
      exact hk477 _ _ hf
    · have hf := mm_if_f c66 hf
      refine me_aload_n (q := 258) C dX12_join_257 rfl rfl rfl ?_
      obtain ⟨k67, hf⟩ := mm_ck_some hf
      refine me_getR (q := 261) C dX12_join_258 mf_X12_260 rfl rfl k67 rfl ?_
      refine me_iload (q := 263) C dX12_join_261 rfl rfl ?_
      refine me_iconst (v := (-1 : Int32)) (q := 264) C dX12_join_263 (by decide) rfl ?_
      obtain ⟨u68, eu68, hf⟩ := mm_rf_some hf
      obtain ⟨k69, hf⟩ := mm_ck_some hf
      obtain ⟨k70, hf⟩ := mm_ck_some hf
      obtain ⟨g71, eg71, hf⟩ := mm_lt_some hf
      refine me_iastH (q := 265) C eg71 dX12_join_264 eu68 k69 k70 rfl ?_
      refine me_iconst (v := (0 : Int32)) (q := 266) C dX12_join_265 (by decide) rfl ?_
      refine me_istore (q := 268) (lv2 := [some (vR (some b0)), some (vI b1), some (vI b2), some (vI b3), some (vI b4), some (vI x5), some (vI x6), some (vI x7), some (vI (0 : Int32)), none, none, none, none, none]) C dX12_join_266 (Nat.le_of_ble_eq_true rfl) rfl rfl rfl ?_
      refine cX12_join_L268 C hE _ _ _ _ hf ?_
      · intro g99 hf
        refine me_aload_n (q := 376) C dX12_join_375 rfl rfl rfl ?_
        obtain ⟨k100, hf⟩ := mm_ck_some hf
        refine me_getR (q := 379) C dX12_join_376 mf_X12_260 rfl rfl k100 rfl ?_
        refine me_iload (q := 381) C dX12_join_379 rfl rfl ?_
        obtain ⟨u101, eu101, hf⟩ := mm_rf_some hf
        obtain ⟨k102, hf⟩ := mm_ck_some hf
        obtain ⟨k103, hf⟩ := mm_ck_some hf
        refine me_iald (q := 382) C dX12_join_381 eu101 k102 k103 rfl ?_
        refine me_iconst (v := (-1 : Int32)) (q := 383) C dX12_join_382 (by decide) rfl ?_
        obtain ⟨q107, eq107, hf⟩ := mm_jn_some hf
        have Hq107 : ∀ (v104 : Int32) (v105 : Int32) (g106 : mm_H), q107 v104 v105 g106 = some (r, h1) → mm_E X g106 0 0 471 [some (vR (some b0)), some (vI b1), some (vI b2), some (vI b3), some (vI b4), some (vI v104), some (vI v105), some (vI x7), none, none, none, none, none, none] [] := by
          intro v104 v105 g106 hf
          subst eq107
          obtain ⟨v108, ev108, hf⟩ := mm_lt_some hf
          refine me_iinc (q := 474) (v := v108) (lv2 := [some (vR (some b0)), some (vI b1), some (vI b2), some (vI b3), some (vI b4), some (vI v104), some (vI v105), some (vI v108), none, none, none, none, none, none]) C dX12_join_471 rfl (by rw [ev108]; rfl) (Nat.le_of_ble_eq_true rfl) rfl rfl rfl ?_
          refine me_goto (q := 251) C dX12_join_474 (by decide) ?_
          exact ih _ _ _ _ hf hk477
        refine me_icmp_eq (q2 := 471) (q := 386) C dX12_join_383 (by decide) rfl (fun c109 => ?_) (fun c109 => ?_)
        · have hf := mm_if_t c109 hf
          exact Hq107 _ _ _ hf
        · have hf := mm_if_f c109 hf
          refine me_iload (q := 388) C dX12_join_386 rfl rfl ?_
          refine me_iconst (v := (1 : Int32)) (q := 389) C dX12_join_388 (by decide) rfl ?_
          refine me_aload_n (q := 390) C dX12_join_389 rfl rfl rfl ?_
          refine me_getR (q := 393) C dX12_join_390 mf_X12_260 rfl rfl k100 rfl ?_
          refine me_iload (q := 395) C dX12_join_393 rfl rfl ?_
          obtain ⟨k110, hf⟩ := mm_ck_some hf
          refine me_iald (q := 396) C dX12_join_395 eu101 k102 k110 rfl ?_
          refine me_ishl (q := 397) C dX12_join_396 rfl ?_
          refine me_ior (q := 398) C dX12_join_397 rfl ?_
          obtain ⟨v111, ev111, hf⟩ := mm_lt_some hf
          refine me_topI ev111 ?_
          refine me_istore (q := 400) (lv2 := [some (vR (some b0)), some (vI b1), some (vI b2), some (vI b3), some (vI b4), some (vI v111), some (vI x6), some (vI x7), none, none, none, none, none, none]) C dX12_join_398 (Nat.le_of_ble_eq_true rfl) rfl rfl rfl ?_
          obtain ⟨v112, ev112, hf⟩ := mm_lt_some hf
          refine me_iinc (q := 403) (v := v112) (lv2 := [some (vR (some b0)), some (vI b1), some (vI b2), some (vI b3), some (vI b4), some (vI v111), some (vI v112), some (vI x7), none, none, none, none, none, none]) C dX12_join_400 rfl (by rw [ev112]; rfl) (Nat.le_of_ble_eq_true rfl) rfl rfl rfl ?_
          refine me_aload_n (q := 404) C dX12_join_403 rfl rfl rfl ?_
          refine me_dup (q := 405) C dX12_join_404 rfl rfl ?_
          refine me_getI (q := 408) C dX12_join_405 mf_X12_593 rfl rfl k100 rfl ?_
          refine me_aload_n (q := 409) C dX12_join_408 rfl rfl rfl ?_
          refine me_getR (q := 412) C dX12_join_409 mf_X12_257 rfl rfl k100 rfl ?_
          refine me_iload (q := 414) C dX12_join_412 rfl rfl ?_
          obtain ⟨u113, eu113, hf⟩ := mm_rf_some hf
          obtain ⟨k114, hf⟩ := mm_ck_some hf
          obtain ⟨k115, hf⟩ := mm_ck_some hf
          refine me_iald (q := 415) C dX12_join_414 eu113 k114 k115 rfl ?_
          refine me_aload_n (q := 416) C dX12_join_415 rfl rfl rfl ?_
          refine me_getR (q := 419) C dX12_join_416 mf_X12_257 rfl rfl k100 rfl ?_
          refine me_bipush (v := (10 : Int32)) (q := 421) C dX12_join_419 (by decide) rfl ?_
          refine me_aload_n (q := 422) C dX12_join_421 rfl rfl rfl ?_
          refine me_getR (q := 425) C dX12_join_422 mf_X12_260 rfl rfl k100 rfl ?_
          refine me_iload (q := 427) C dX12_join_425 rfl rfl ?_
          obtain ⟨k116, hf⟩ := mm_ck_some hf
          refine me_iald (q := 428) C dX12_join_427 eu101 k102 k116 rfl ?_
          refine me_iadd (q := 429) C dX12_join_428 rfl ?_
          obtain ⟨k117, hf⟩ := mm_ck_some hf
          refine me_iald (q := 430) C dX12_join_429 eu113 k114 k117 rfl ?_
          obtain ⟨v118, g119, e120, hf⟩ := mm_cl_some hf
          refine me_callS (q := 433) (c2 := 0) (s2 := 0) (st := [vI (mm_i g99 b0 114), vR (some b0)]) C (cX12_off_ok _ e120) mt_X12_582 ms_X12_off dX12_join_430 rfl rfl rfl (Nat.le_of_ble_eq_true rfl) rfl (Nat.le_of_ble_eq_true rfl) rfl (Nat.le_of_ble_eq_true rfl) rfl rfl ?_
          refine me_iadd (q := 434) C dX12_join_433 rfl ?_
          obtain ⟨k121, hf⟩ := mm_ck_some hf
          obtain ⟨g122, eg122, hf⟩ := mm_lt_some hf
          refine me_putI (q := 437) C eg122 dX12_join_434 mf_X12_593 mp_X12_13_114 rfl (by decide) rfl k121 rfl ?_
          refine me_aload_n (q := 438) C dX12_join_437 rfl rfl rfl ?_
          refine me_dup (q := 439) C dX12_join_438 rfl rfl ?_
          refine me_getI (q := 442) C dX12_join_439 mf_X12_596 rfl rfl (mm_kI eg122 k121) rfl ?_
          refine me_aload_n (q := 443) C dX12_join_442 rfl rfl rfl ?_
          refine me_getR (q := 446) C dX12_join_443 mf_X12_251 rfl rfl (mm_kI eg122 k121) rfl ?_
          refine me_iload (q := 448) C dX12_join_446 rfl rfl ?_
          obtain ⟨u123, eu123, hf⟩ := mm_rf_some hf
          obtain ⟨k124, hf⟩ := mm_ck_some hf
          obtain ⟨k125, hf⟩ := mm_ck_some hf
          refine me_iald (q := 449) C dX12_join_448 eu123 k124 k125 rfl ?_
          refine me_aload_n (q := 450) C dX12_join_449 rfl rfl rfl ?_
          refine me_getR (q := 453) C dX12_join_450 mf_X12_251 rfl rfl (mm_kI eg122 k121) rfl ?_
          refine me_bipush (v := (10 : Int32)) (q := 455) C dX12_join_453 (by decide) rfl ?_
          refine me_aload_n (q := 456) C dX12_join_455 rfl rfl rfl ?_
          refine me_getR (q := 459) C dX12_join_456 mf_X12_260 rfl rfl (mm_kI eg122 k121) rfl ?_
          refine me_iload (q := 461) C dX12_join_459 rfl rfl ?_
          obtain ⟨u126, eu126, hf⟩ := mm_rf_some hf
          obtain ⟨k127, hf⟩ := mm_ck_some hf
          obtain ⟨k128, hf⟩ := mm_ck_some hf
          refine me_iald (q := 462) C dX12_join_461 eu126 k127 k128 rfl ?_
          refine me_iadd (q := 463) C dX12_join_462 rfl ?_
          obtain ⟨k129, hf⟩ := mm_ck_some hf
          refine me_iald (q := 464) C dX12_join_463 eu123 k124 k129 rfl ?_
          obtain ⟨v130, g131, e132, hf⟩ := mm_cl_some hf
          refine me_callS (q := 467) (c2 := 0) (s2 := 0) (st := [vI (mm_i g122 b0 115), vR (some b0)]) C (cX12_off_ok _ e132) mt_X12_582 ms_X12_off dX12_join_464 rfl rfl rfl (Nat.le_of_ble_eq_true rfl) rfl (Nat.le_of_ble_eq_true rfl) rfl (Nat.le_of_ble_eq_true rfl) rfl rfl ?_
          refine me_iadd (q := 468) C dX12_join_467 rfl ?_
          obtain ⟨k133, hf⟩ := mm_ck_some hf
          obtain ⟨g134, eg134, hf⟩ := mm_lt_some hf
          refine me_putI (q := 471) C eg134 dX12_join_468 mf_X12_596 mp_X12_13_115 rfl (by decide) rfl k133 rfl ?_
          exact Hq107 _ _ _ hf
set_option maxRecDepth 100000 in
set_option maxHeartbeats 4000000 in
theorem cX12_join_ok (l : Launch) {a0 : Nat} {a1 : Int32} {a2 : Int32} {h : mm_H} {r : Int32} {h1 : mm_H} (hf : fX12_join a0 a1 a2 h = some (r, h1)) : mm_M l yX12_join cX12_join 14 (some .int) 6 0 0 [vR (some a0), vI a1, vI a2] h (some (vI r)) h1 := by
  refine mm_enter (lv := [some (vR (some a0)), some (vI a1), some (vI a2), none, none, none, none, none, none, none, none, none, none, none]) (by decide) rfl (Nat.le_of_ble_eq_true rfl) ?_
  intro X hl C hE
  subst hl
  unfold fX12_join at hf
  refine me_iload_n (q := 1) C dX12_join_0 rfl rfl rfl ?_
  refine me_iconst (v := (0 : Int32)) (q := 2) C dX12_join_1 (by decide) rfl ?_
  refine me_sipush (v := (1000 : Int32)) (q := 5) C dX12_join_2 (by decide) rfl ?_
  obtain ⟨v1, g2, e3, hf⟩ := mm_cl_some hf
  refine me_callS (q := 8) (c2 := 0) (s2 := 0) (st := []) C (cX12_in_ok _ e3) mt_X12_269 ms_X12_in dX12_join_5 rfl rfl rfl (Nat.le_of_ble_eq_true rfl) rfl (Nat.le_of_ble_eq_true rfl) rfl (Nat.le_of_ble_eq_true rfl) rfl rfl ?_
  refine me_if_eq (q2 := 22) (q := 11) C dX12_join_8 (by decide) rfl (fun c4 => ?_) (fun c4 => ?_)
  · have hf := mm_if_t c4 hf
    refine me_iconst (v := (-1 : Int32)) (q := 23) C dX12_join_22 (by decide) rfl ?_
    exact me_iret C hE (Nat.le_of_ble_eq_true rfl) (Nat.le_of_ble_eq_true rfl) rfl dX12_join_23 (mm_ri hf)
  · have hf := mm_if_f c4 hf
    refine me_iload_n (q := 12) C dX12_join_11 rfl rfl rfl ?_
    refine me_iconst (v := (0 : Int32)) (q := 13) C dX12_join_12 (by decide) rfl ?_
    refine me_sipush (v := (1000 : Int32)) (q := 16) C dX12_join_13 (by decide) rfl ?_
    obtain ⟨v5, g6, e7, hf⟩ := mm_cl_some hf
    refine me_callS (q := 19) (c2 := 0) (s2 := 0) (st := []) C (cX12_in_ok _ e7) mt_X12_269 ms_X12_in dX12_join_16 rfl rfl rfl (Nat.le_of_ble_eq_true rfl) rfl (Nat.le_of_ble_eq_true rfl) rfl (Nat.le_of_ble_eq_true rfl) rfl rfl ?_
    refine me_if_ne (q2 := 24) (q := 22) C dX12_join_19 (by decide) rfl (fun c8 => ?_) (fun c8 => ?_)
    · have hf := mm_if_t c8 hf
      refine me_aload_n (q := 25) C dX12_join_24 rfl rfl rfl ?_
      obtain ⟨k9, hf⟩ := mm_ck_some hf
      refine me_getR (q := 28) C dX12_join_25 mf_X12_248 rfl rfl k9 rfl ?_
      refine me_iconst (v := (0 : Int32)) (q := 29) C dX12_join_28 (by decide) rfl ?_
      obtain ⟨u10, eu10, hf⟩ := mm_rf_some hf
      obtain ⟨k11, hf⟩ := mm_ck_some hf
      obtain ⟨k12, hf⟩ := mm_ck_some hf
      refine me_iald (q := 30) C dX12_join_29 eu10 k11 k12 rfl ?_
      obtain ⟨v13, ev13, hf⟩ := mm_lt_some hf
      refine me_topI ev13 ?_
      refine me_istore_n (q := 31) (lv2 := [some (vR (some a0)), some (vI a1), some (vI a2), some (vI v13), none, none, none, none, none, none, none, none, none, none]) C dX12_join_30 rfl (Nat.le_of_ble_eq_true rfl) rfl rfl rfl ?_
      refine me_aload_n (q := 32) C dX12_join_31 rfl rfl rfl ?_
      refine me_getR (q := 35) C dX12_join_32 mf_X12_248 rfl rfl k9 rfl ?_
      refine me_iconst (v := (1 : Int32)) (q := 36) C dX12_join_35 (by decide) rfl ?_
      obtain ⟨k14, hf⟩ := mm_ck_some hf
      refine me_iald (q := 37) C dX12_join_36 eu10 k11 k14 rfl ?_
      obtain ⟨v15, ev15, hf⟩ := mm_lt_some hf
      refine me_topI ev15 ?_
      refine me_istore (q := 39) (lv2 := [some (vR (some a0)), some (vI a1), some (vI a2), some (vI v13), some (vI v15), none, none, none, none, none, none, none, none, none]) C dX12_join_37 (Nat.le_of_ble_eq_true rfl) rfl rfl rfl ?_
      refine me_iconst (v := (0 : Int32)) (q := 40) C dX12_join_39 (by decide) rfl ?_
      refine me_istore (q := 42) (lv2 := [some (vR (some a0)), some (vI a1), some (vI a2), some (vI v13), some (vI v15), some (vI (0 : Int32)), none, none, none, none, none, none, none, none]) C dX12_join_40 (Nat.le_of_ble_eq_true rfl) rfl rfl rfl ?_
      refine cX12_join_L42 C hE _ _ _ _ hf ?_
      · intro g23 hf
        refine me_iload_n (q := 71) C dX12_join_70 rfl rfl rfl ?_
        refine me_iconst (v := (1 : Int32)) (q := 72) C dX12_join_71 (by decide) rfl ?_
        refine me_isub (q := 73) C dX12_join_72 rfl ?_
        obtain ⟨v24, ev24, hf⟩ := mm_lt_some hf
        refine me_topI ev24 ?_
        refine me_istore (q := 75) (lv2 := [some (vR (some a0)), some (vI a1), some (vI a2), some (vI v13), some (vI v15), some (vI v24), none, none, none, none, none, none, none, none]) C dX12_join_73 (Nat.le_of_ble_eq_true rfl) rfl rfl rfl ?_
        refine cX12_join_L75 C hE _ _ _ _ hf ?_
        · intro g62 hf
          refine me_iconst (v := (0 : Int32)) (q := 233) C dX12_join_232 (by decide) rfl ?_
          refine me_istore (q := 235) (lv2 := [some (vR (some a0)), some (vI a1), some (vI a2), some (vI v13), some (vI v15), some (vI (0 : Int32)), none, none, none, none, none, none, none, none]) C dX12_join_233 (Nat.le_of_ble_eq_true rfl) rfl rfl rfl ?_
          refine me_iconst (v := (0 : Int32)) (q := 236) C dX12_join_235 (by decide) rfl ?_
          refine me_istore (q := 238) (lv2 := [some (vR (some a0)), some (vI a1), some (vI a2), some (vI v13), some (vI v15), some (vI (0 : Int32)), some (vI (0 : Int32)), none, none, none, none, none, none, none]) C dX12_join_236 (Nat.le_of_ble_eq_true rfl) rfl rfl rfl ?_
          refine me_aload_n (q := 239) C dX12_join_238 rfl rfl rfl ?_
          refine me_iconst (v := (0 : Int32)) (q := 240) C dX12_join_239 (by decide) rfl ?_
          obtain ⟨k63, hf⟩ := mm_ck_some hf
          obtain ⟨g64, eg64, hf⟩ := mm_lt_some hf
          refine me_putI (q := 243) C eg64 dX12_join_240 mf_X12_593 mp_X12_13_114 rfl (by decide) rfl k63 rfl ?_
          refine me_aload_n (q := 244) C dX12_join_243 rfl rfl rfl ?_
          refine me_iconst (v := (0 : Int32)) (q := 245) C dX12_join_244 (by decide) rfl ?_
          obtain ⟨g65, eg65, hf⟩ := mm_lt_some hf
          refine me_putI (q := 248) C eg65 dX12_join_245 mf_X12_596 mp_X12_13_115 rfl (by decide) rfl (mm_kI eg64 k63) rfl ?_
          refine me_iconst (v := (0 : Int32)) (q := 249) C dX12_join_248 (by decide) rfl ?_
          refine me_istore (q := 251) (lv2 := [some (vR (some a0)), some (vI a1), some (vI a2), some (vI v13), some (vI v15), some (vI (0 : Int32)), some (vI (0 : Int32)), some (vI (0 : Int32)), none, none, none, none, none, none]) C dX12_join_249 (Nat.le_of_ble_eq_true rfl) rfl rfl rfl ?_
          refine cX12_join_L251 C hE _ _ _ _ _ _ hf ?_
          · intro z135 g136 hf
            refine me_aload_n (q := 478) C dX12_join_477 rfl rfl rfl ?_
            refine me_iconst (v := (1 : Int32)) (q := 479) C dX12_join_478 (by decide) rfl ?_
            obtain ⟨k137, hf⟩ := mm_ck_some hf
            obtain ⟨g138, eg138, hf⟩ := mm_lt_some hf
            refine me_putZ (q := 482) C (Or.inr rfl) eg138 dX12_join_479 mf_X12_579 mp_X12_13_108 rfl (by decide) rfl k137 rfl ?_
            refine me_iload (q := 484) C dX12_join_482 rfl rfl ?_
            exact me_iret C hE (Nat.le_of_ble_eq_true rfl) (Nat.le_of_ble_eq_true rfl) rfl dX12_join_484 (mm_ri hf)
    · have hf := mm_if_f c8 hf
      refine me_iconst (v := (-1 : Int32)) (q := 23) C dX12_join_22 (by decide) rfl ?_
      exact me_iret C hE (Nat.le_of_ble_eq_true rfl) (Nat.le_of_ble_eq_true rfl) rfl dX12_join_23 (mm_ri hf)
set_option maxRecDepth 100000 in
set_option maxHeartbeats 4000000 in
theorem cX12_joined_ok (l : Launch) {a0 : Nat} {a1 : Int32} {h : mm_H} {r : Int32} {h1 : mm_H} (hf : fX12_joined a0 a1 h = some (r, h1)) : mm_M l yX12_joined cX12_joined 2 (some .int) 4 0 0 [vR (some a0), vI a1] h (some (vI r)) h1 := by
  refine mm_enter (lv := [some (vR (some a0)), some (vI a1)]) (by decide) rfl (Nat.le_of_ble_eq_true rfl) ?_
  intro X hl C hE
  subst hl
  unfold fX12_joined at hf
  refine me_aload_n (q := 1) C dX12_joined_0 rfl rfl rfl ?_
  obtain ⟨k1, hf⟩ := mm_ck_some hf
  refine me_getI (q := 4) C dX12_joined_1 mf_X12_579 rfl rfl k1 rfl ?_
  refine me_if_ne (q2 := 9) (q := 7) C dX12_joined_4 (by decide) rfl (fun c2 => ?_) (fun c2 => ?_)
  · have hf := mm_if_t c2 hf
    refine me_iload_n (q := 10) C dX12_joined_9 rfl rfl rfl ?_
    refine me_iconst (v := (-1 : Int32)) (q := 11) C dX12_joined_10 (by decide) rfl ?_
    refine me_icmp_ne (q2 := 21) (q := 14) C dX12_joined_11 (by decide) rfl (fun c3 => ?_) (fun c3 => ?_)
    · have hf := mm_if_t c3 hf
      refine me_iload_n (q := 22) C dX12_joined_21 rfl rfl rfl ?_
      refine me_bipush (v := (-2 : Int32)) (q := 24) C dX12_joined_22 (by decide) rfl ?_
      refine me_icmp_ne (q2 := 34) (q := 27) C dX12_joined_24 (by decide) rfl (fun c4 => ?_) (fun c4 => ?_)
      · have hf := mm_if_t c4 hf
        refine me_iload_n (q := 35) C dX12_joined_34 rfl rfl rfl ?_
        refine me_iconst (v := (0 : Int32)) (q := 36) C dX12_joined_35 (by decide) rfl ?_
        refine me_aload_n (q := 37) C dX12_joined_36 rfl rfl rfl ?_
        refine me_getR (q := 40) C dX12_joined_37 mf_X12_248 rfl rfl k1 rfl ?_
        refine me_iconst (v := (0 : Int32)) (q := 41) C dX12_joined_40 (by decide) rfl ?_
        obtain ⟨u5, eu5, hf⟩ := mm_rf_some hf
        obtain ⟨k6, hf⟩ := mm_ck_some hf
        obtain ⟨k7, hf⟩ := mm_ck_some hf
        refine me_iald (q := 42) C dX12_joined_41 eu5 k6 k7 rfl ?_
        refine me_iconst (v := (1 : Int32)) (q := 43) C dX12_joined_42 (by decide) rfl ?_
        refine me_isub (q := 44) C dX12_joined_43 rfl ?_
        obtain ⟨v8, g9, e10, hf⟩ := mm_cl_some hf
        refine me_callS (q := 47) (c2 := 0) (s2 := 0) (st := []) C (cX12_in_ok _ e10) mt_X12_269 ms_X12_in dX12_joined_44 rfl rfl rfl (Nat.le_of_ble_eq_true rfl) rfl (Nat.le_of_ble_eq_true rfl) rfl (Nat.le_of_ble_eq_true rfl) rfl rfl ?_
        refine me_if_eq (q2 := 59) (q := 50) C dX12_joined_47 (by decide) rfl (fun c11 => ?_) (fun c11 => ?_)
        · have hf := mm_if_t c11 hf
          refine me_iconst (v := (-1 : Int32)) (q := 60) C dX12_joined_59 (by decide) rfl ?_
          exact me_iret C hE (Nat.le_of_ble_eq_true rfl) (Nat.le_of_ble_eq_true rfl) rfl dX12_joined_60 (mm_ri hf)
        · have hf := mm_if_f c11 hf
          refine me_aload_n (q := 51) C dX12_joined_50 rfl rfl rfl ?_
          obtain ⟨k12, hf⟩ := mm_ck_some hf
          refine me_getR (q := 54) C dX12_joined_51 mf_X12_260 rfl rfl k12 rfl ?_
          refine me_iload_n (q := 55) C dX12_joined_54 rfl rfl rfl ?_
          obtain ⟨u13, eu13, hf⟩ := mm_rf_some hf
          obtain ⟨k14, hf⟩ := mm_ck_some hf
          obtain ⟨k15, hf⟩ := mm_ck_some hf
          refine me_iald (q := 56) C dX12_joined_55 eu13 k14 k15 rfl ?_
          refine me_goto (q := 60) C dX12_joined_56 (by decide) ?_
          exact me_iret C hE (Nat.le_of_ble_eq_true rfl) (Nat.le_of_ble_eq_true rfl) rfl dX12_joined_60 (mm_ri hf)
      · have hf := mm_if_f c4 hf
        refine me_aload_n (q := 28) C dX12_joined_27 rfl rfl rfl ?_
        refine me_getI (q := 31) C dX12_joined_28 mf_X12_596 rfl rfl k1 rfl ?_
        refine me_goto (q := 60) C dX12_joined_31 (by decide) ?_
        exact me_iret C hE (Nat.le_of_ble_eq_true rfl) (Nat.le_of_ble_eq_true rfl) rfl dX12_joined_60 (mm_ri hf)
    · have hf := mm_if_f c3 hf
      refine me_aload_n (q := 15) C dX12_joined_14 rfl rfl rfl ?_
      refine me_getI (q := 18) C dX12_joined_15 mf_X12_593 rfl rfl k1 rfl ?_
      refine me_goto (q := 60) C dX12_joined_18 (by decide) ?_
      exact me_iret C hE (Nat.le_of_ble_eq_true rfl) (Nat.le_of_ble_eq_true rfl) rfl dX12_joined_60 (mm_ri hf)
  · have hf := mm_if_f c2 hf
    refine me_iconst (v := (-1 : Int32)) (q := 8) C dX12_joined_7 (by decide) rfl ?_
    exact me_iret C hE (Nat.le_of_ble_eq_true rfl) (Nat.le_of_ble_eq_true rfl) rfl dX12_joined_8 (mm_ri hf)
set_option maxRecDepth 100000 in
set_option maxHeartbeats 4000000 in
theorem cX12_count_L157 {X : mm_X} (C : mm_C X cX12_count yX12_count 2 0 0) {r : Int64} {h1 : mm_H} (hE : mm_End X 0 0 (some .long) (some (vJ r)) h1) {b0 : Nat} (K183 : Int64 → mm_H → Option (Int64 × mm_H)) : ∀ (n : Nat) (x2 : Int64) (x4 : Int32) (h : mm_H), fX12_count_L157 b0 K183 n x2 x4 h = some (r, h1) → (∀ (y2 : Int64) (h : mm_H), K183 y2 h = some (r, h1) → mm_E X h 0 0 183 [some (vR (some b0)), none, some (vJ y2), none, none] []) → mm_E X h 0 0 157 [some (vR (some b0)), none, some (vJ x2), none, some (vI x4)] [] := by
  intro n
  induction n with
  | zero =>
    intro x2 x4 h hf
    exact absurd (show (none : Option (Int64 × mm_H)) = some (r, h1) from hf) (by simp)
  | succ n ih =>
    intro x2 x4 h hf hk183
    have hf : fX12_count_L157_b b0 K183 (fX12_count_L157 b0 K183 n) x2 x4 h = some (r, h1) := hf
    unfold fX12_count_L157_b at hf
    refine me_iload (q := 159) C dX12_count_157 rfl rfl ?_
    refine me_aload_n (q := 160) C dX12_count_159 rfl rfl rfl ?_
    obtain ⟨k34, hf⟩ := mm_ck_some hf
    refine me_getI (q := 163) C dX12_count_160 mf_X12_276 rfl rfl k34 rfl ?_
    refine me_icmp_ge (q2 := 183) (q := 166) C dX12_count_163 (by decide) rfl (fun c35 => ?_) (fun c35 => ?_)
    · have hf := mm_if_t c35 hf
      refine me_mask [true, false, true, false, false] (lv2 := [some (vR (some b0)), none, some (vJ x2), none, none]) rfl ?_
      exact hk183 _ _ hf
    · have hf := mm_if_f c35 hf
      refine me_lload_n (q := 167) C dX12_count_166 rfl rfl rfl ?_
      refine me_aload_n (q := 168) C dX12_count_167 rfl rfl rfl ?_
      refine me_getR (q := 171) C dX12_count_168 mf_X12_13 rfl rfl k34 rfl ?_
      refine me_iload (q := 173) C dX12_count_171 rfl rfl ?_
      obtain ⟨u36, eu36, hf⟩ := mm_rf_some hf
      obtain ⟨k37, hf⟩ := mm_ck_some hf
      obtain ⟨k38, hf⟩ := mm_ck_some hf
      refine me_iald (q := 174) C dX12_count_173 eu36 k37 k38 rfl ?_
      refine me_i2l (q := 175) C dX12_count_174 rfl ?_
      refine me_ladd (q := 176) C dX12_count_175 rfl ?_
      obtain ⟨v39, ev39, hf⟩ := mm_lt_some hf
      refine me_topJ ev39 ?_
      refine me_lstore_n (q := 177) (lv2 := [some (vR (some b0)), none, some (vJ v39), none, some (vI x4)]) C dX12_count_176 rfl (Nat.le_of_ble_eq_true rfl) rfl rfl rfl ?_
      obtain ⟨v40, ev40, hf⟩ := mm_lt_some hf
      refine me_iinc (q := 180) (v := v40) (lv2 := [some (vR (some b0)), none, some (vJ v39), none, some (vI v40)]) C dX12_count_177 rfl (by rw [ev40]; rfl) (Nat.le_of_ble_eq_true rfl) rfl rfl rfl ?_
      refine me_goto (q := 157) C dX12_count_180 (by decide) ?_
      exact ih _ _ _ hf hk183
set_option maxRecDepth 100000 in
set_option maxHeartbeats 4000000 in
theorem cX12_count_L186 {X : mm_X} (C : mm_C X cX12_count yX12_count 2 0 0) {r : Int64} {h1 : mm_H} (hE : mm_End X 0 0 (some .long) (some (vJ r)) h1) {b0 : Nat} (K210 : Int64 → mm_H → Option (Int64 × mm_H)) : ∀ (n : Nat) (x2 : Int64) (x4 : Int32) (h : mm_H), fX12_count_L186 b0 K210 n x2 x4 h = some (r, h1) → (∀ (y2 : Int64) (h : mm_H), K210 y2 h = some (r, h1) → mm_E X h 0 0 210 [none, none, some (vJ y2), none, none] []) → mm_E X h 0 0 186 [some (vR (some b0)), none, some (vJ x2), none, some (vI x4)] [] := by
  intro n
  induction n with
  | zero =>
    intro x2 x4 h hf
    exact absurd (show (none : Option (Int64 × mm_H)) = some (r, h1) from hf) (by simp)
  | succ n ih =>
    intro x2 x4 h hf hk210
    have hf : fX12_count_L186_b b0 K210 (fX12_count_L186 b0 K210 n) x2 x4 h = some (r, h1) := hf
    unfold fX12_count_L186_b at hf
    refine me_iload (q := 188) C dX12_count_186 rfl rfl ?_
    refine me_bipush (v := (9 : Int32)) (q := 190) C dX12_count_188 (by decide) rfl ?_
    refine me_icmp_gt (q2 := 210) (q := 193) C dX12_count_190 (by decide) rfl (fun c43 => ?_) (fun c43 => ?_)
    · have hf := mm_if_t c43 hf
      refine me_mask [false, false, true, false, false] (lv2 := [none, none, some (vJ x2), none, none]) rfl ?_
      exact hk210 _ _ hf
    · have hf := mm_if_f c43 hf
      refine me_lload_n (q := 194) C dX12_count_193 rfl rfl rfl ?_
      refine me_aload_n (q := 195) C dX12_count_194 rfl rfl rfl ?_
      obtain ⟨k44, hf⟩ := mm_ck_some hf
      refine me_getR (q := 198) C dX12_count_195 mf_X12_25 rfl rfl k44 rfl ?_
      refine me_iload (q := 200) C dX12_count_198 rfl rfl ?_
      obtain ⟨u45, eu45, hf⟩ := mm_rf_some hf
      obtain ⟨k46, hf⟩ := mm_ck_some hf
      obtain ⟨k47, hf⟩ := mm_ck_some hf
      refine me_iald (q := 201) C dX12_count_200 eu45 k46 k47 rfl ?_
      refine me_i2l (q := 202) C dX12_count_201 rfl ?_
      refine me_ladd (q := 203) C dX12_count_202 rfl ?_
      obtain ⟨v48, ev48, hf⟩ := mm_lt_some hf
      refine me_topJ ev48 ?_
      refine me_lstore_n (q := 204) (lv2 := [some (vR (some b0)), none, some (vJ v48), none, some (vI x4)]) C dX12_count_203 rfl (Nat.le_of_ble_eq_true rfl) rfl rfl rfl ?_
      obtain ⟨v49, ev49, hf⟩ := mm_lt_some hf
      refine me_iinc (q := 207) (v := v49) (lv2 := [some (vR (some b0)), none, some (vJ v48), none, some (vI v49)]) C dX12_count_204 rfl (by rw [ev49]; rfl) (Nat.le_of_ble_eq_true rfl) rfl rfl rfl ?_
      refine me_goto (q := 186) C dX12_count_207 (by decide) ?_
      exact ih _ _ _ hf hk210
set_option maxRecDepth 100000 in
set_option maxHeartbeats 4000000 in
theorem cX12_count_ok (l : Launch) {a0 : Nat} {a1 : Int32} {h : mm_H} {r : Int64} {h1 : mm_H} (hf : fX12_count a0 a1 h = some (r, h1)) : mm_M l yX12_count cX12_count 5 (some .long) 2 0 0 [vR (some a0), vI a1] h (some (vJ r)) h1 := by
  refine mm_enter (lv := [some (vR (some a0)), some (vI a1), none, none, none]) (by decide) rfl (Nat.le_of_ble_eq_true rfl) ?_
  intro X hl C hE
  subst hl
  unfold fX12_count at hf
  refine me_lconst (v := (0 : Int64)) (q := 1) C dX12_count_0 (by decide) rfl ?_
  refine me_lstore_n (q := 2) (lv2 := [some (vR (some a0)), some (vI a1), some (vJ (0 : Int64)), none, none]) C dX12_count_1 rfl (Nat.le_of_ble_eq_true rfl) rfl rfl rfl ?_
  refine me_iload_n (q := 3) C dX12_count_2 rfl rfl rfl ?_
  by_cases c1 : a1 = 0
  · have hf := mm_if_t c1 hf
    refine me_tabIn (q := 72) C dX12_count_3 (by rw [c1]; decide) (by rw [c1]; decide) (by rw [c1]; rfl) (by decide) ?_
    refine me_aload_n (q := 73) C dX12_count_72 rfl rfl rfl ?_
    obtain ⟨k2, hf⟩ := mm_ck_some hf
    refine me_getI (q := 76) C dX12_count_73 mf_X12_273 rfl rfl k2 rfl ?_
    refine me_i2l (q := 77) C dX12_count_76 rfl ?_
    exact me_lret C hE (Nat.le_of_ble_eq_true rfl) (Nat.le_of_ble_eq_true rfl) rfl dX12_count_77 (mm_rj hf)
  have hf := mm_if_f c1 hf
  by_cases c3 : a1 = 1
  · have hf := mm_if_t c3 hf
    refine me_tabIn (q := 78) C dX12_count_3 (by rw [c3]; decide) (by rw [c3]; decide) (by rw [c3]; rfl) (by decide) ?_
    refine me_aload_n (q := 79) C dX12_count_78 rfl rfl rfl ?_
    obtain ⟨k4, hf⟩ := mm_ck_some hf
    refine me_getI (q := 82) C dX12_count_79 mf_X12_276 rfl rfl k4 rfl ?_
    refine me_i2l (q := 83) C dX12_count_82 rfl ?_
    exact me_lret C hE (Nat.le_of_ble_eq_true rfl) (Nat.le_of_ble_eq_true rfl) rfl dX12_count_83 (mm_rj hf)
  have hf := mm_if_f c3 hf
  by_cases c5 : a1 = 2
  · have hf := mm_if_t c5 hf
    refine me_tabIn (q := 84) C dX12_count_3 (by rw [c5]; decide) (by rw [c5]; decide) (by rw [c5]; rfl) (by decide) ?_
    refine me_aload_n (q := 85) C dX12_count_84 rfl rfl rfl ?_
    obtain ⟨k6, hf⟩ := mm_ck_some hf
    refine me_getI (q := 88) C dX12_count_85 mf_X12_288 rfl rfl k6 rfl ?_
    refine me_i2l (q := 89) C dX12_count_88 rfl ?_
    exact me_lret C hE (Nat.le_of_ble_eq_true rfl) (Nat.le_of_ble_eq_true rfl) rfl dX12_count_89 (mm_rj hf)
  have hf := mm_if_f c5 hf
  by_cases c7 : a1 = 3
  · have hf := mm_if_t c7 hf
    refine me_tabIn (q := 90) C dX12_count_3 (by rw [c7]; decide) (by rw [c7]; decide) (by rw [c7]; rfl) (by decide) ?_
    refine me_aload_n (q := 91) C dX12_count_90 rfl rfl rfl ?_
    obtain ⟨k8, hf⟩ := mm_ck_some hf
    refine me_getI (q := 94) C dX12_count_91 mf_X12_356 rfl rfl k8 rfl ?_
    refine me_i2l (q := 95) C dX12_count_94 rfl ?_
    exact me_lret C hE (Nat.le_of_ble_eq_true rfl) (Nat.le_of_ble_eq_true rfl) rfl dX12_count_95 (mm_rj hf)
  have hf := mm_if_f c7 hf
  by_cases c9 : a1 = 4
  · have hf := mm_if_t c9 hf
    refine me_tabIn (q := 96) C dX12_count_3 (by rw [c9]; decide) (by rw [c9]; decide) (by rw [c9]; rfl) (by decide) ?_
    refine me_aload_n (q := 97) C dX12_count_96 rfl rfl rfl ?_
    obtain ⟨k10, hf⟩ := mm_ck_some hf
    refine me_getI (q := 100) C dX12_count_97 mf_X12_472 rfl rfl k10 rfl ?_
    refine me_i2l (q := 101) C dX12_count_100 rfl ?_
    exact me_lret C hE (Nat.le_of_ble_eq_true rfl) (Nat.le_of_ble_eq_true rfl) rfl dX12_count_101 (mm_rj hf)
  have hf := mm_if_f c9 hf
  by_cases c11 : a1 = 5
  · have hf := mm_if_t c11 hf
    refine me_tabIn (q := 102) C dX12_count_3 (by rw [c11]; decide) (by rw [c11]; decide) (by rw [c11]; rfl) (by decide) ?_
    refine me_aload_n (q := 103) C dX12_count_102 rfl rfl rfl ?_
    obtain ⟨k12, hf⟩ := mm_ck_some hf
    refine me_getI (q := 106) C dX12_count_103 mf_X12_510 rfl rfl k12 rfl ?_
    refine me_i2l (q := 107) C dX12_count_106 rfl ?_
    exact me_lret C hE (Nat.le_of_ble_eq_true rfl) (Nat.le_of_ble_eq_true rfl) rfl dX12_count_107 (mm_rj hf)
  have hf := mm_if_f c11 hf
  by_cases c13 : a1 = 6
  · have hf := mm_if_t c13 hf
    refine me_tabIn (q := 108) C dX12_count_3 (by rw [c13]; decide) (by rw [c13]; decide) (by rw [c13]; rfl) (by decide) ?_
    refine me_aload_n (q := 109) C dX12_count_108 rfl rfl rfl ?_
    obtain ⟨k14, hf⟩ := mm_ck_some hf
    refine me_getI (q := 112) C dX12_count_109 mf_X12_547 rfl rfl k14 rfl ?_
    refine me_i2l (q := 113) C dX12_count_112 rfl ?_
    exact me_lret C hE (Nat.le_of_ble_eq_true rfl) (Nat.le_of_ble_eq_true rfl) rfl dX12_count_113 (mm_rj hf)
  have hf := mm_if_f c13 hf
  by_cases c15 : a1 = 7
  · have hf := mm_if_t c15 hf
    refine me_tabIn (q := 114) C dX12_count_3 (by rw [c15]; decide) (by rw [c15]; decide) (by rw [c15]; rfl) (by decide) ?_
    refine me_aload_n (q := 115) C dX12_count_114 rfl rfl rfl ?_
    obtain ⟨k16, hf⟩ := mm_ck_some hf
    refine me_getI (q := 118) C dX12_count_115 mf_X12_550 rfl rfl k16 rfl ?_
    refine me_i2l (q := 119) C dX12_count_118 rfl ?_
    exact me_lret C hE (Nat.le_of_ble_eq_true rfl) (Nat.le_of_ble_eq_true rfl) rfl dX12_count_119 (mm_rj hf)
  have hf := mm_if_f c15 hf
  by_cases c17 : a1 = 8
  · have hf := mm_if_t c17 hf
    refine me_tabIn (q := 120) C dX12_count_3 (by rw [c17]; decide) (by rw [c17]; decide) (by rw [c17]; rfl) (by decide) ?_
    refine me_aload_n (q := 121) C dX12_count_120 rfl rfl rfl ?_
    obtain ⟨k18, hf⟩ := mm_ck_some hf
    refine me_getI (q := 124) C dX12_count_121 mf_X12_466 rfl rfl k18 rfl ?_
    refine me_i2l (q := 125) C dX12_count_124 rfl ?_
    exact me_lret C hE (Nat.le_of_ble_eq_true rfl) (Nat.le_of_ble_eq_true rfl) rfl dX12_count_125 (mm_rj hf)
  have hf := mm_if_f c17 hf
  by_cases c19 : a1 = 9
  · have hf := mm_if_t c19 hf
    refine me_tabIn (q := 126) C dX12_count_3 (by rw [c19]; decide) (by rw [c19]; decide) (by rw [c19]; rfl) (by decide) ?_
    refine me_aload_n (q := 127) C dX12_count_126 rfl rfl rfl ?_
    obtain ⟨k20, hf⟩ := mm_ck_some hf
    refine me_getI (q := 130) C dX12_count_127 mf_X12_298 rfl rfl k20 rfl ?_
    refine me_i2l (q := 131) C dX12_count_130 rfl ?_
    exact me_lret C hE (Nat.le_of_ble_eq_true rfl) (Nat.le_of_ble_eq_true rfl) rfl dX12_count_131 (mm_rj hf)
  have hf := mm_if_f c19 hf
  by_cases c21 : a1 = 10
  · have hf := mm_if_t c21 hf
    refine me_tabIn (q := 132) C dX12_count_3 (by rw [c21]; decide) (by rw [c21]; decide) (by rw [c21]; rfl) (by decide) ?_
    refine me_aload_n (q := 133) C dX12_count_132 rfl rfl rfl ?_
    obtain ⟨k22, hf⟩ := mm_ck_some hf
    refine me_getI (q := 136) C dX12_count_133 mf_X12_571 rfl rfl k22 rfl ?_
    refine me_i2l (q := 137) C dX12_count_136 rfl ?_
    exact me_lret C hE (Nat.le_of_ble_eq_true rfl) (Nat.le_of_ble_eq_true rfl) rfl dX12_count_137 (mm_rj hf)
  have hf := mm_if_f c21 hf
  by_cases c23 : a1 = 11
  · have hf := mm_if_t c23 hf
    refine me_tabIn (q := 138) C dX12_count_3 (by rw [c23]; decide) (by rw [c23]; decide) (by rw [c23]; rfl) (by decide) ?_
    refine me_aload_n (q := 139) C dX12_count_138 rfl rfl rfl ?_
    obtain ⟨k24, hf⟩ := mm_ck_some hf
    refine me_getR (q := 142) C dX12_count_139 mf_X12_248 rfl rfl k24 rfl ?_
    refine me_iconst (v := (0 : Int32)) (q := 143) C dX12_count_142 (by decide) rfl ?_
    obtain ⟨u25, eu25, hf⟩ := mm_rf_some hf
    obtain ⟨k26, hf⟩ := mm_ck_some hf
    obtain ⟨k27, hf⟩ := mm_ck_some hf
    refine me_iald (q := 144) C dX12_count_143 eu25 k26 k27 rfl ?_
    refine me_i2l (q := 145) C dX12_count_144 rfl ?_
    exact me_lret C hE (Nat.le_of_ble_eq_true rfl) (Nat.le_of_ble_eq_true rfl) rfl dX12_count_145 (mm_rj hf)
  have hf := mm_if_f c23 hf
  by_cases c28 : a1 = 12
  · have hf := mm_if_t c28 hf
    refine me_tabIn (q := 146) C dX12_count_3 (by rw [c28]; decide) (by rw [c28]; decide) (by rw [c28]; rfl) (by decide) ?_
    refine me_aload_n (q := 147) C dX12_count_146 rfl rfl rfl ?_
    obtain ⟨k29, hf⟩ := mm_ck_some hf
    refine me_getR (q := 150) C dX12_count_147 mf_X12_248 rfl rfl k29 rfl ?_
    refine me_iconst (v := (1 : Int32)) (q := 151) C dX12_count_150 (by decide) rfl ?_
    obtain ⟨u30, eu30, hf⟩ := mm_rf_some hf
    obtain ⟨k31, hf⟩ := mm_ck_some hf
    obtain ⟨k32, hf⟩ := mm_ck_some hf
    refine me_iald (q := 152) C dX12_count_151 eu30 k31 k32 rfl ?_
    refine me_i2l (q := 153) C dX12_count_152 rfl ?_
    exact me_lret C hE (Nat.le_of_ble_eq_true rfl) (Nat.le_of_ble_eq_true rfl) rfl dX12_count_153 (mm_rj hf)
  have hf := mm_if_f c28 hf
  by_cases c33 : a1 = 13
  · have hf := mm_if_t c33 hf
    refine me_tabIn (q := 154) C dX12_count_3 (by rw [c33]; decide) (by rw [c33]; decide) (by rw [c33]; rfl) (by decide) ?_
    refine me_iconst (v := (0 : Int32)) (q := 155) C dX12_count_154 (by decide) rfl ?_
    refine me_istore (q := 157) (lv2 := [some (vR (some a0)), some (vI a1), some (vJ (0 : Int64)), none, some (vI (0 : Int32))]) C dX12_count_155 (Nat.le_of_ble_eq_true rfl) rfl rfl rfl ?_
    refine me_mask [true, false, true, false, true] (lv2 := [some (vR (some a0)), none, some (vJ (0 : Int64)), none, some (vI (0 : Int32))]) rfl ?_
    refine cX12_count_L157 C hE _ _ _ _ _ hf ?_
    · intro z41 g42 hf
      refine me_iconst (v := (0 : Int32)) (q := 184) C dX12_count_183 (by decide) rfl ?_
      refine me_istore (q := 186) (lv2 := [some (vR (some a0)), none, some (vJ z41), none, some (vI (0 : Int32))]) C dX12_count_184 (Nat.le_of_ble_eq_true rfl) rfl rfl rfl ?_
      refine cX12_count_L186 C hE _ _ _ _ _ hf ?_
      · intro z50 g51 hf
        refine me_lload_n (q := 211) C dX12_count_210 rfl rfl rfl ?_
        exact me_lret C hE (Nat.le_of_ble_eq_true rfl) (Nat.le_of_ble_eq_true rfl) rfl dX12_count_211 (mm_rj hf)
  have hf := mm_if_f c33 hf
  refine me_tabOut (q := 212) C dX12_count_3 ?_ (by decide) ?_
  · by_cases hz : a1.toInt < 0 ∨ 13 < a1.toInt
    · exact hz
    · exfalso
      have hw : a1.toInt = 0 ∨ a1.toInt = 1 ∨ a1.toInt = 2 ∨ a1.toInt = 3 ∨ a1.toInt = 4 ∨ a1.toInt = 5 ∨ a1.toInt = 6 ∨ a1.toInt = 7 ∨ a1.toInt = 8 ∨ a1.toInt = 9 ∨ a1.toInt = 10 ∨ a1.toInt = 11 ∨ a1.toInt = 12 ∨ a1.toInt = 13 := by omega
      rcases hw with hw | hw | hw | hw | hw | hw | hw | hw | hw | hw | hw | hw | hw | hw
      · exact c1 (mm_sw hw)
      · exact c3 (mm_sw hw)
      · exact c5 (mm_sw hw)
      · exact c7 (mm_sw hw)
      · exact c9 (mm_sw hw)
      · exact c11 (mm_sw hw)
      · exact c13 (mm_sw hw)
      · exact c15 (mm_sw hw)
      · exact c17 (mm_sw hw)
      · exact c19 (mm_sw hw)
      · exact c21 (mm_sw hw)
      · exact c23 (mm_sw hw)
      · exact c28 (mm_sw hw)
      · exact c33 (mm_sw hw)
  · refine me_ldc2_w (v := (-1 : Int64)) (q := 215) C dX12_count_212 mc_X12_553 rfl ?_
    exact me_lret C hE (Nat.le_of_ble_eq_true rfl) (Nat.le_of_ble_eq_true rfl) rfl dX12_count_215 (mm_rj hf)
