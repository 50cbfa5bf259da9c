set_option maxRecDepth 100000 in
set_option maxHeartbeats 4000000 in
theorem cX11_order_L35 {X : mm_X} (C : mm_C X cX11_order yX11_order 4 1 8) {r : Int32} {h1 : mm_H} (hE : mm_End X 1 8 (some .boolean) (some (vI r)) h1) {b0 : Nat} {b1 : Int32} {b2 : Int64} {b4 : Int32} {b5 : Nat} (K94 : mm_H → Option (Int32 × mm_H)) : ∀ (n : Nat) (x6 : Int32) (x7 : Int32) (h : mm_H), fX11_order_L35 b0 b1 b2 b4 b5 K94 n x6 x7 h = some (r, h1) → (∀ (h : mm_H), K94 h = some (r, h1) → mm_E X h 1 8 94 [some (vR (some b0)), none, none, none, some (vI b4), some (vR (some b5)), none, none, none] []) → mm_E X h 1 8 35 [some (vR (some b0)), some (vI b1), some (vJ b2), none, some (vI b4), some (vR (some b5)), some (vI x6), some (vI x7), none] [] := by
  intro n
  induction n with
  | zero =>
    intro x6 x7 h hf
    exact absurd (show (none : Option (Int32 × mm_H)) = some (r, h1) from hf) (by simp)
  | succ n ih =>
    intro x6 x7 h hf hk94
    have hf : fX11_order_L35_b b0 b1 b2 b4 b5 K94 (fX11_order_L35 b0 b1 b2 b4 b5 K94 n) x6 x7 h = some (r, h1) := hf
    unfold fX11_order_L35_b at hf
    refine me_iload (q := 37) C dX11_order_35 rfl rfl ?_
    refine me_iload_n (q := 38) C dX11_order_37 rfl rfl rfl ?_
    refine me_icmp_ge (q2 := 94) (q := 41) C dX11_order_38 (by decide) rfl (fun c13 => ?_) (fun c13 => ?_)
    · have hf := mm_if_t c13 hf
      refine me_mask [true, false, false, false, true, true, false, false, false] (lv2 := [some (vR (some b0)), none, none, none, some (vI b4), some (vR (some b5)), none, none, none]) rfl ?_
      exact hk94 _ hf
    · have hf := mm_if_f c13 hf
      refine me_lload_n (q := 42) C dX11_order_41 rfl rfl rfl ?_
      refine me_iconst (v := (4 : Int32)) (q := 43) C dX11_order_42 (by decide) rfl ?_
      refine me_iload (q := 45) C dX11_order_43 rfl rfl ?_
      refine me_imul (q := 46) C dX11_order_45 rfl ?_
      refine me_lushr (q := 47) C dX11_order_46 rfl ?_
      refine me_l2i (q := 48) C dX11_order_47 rfl ?_
      refine me_bipush (v := (15 : Int32)) (q := 50) C dX11_order_48 (by decide) rfl ?_
      refine me_iand (q := 51) C dX11_order_50 rfl ?_
      obtain ⟨v14, ev14, hf⟩ := mm_lt_some hf
      refine me_topI ev14 ?_
      refine me_istore (q := 53) (lv2 := [some (vR (some b0)), some (vI b1), some (vJ b2), none, some (vI b4), some (vR (some b5)), some (vI x6), some (vI x7), some (vI v14)]) C dX11_order_51 (Nat.le_of_ble_eq_true rfl) rfl rfl rfl ?_
      refine me_iload (q := 55) C dX11_order_53 rfl rfl ?_
      refine me_bipush (v := (8 : Int32)) (q := 57) C dX11_order_55 (by decide) rfl ?_
      refine me_icmp_ge (q2 := 70) (q := 60) C dX11_order_57 (by decide) rfl (fun c15 => ?_) (fun c15 => ?_)
      · have hf := mm_if_t c15 hf
        refine me_iconst (v := (0 : Int32)) (q := 71) C dX11_order_70 (by decide) rfl ?_
        exact me_zret C hE (Nat.le_of_ble_eq_true rfl) (Nat.le_of_ble_eq_true rfl) rfl (Or.inl rfl) dX11_order_71 (mm_ri hf)
      · have hf := mm_if_f c15 hf
        refine me_iload (q := 62) C dX11_order_60 rfl rfl ?_
        refine me_iload (q := 64) C dX11_order_62 rfl rfl ?_
        refine me_ishr (q := 65) C dX11_order_64 rfl ?_
        refine me_iconst (v := (1 : Int32)) (q := 66) C dX11_order_65 (by decide) rfl ?_
        refine me_iand (q := 67) C dX11_order_66 rfl ?_
        refine me_if_eq (q2 := 72) (q := 70) C dX11_order_67 (by decide) rfl (fun c16 => ?_) (fun c16 => ?_)
        · have hf := mm_if_t c16 hf
          refine me_iload (q := 74) C dX11_order_72 rfl rfl ?_
          refine me_iconst (v := (1 : Int32)) (q := 75) C dX11_order_74 (by decide) rfl ?_
          refine me_iload (q := 77) C dX11_order_75 rfl rfl ?_
          refine me_ishl (q := 78) C dX11_order_77 rfl ?_
          refine me_ior (q := 79) C dX11_order_78 rfl ?_
          obtain ⟨v17, ev17, hf⟩ := mm_lt_some hf
          refine me_topI ev17 ?_
          refine me_istore (q := 81) (lv2 := [some (vR (some b0)), some (vI b1), some (vJ b2), none, some (vI b4), some (vR (some b5)), some (vI v17), some (vI x7), some (vI v14)]) C dX11_order_79 (Nat.le_of_ble_eq_true rfl) rfl rfl rfl ?_
          refine me_aload (q := 83) C dX11_order_81 rfl rfl ?_
          refine me_iload (q := 85) C dX11_order_83 rfl rfl ?_
          refine me_iload (q := 87) C dX11_order_85 rfl rfl ?_
          obtain ⟨k18, hf⟩ := mm_ck_some hf
          obtain ⟨k19, hf⟩ := mm_ck_some hf
          obtain ⟨g20, eg20, hf⟩ := mm_lt_some hf
          refine me_iastH (q := 88) C eg20 dX11_order_87 rfl k18 k19 rfl ?_
          obtain ⟨v21, ev21, hf⟩ := mm_lt_some hf
          refine me_iinc (q := 91) (v := v21) (lv2 := [some (vR (some b0)), some (vI b1), some (vJ b2), none, some (vI b4), some (vR (some b5)), some (vI v17), some (vI v21), some (vI v14)]) C dX11_order_88 rfl (by rw [ev21]; rfl) (Nat.le_of_ble_eq_true rfl) rfl rfl rfl ?_
          refine me_goto (q := 35) C dX11_order_91 (by decide) ?_
          refine me_mask [true, true, true, false, true, true, true, true, false] (lv2 := [some (vR (some b0)), some (vI b1), some (vJ b2), none, some (vI b4), some (vR (some b5)), some (vI v17), some (vI v21), none]) rfl ?_
          exact ih _ _ _ hf hk94
        · have hf := mm_if_f c16 hf
          refine me_iconst (v := (0 : Int32)) (q := 71) C dX11_order_70 (by decide) rfl ?_
          exact me_zret C hE (Nat.le_of_ble_eq_true rfl) (Nat.le_of_ble_eq_true rfl) rfl (Or.inl rfl) dX11_order_71 (mm_ri hf)
set_option maxRecDepth 100000 in
set_option maxHeartbeats 4000000 in
theorem cX11_order_ok (l : Launch) {a0 : Nat} {a1 : Int32} {a2 : Int64} {a4 : Int32} {h : mm_H} {r : Int32} {h1 : mm_H} (hf : fX11_order a0 a1 a2 a4 h = some (r, h1)) : mm_M l yX11_order cX11_order 9 (some .boolean) 4 1 8 [vR (some a0), vI a1, vJ a2, vI a4] h (some (vI r)) h1 := by
  refine mm_enter (lv := [some (vR (some a0)), some (vI a1), some (vJ a2), none, some (vI a4), none, none, none, none]) (by decide) rfl (Nat.le_of_ble_eq_true rfl) ?_
  intro X hl C hE
  subst hl
  unfold fX11_order at hf
  refine me_iload_n (q := 1) C dX11_order_0 rfl rfl rfl ?_
  refine me_iconst (v := (1 : Int32)) (q := 2) C dX11_order_1 (by decide) rfl ?_
  refine me_bipush (v := (8 : Int32)) (q := 4) C dX11_order_2 (by decide) rfl ?_
  obtain ⟨v1, g2, e3, hf⟩ := mm_cl_some hf
  refine me_callS (q := 7) (c2 := 0) (s2 := 0) (st := []) C (cX11_within_ok _ e3) mt_X11_93 ms_X11_within dX11_order_4 rfl rfl rfl (Nat.le_of_ble_eq_true rfl) rfl (Nat.le_of_ble_eq_true rfl) rfl (Nat.le_of_ble_eq_true rfl) rfl rfl ?_
  refine me_if_eq (q2 := 22) (q := 10) C dX11_order_7 (by decide) rfl (fun c4 => ?_) (fun c4 => ?_)
  · have hf := mm_if_t c4 hf
    refine me_iconst (v := (0 : Int32)) (q := 23) C dX11_order_22 (by decide) rfl ?_
    exact me_zret C hE (Nat.le_of_ble_eq_true rfl) (Nat.le_of_ble_eq_true rfl) rfl (Or.inl rfl) dX11_order_23 (mm_ri hf)
  · have hf := mm_if_f c4 hf
    refine me_iload (q := 12) C dX11_order_10 rfl rfl ?_
    refine me_iconst (v := (1 : Int32)) (q := 13) C dX11_order_12 (by decide) rfl ?_
    refine me_sipush (v := (400 : Int32)) (q := 16) C dX11_order_13 (by decide) rfl ?_
    obtain ⟨v5, g6, e7, hf⟩ := mm_cl_some hf
    refine me_callS (q := 19) (c2 := 0) (s2 := 0) (st := []) C (cX11_within_ok _ e7) mt_X11_93 ms_X11_within dX11_order_16 rfl rfl rfl (Nat.le_of_ble_eq_true rfl) rfl (Nat.le_of_ble_eq_true rfl) rfl (Nat.le_of_ble_eq_true rfl) rfl rfl ?_
    refine me_if_ne (q2 := 24) (q := 22) C dX11_order_19 (by decide) rfl (fun c8 => ?_) (fun c8 => ?_)
    · have hf := mm_if_t c8 hf
      refine me_iload_n (q := 25) C dX11_order_24 rfl rfl rfl ?_
      obtain ⟨k9, hf⟩ := mm_ck_some hf
      obtain ⟨g10, eg10, hf⟩ := mm_lt_some hf
      obtain ⟨u11, eu11, hf⟩ := mm_lt_some hf
      refine me_newaI (q := 27) (B := 8) (c2 := 1) (s2 := 8) C eg10 dX11_order_25 ma_int k9 (Nat.le_of_ble_eq_true rfl) rfl (Nat.le_of_ble_eq_true rfl) rfl (Nat.le_of_ble_eq_true rfl) rfl ?_
      refine me_topR (congrArg some eu11) ?_
      have k12 : mm_kd g10 u11 = 14 := by rw [eu11]; exact mm_kN eg10
      refine me_astore (q := 29) (lv2 := [some (vR (some a0)), some (vI a1), some (vJ a2), none, some (vI a4), some (vR (some u11)), none, none, none]) C dX11_order_27 (Nat.le_of_ble_eq_true rfl) rfl rfl rfl ?_
      refine me_iconst (v := (0 : Int32)) (q := 30) C dX11_order_29 (by decide) rfl ?_
      refine me_istore (q := 32) (lv2 := [some (vR (some a0)), some (vI a1), some (vJ a2), none, some (vI a4), some (vR (some u11)), some (vI (0 : Int32)), none, none]) C dX11_order_30 (Nat.le_of_ble_eq_true rfl) rfl rfl rfl ?_
      refine me_iconst (v := (0 : Int32)) (q := 33) C dX11_order_32 (by decide) rfl ?_
      refine me_istore (q := 35) (lv2 := [some (vR (some a0)), some (vI a1), some (vJ a2), none, some (vI a4), some (vR (some u11)), some (vI (0 : Int32)), some (vI (0 : Int32)), none]) C dX11_order_33 (Nat.le_of_ble_eq_true rfl) rfl rfl rfl ?_
      refine cX11_order_L35 C hE _ _ _ _ _ hf ?_
      · intro g22 hf
        refine me_aload_n (q := 95) C dX11_order_94 rfl rfl rfl ?_
        refine me_aload (q := 97) C dX11_order_95 rfl rfl ?_
        obtain ⟨k23, hf⟩ := mm_ck_some hf
        obtain ⟨g24, eg24, hf⟩ := mm_lt_some hf
        refine me_putR (q := 100) C eg24 dX11_order_97 mf_X11_83 mp_X11_12_13 (Or.inr ⟨_, rfl⟩) rfl (by decide) rfl k23 rfl ?_
        refine me_aload_n (q := 101) C dX11_order_100 rfl rfl rfl ?_
        refine me_iload (q := 103) C dX11_order_101 rfl rfl ?_
        obtain ⟨g25, eg25, hf⟩ := mm_lt_some hf
        refine me_putI (q := 106) C eg25 dX11_order_103 mf_X11_86 mp_X11_12_14 rfl (by decide) rfl (mm_kR eg24 k23) rfl ?_
        refine me_iconst (v := (1 : Int32)) (q := 107) C dX11_order_106 (by decide) rfl ?_
        exact me_zret C hE (Nat.le_of_ble_eq_true rfl) (Nat.le_of_ble_eq_true rfl) rfl (Or.inr rfl) dX11_order_107 (mm_ri hf)
    · have hf := mm_if_f c8 hf
      refine me_iconst (v := (0 : Int32)) (q := 23) C dX11_order_22 (by decide) rfl ?_
      exact me_zret C hE (Nat.le_of_ble_eq_true rfl) (Nat.le_of_ble_eq_true rfl) rfl (Or.inl rfl) dX11_order_23 (mm_ri hf)
set_option maxRecDepth 100000 in
set_option maxHeartbeats 4000000 in
theorem cX11_elder_ok (l : Launch) {a0 : Nat} {a1 : Int32} {h : mm_H} {r : Int32} {h1 : mm_H} (hf : fX11_elder a0 a1 h = some (r, h1)) : mm_M l yX11_elder cX11_elder 2 (some .int) 12 0 0 [vR (some a0), vI a1] h (some (vI r)) h1 := by
  refine mm_enter (lv := [some (vR (some a0)), some (vI a1)]) (by decide) rfl (Nat.le_of_ble_eq_true rfl) ?_
  intro X hl C hE
  subst hl
  unfold fX11_elder at hf
  refine me_iload_n (q := 1) C dX11_elder_0 rfl rfl rfl ?_
  obtain ⟨v1, g2, e3, hf⟩ := mm_cl_some hf
  refine me_callS (q := 4) (c2 := 0) (s2 := 0) (st := []) C (cX11_isDay_ok _ e3) mt_X11_219 ms_X11_isDay dX11_elder_1 rfl rfl rfl (Nat.le_of_ble_eq_true rfl) rfl (Nat.le_of_ble_eq_true rfl) rfl (Nat.le_of_ble_eq_true rfl) rfl rfl ?_
  refine me_if_eq (q2 := 15) (q := 7) C dX11_elder_4 (by decide) rfl (fun c4 => ?_) (fun c4 => ?_)
  · have hf := mm_if_t c4 hf
    refine me_iconst (v := (-1 : Int32)) (q := 16) C dX11_elder_15 (by decide) rfl ?_
    exact me_iret C hE (Nat.le_of_ble_eq_true rfl) (Nat.le_of_ble_eq_true rfl) rfl dX11_elder_16 (mm_ri hf)
  · have hf := mm_if_f c4 hf
    refine me_aload_n (q := 8) C dX11_elder_7 rfl rfl rfl ?_
    refine me_iload_n (q := 9) C dX11_elder_8 rfl rfl rfl ?_
    obtain ⟨k5, hf⟩ := mm_ck_some hf
    obtain ⟨v6, g7, e8, hf⟩ := mm_cl_some hf
    refine me_callV (q := 12) (c2 := 0) (s2 := 0) (st := []) C (cX11_elderOn_ok _ e8) mt_X11_364 mv_X11_elderOn rfl (by decide) dX11_elder_9 rfl k5 rfl rfl rfl (Nat.le_of_ble_eq_true rfl) rfl (Nat.le_of_ble_eq_true rfl) rfl (Nat.le_of_ble_eq_true rfl) rfl rfl ?_
    refine me_goto (q := 16) C dX11_elder_12 (by decide) ?_
    exact me_iret C hE (Nat.le_of_ble_eq_true rfl) (Nat.le_of_ble_eq_true rfl) rfl dX11_elder_16 (mm_ri hf)
set_option maxRecDepth 100000 in
set_option maxHeartbeats 4000000 in
theorem cX11_ship_ok (l : Launch) {a0 : Nat} {a1 : Int32} {a2 : Int32} {a3 : Int32} {a4 : Int32} {h : mm_H} {r : Int32} {h1 : mm_H} (hf : fX11_ship a0 a1 a2 a3 a4 h = some (r, h1)) : mm_M l yX11_ship cX11_ship 5 (some .int) 4 0 0 [vR (some a0), vI a1, vI a2, vI a3, vI a4] h (some (vI r)) h1 := by
  refine mm_enter (lv := [some (vR (some a0)), some (vI a1), some (vI a2), some (vI a3), some (vI a4)]) (by decide) rfl (Nat.le_of_ble_eq_true rfl) ?_
  intro X hl C hE
  subst hl
  unfold fX11_ship at hf
  refine me_iload_n (q := 1) C dX11_ship_0 rfl rfl rfl ?_
  obtain ⟨v1, g2, e3, hf⟩ := mm_cl_some hf
  refine me_callS (q := 4) (c2 := 0) (s2 := 0) (st := []) C (cX11_isTown_ok _ e3) mt_X11_239 ms_X11_isTown dX11_ship_1 rfl rfl rfl (Nat.le_of_ble_eq_true rfl) rfl (Nat.le_of_ble_eq_true rfl) rfl (Nat.le_of_ble_eq_true rfl) rfl rfl ?_
  refine me_if_eq (q2 := 42) (q := 7) C dX11_ship_4 (by decide) rfl (fun c4 => ?_) (fun c4 => ?_)
  · have hf := mm_if_t c4 hf
    refine me_iconst (v := (-1 : Int32)) (q := 43) C dX11_ship_42 (by decide) rfl ?_
    exact me_iret C hE (Nat.le_of_ble_eq_true rfl) (Nat.le_of_ble_eq_true rfl) rfl dX11_ship_43 (mm_ri hf)
  · have hf := mm_if_f c4 hf
    refine me_iload_n (q := 8) C dX11_ship_7 rfl rfl rfl ?_
    refine me_aload_n (q := 9) C dX11_ship_8 rfl rfl rfl ?_
    obtain ⟨k5, hf⟩ := mm_ck_some hf
    refine me_getI (q := 12) C dX11_ship_9 mf_X11_75 rfl rfl k5 rfl ?_
    refine me_sipush (v := (3999 : Int32)) (q := 15) C dX11_ship_12 (by decide) rfl ?_
    obtain ⟨v6, g7, e8, hf⟩ := mm_cl_some hf
    refine me_callS (q := 18) (c2 := 0) (s2 := 0) (st := []) C (cX11_within_ok _ e8) mt_X11_93 ms_X11_within dX11_ship_15 rfl rfl rfl (Nat.le_of_ble_eq_true rfl) rfl (Nat.le_of_ble_eq_true rfl) rfl (Nat.le_of_ble_eq_true rfl) rfl rfl ?_
    refine me_if_eq (q2 := 42) (q := 21) C dX11_ship_18 (by decide) rfl (fun c9 => ?_) (fun c9 => ?_)
    · have hf := mm_if_t c9 hf
      refine me_iconst (v := (-1 : Int32)) (q := 43) C dX11_ship_42 (by decide) rfl ?_
      exact me_iret C hE (Nat.le_of_ble_eq_true rfl) (Nat.le_of_ble_eq_true rfl) rfl dX11_ship_43 (mm_ri hf)
    · have hf := mm_if_f c9 hf
      refine me_iload_n (q := 22) C dX11_ship_21 rfl rfl rfl ?_
      refine me_iconst (v := (1 : Int32)) (q := 23) C dX11_ship_22 (by decide) rfl ?_
      refine me_bipush (v := (99 : Int32)) (q := 25) C dX11_ship_23 (by decide) rfl ?_
      obtain ⟨v10, g11, e12, hf⟩ := mm_cl_some hf
      refine me_callS (q := 28) (c2 := 0) (s2 := 0) (st := []) C (cX11_within_ok _ e12) mt_X11_93 ms_X11_within dX11_ship_25 rfl rfl rfl (Nat.le_of_ble_eq_true rfl) rfl (Nat.le_of_ble_eq_true rfl) rfl (Nat.le_of_ble_eq_true rfl) rfl rfl ?_
      refine me_if_eq (q2 := 42) (q := 31) C dX11_ship_28 (by decide) rfl (fun c13 => ?_) (fun c13 => ?_)
      · have hf := mm_if_t c13 hf
        refine me_iconst (v := (-1 : Int32)) (q := 43) C dX11_ship_42 (by decide) rfl ?_
        exact me_iret C hE (Nat.le_of_ble_eq_true rfl) (Nat.le_of_ble_eq_true rfl) rfl dX11_ship_43 (mm_ri hf)
      · have hf := mm_if_f c13 hf
        refine me_iload (q := 33) C dX11_ship_31 rfl rfl ?_
        refine me_iconst (v := (1 : Int32)) (q := 34) C dX11_ship_33 (by decide) rfl ?_
        refine me_ldc (v := (1000000 : Int32)) (q := 36) C dX11_ship_34 mc_X11_97 rfl ?_
        obtain ⟨v14, g15, e16, hf⟩ := mm_cl_some hf
        refine me_callS (q := 39) (c2 := 0) (s2 := 0) (st := []) C (cX11_within_ok _ e16) mt_X11_93 ms_X11_within dX11_ship_36 rfl rfl rfl (Nat.le_of_ble_eq_true rfl) rfl (Nat.le_of_ble_eq_true rfl) rfl (Nat.le_of_ble_eq_true rfl) rfl rfl ?_
        refine me_if_ne (q2 := 44) (q := 42) C dX11_ship_39 (by decide) rfl (fun c17 => ?_) (fun c17 => ?_)
        · have hf := mm_if_t c17 hf
          refine me_aload_n (q := 45) C dX11_ship_44 rfl rfl rfl ?_
          obtain ⟨k18, hf⟩ := mm_ck_some hf
          refine me_getR (q := 48) C dX11_ship_45 mf_X11_50 rfl rfl k18 rfl ?_
          refine me_iload_n (q := 49) C dX11_ship_48 rfl rfl rfl ?_
          refine me_iload_n (q := 50) C dX11_ship_49 rfl rfl rfl ?_
          refine me_iload_n (q := 51) C dX11_ship_50 rfl rfl rfl ?_
          refine me_iload (q := 53) C dX11_ship_51 rfl rfl ?_
          obtain ⟨u19, eu19, hf⟩ := mm_rf_some hf
          obtain ⟨k20, hf⟩ := mm_ck_some hf
          obtain ⟨v21, g22, e23, hf⟩ := mm_cl_some hf
          refine me_callV (q := 56) (c2 := 0) (s2 := 0) (st := []) C (cX10_addShip_ok _ e23) mt_X11_367 mv_X10_addShip rfl (by decide) dX11_ship_53 eu19 k20 rfl rfl rfl (Nat.le_of_ble_eq_true rfl) rfl (Nat.le_of_ble_eq_true rfl) rfl (Nat.le_of_ble_eq_true rfl) rfl rfl ?_
          exact me_iret C hE (Nat.le_of_ble_eq_true rfl) (Nat.le_of_ble_eq_true rfl) rfl dX11_ship_56 (mm_ri hf)
        · have hf := mm_if_f c17 hf
          refine me_iconst (v := (-1 : Int32)) (q := 43) C dX11_ship_42 (by decide) rfl ?_
          exact me_iret C hE (Nat.le_of_ble_eq_true rfl) (Nat.le_of_ble_eq_true rfl) rfl dX11_ship_43 (mm_ri hf)
set_option maxRecDepth 100000 in
set_option maxHeartbeats 4000000 in
theorem cX11_news_ok (l : Launch) {a0 : Nat} {a1 : Int32} {a2 : Int32} {a3 : Int32} {a4 : Int32} {h : mm_H} {r : Int32} {h1 : mm_H} (hf : fX11_news a0 a1 a2 a3 a4 h = some (r, h1)) : mm_M l yX11_news cX11_news 5 (some .int) 4 0 0 [vR (some a0), vI a1, vI a2, vI a3, vI a4] h (some (vI r)) h1 := by
  refine mm_enter (lv := [some (vR (some a0)), some (vI a1), some (vI a2), some (vI a3), some (vI a4)]) (by decide) rfl (Nat.le_of_ble_eq_true rfl) ?_
  intro X hl C hE
  subst hl
  unfold fX11_news at hf
  refine me_iload_n (q := 1) C dX11_news_0 rfl rfl rfl ?_
  refine me_iconst (v := (0 : Int32)) (q := 2) C dX11_news_1 (by decide) rfl ?_
  refine me_bipush (v := (8 : Int32)) (q := 4) C dX11_news_2 (by decide) rfl ?_
  obtain ⟨v1, g2, e3, hf⟩ := mm_cl_some hf
  refine me_callS (q := 7) (c2 := 0) (s2 := 0) (st := []) C (cX11_within_ok _ e3) mt_X11_93 ms_X11_within dX11_news_4 rfl rfl rfl (Nat.le_of_ble_eq_true rfl) rfl (Nat.le_of_ble_eq_true rfl) rfl (Nat.le_of_ble_eq_true rfl) rfl rfl ?_
  refine me_if_eq (q2 := 17) (q := 10) C dX11_news_7 (by decide) rfl (fun c4 => ?_) (fun c4 => ?_)
  · have hf := mm_if_t c4 hf
    refine me_iconst (v := (-1 : Int32)) (q := 18) C dX11_news_17 (by decide) rfl ?_
    exact me_iret C hE (Nat.le_of_ble_eq_true rfl) (Nat.le_of_ble_eq_true rfl) rfl dX11_news_18 (mm_ri hf)
  · have hf := mm_if_f c4 hf
    refine me_iload_n (q := 11) C dX11_news_10 rfl rfl rfl ?_
    obtain ⟨v5, g6, e7, hf⟩ := mm_cl_some hf
    refine me_callS (q := 14) (c2 := 0) (s2 := 0) (st := []) C (cX11_isKind_ok _ e7) mt_X11_325 ms_X11_isKind dX11_news_11 rfl rfl rfl (Nat.le_of_ble_eq_true rfl) rfl (Nat.le_of_ble_eq_true rfl) rfl (Nat.le_of_ble_eq_true rfl) rfl rfl ?_
    refine me_if_ne (q2 := 19) (q := 17) C dX11_news_14 (by decide) rfl (fun c8 => ?_) (fun c8 => ?_)
    · have hf := mm_if_t c8 hf
      refine me_iload_n (q := 20) C dX11_news_19 rfl rfl rfl ?_
      refine me_iconst (v := (0 : Int32)) (q := 21) C dX11_news_20 (by decide) rfl ?_
      refine me_sipush (v := (9999 : Int32)) (q := 24) C dX11_news_21 (by decide) rfl ?_
      obtain ⟨v9, g10, e11, hf⟩ := mm_cl_some hf
      refine me_callS (q := 27) (c2 := 0) (s2 := 0) (st := []) C (cX11_within_ok _ e11) mt_X11_93 ms_X11_within dX11_news_24 rfl rfl rfl (Nat.le_of_ble_eq_true rfl) rfl (Nat.le_of_ble_eq_true rfl) rfl (Nat.le_of_ble_eq_true rfl) rfl rfl ?_
      refine me_if_eq (q2 := 42) (q := 30) C dX11_news_27 (by decide) rfl (fun c12 => ?_) (fun c12 => ?_)
      · have hf := mm_if_t c12 hf
        refine me_iconst (v := (-1 : Int32)) (q := 43) C dX11_news_42 (by decide) rfl ?_
        exact me_iret C hE (Nat.le_of_ble_eq_true rfl) (Nat.le_of_ble_eq_true rfl) rfl dX11_news_43 (mm_ri hf)
      · have hf := mm_if_f c12 hf
        refine me_iload (q := 32) C dX11_news_30 rfl rfl ?_
        refine me_iload_n (q := 33) C dX11_news_32 rfl rfl rfl ?_
        refine me_sipush (v := (9999 : Int32)) (q := 36) C dX11_news_33 (by decide) rfl ?_
        obtain ⟨v13, g14, e15, hf⟩ := mm_cl_some hf
        refine me_callS (q := 39) (c2 := 0) (s2 := 0) (st := []) C (cX11_within_ok _ e15) mt_X11_93 ms_X11_within dX11_news_36 rfl rfl rfl (Nat.le_of_ble_eq_true rfl) rfl (Nat.le_of_ble_eq_true rfl) rfl (Nat.le_of_ble_eq_true rfl) rfl rfl ?_
        refine me_if_ne (q2 := 44) (q := 42) C dX11_news_39 (by decide) rfl (fun c16 => ?_) (fun c16 => ?_)
        · have hf := mm_if_t c16 hf
          refine me_aload_n (q := 45) C dX11_news_44 rfl rfl rfl ?_
          obtain ⟨k17, hf⟩ := mm_ck_some hf
          refine me_getR (q := 48) C dX11_news_45 mf_X11_50 rfl rfl k17 rfl ?_
          refine me_iload_n (q := 49) C dX11_news_48 rfl rfl rfl ?_
          refine me_iload_n (q := 50) C dX11_news_49 rfl rfl rfl ?_
          refine me_iload_n (q := 51) C dX11_news_50 rfl rfl rfl ?_
          refine me_iload (q := 53) C dX11_news_51 rfl rfl ?_
          refine me_aload_n (q := 54) C dX11_news_53 rfl rfl rfl ?_
          refine me_getI (q := 57) C dX11_news_54 mf_X11_75 rfl rfl k17 rfl ?_
          obtain ⟨u18, eu18, hf⟩ := mm_rf_some hf
          obtain ⟨k19, hf⟩ := mm_ck_some hf
          obtain ⟨v20, g21, e22, hf⟩ := mm_cl_some hf
          refine me_callV (q := 60) (c2 := 0) (s2 := 0) (st := []) C (cX10_addNews_ok _ e22) mt_X11_370 mv_X10_addNews rfl (by decide) dX11_news_57 eu18 k19 rfl rfl rfl (Nat.le_of_ble_eq_true rfl) rfl (Nat.le_of_ble_eq_true rfl) rfl (Nat.le_of_ble_eq_true rfl) rfl rfl ?_
          exact me_iret C hE (Nat.le_of_ble_eq_true rfl) (Nat.le_of_ble_eq_true rfl) rfl dX11_news_60 (mm_ri hf)
        · have hf := mm_if_f c16 hf
          refine me_iconst (v := (-1 : Int32)) (q := 43) C dX11_news_42 (by decide) rfl ?_
          exact me_iret C hE (Nat.le_of_ble_eq_true rfl) (Nat.le_of_ble_eq_true rfl) rfl dX11_news_43 (mm_ri hf)
    · have hf := mm_if_f c8 hf
      refine me_iconst (v := (-1 : Int32)) (q := 18) C dX11_news_17 (by decide) rfl ?_
      exact me_iret C hE (Nat.le_of_ble_eq_true rfl) (Nat.le_of_ble_eq_true rfl) rfl dX11_news_18 (mm_ri hf)
set_option maxRecDepth 100000 in
set_option maxHeartbeats 4000000 in
theorem cX11_price_ok (l : Launch) {a0 : Nat} {a1 : Int32} {a2 : Int32} {a3 : Int32} {a4 : Int32} {h : mm_H} {r : Int32} {h1 : mm_H} (hf : fX11_price a0 a1 a2 a3 a4 h = some (r, h1)) : mm_M l yX11_price cX11_price 5 (some .int) 6 0 0 [vR (some a0), vI a1, vI a2, vI a3, vI a4] h (some (vI r)) h1 := by
  refine mm_enter (lv := [some (vR (some a0)), some (vI a1), some (vI a2), some (vI a3), some (vI a4)]) (by decide) rfl (Nat.le_of_ble_eq_true rfl) ?_
  intro X hl C hE
  subst hl
  unfold fX11_price at hf
  refine me_iload_n (q := 1) C dX11_price_0 rfl rfl rfl ?_
  refine me_iconst (v := (0 : Int32)) (q := 2) C dX11_price_1 (by decide) rfl ?_
  refine me_bipush (v := (8 : Int32)) (q := 4) C dX11_price_2 (by decide) rfl ?_
  obtain ⟨v1, g2, e3, hf⟩ := mm_cl_some hf
  refine me_callS (q := 7) (c2 := 0) (s2 := 0) (st := []) C (cX11_within_ok _ e3) mt_X11_93 ms_X11_within dX11_price_4 rfl rfl rfl (Nat.le_of_ble_eq_true rfl) rfl (Nat.le_of_ble_eq_true rfl) rfl (Nat.le_of_ble_eq_true rfl) rfl rfl ?_
  refine me_if_eq (q2 := 34) (q := 10) C dX11_price_7 (by decide) rfl (fun c4 => ?_) (fun c4 => ?_)
  · have hf := mm_if_t c4 hf
    refine me_iconst (v := (-1 : Int32)) (q := 35) C dX11_price_34 (by decide) rfl ?_
    exact me_iret C hE (Nat.le_of_ble_eq_true rfl) (Nat.le_of_ble_eq_true rfl) rfl dX11_price_35 (mm_ri hf)
  · have hf := mm_if_f c4 hf
    refine me_iload_n (q := 11) C dX11_price_10 rfl rfl rfl ?_
    obtain ⟨v5, g6, e7, hf⟩ := mm_cl_some hf
    refine me_callS (q := 14) (c2 := 0) (s2 := 0) (st := []) C (cX11_isKind_ok _ e7) mt_X11_325 ms_X11_isKind dX11_price_11 rfl rfl rfl (Nat.le_of_ble_eq_true rfl) rfl (Nat.le_of_ble_eq_true rfl) rfl (Nat.le_of_ble_eq_true rfl) rfl rfl ?_
    refine me_if_eq (q2 := 34) (q := 17) C dX11_price_14 (by decide) rfl (fun c8 => ?_) (fun c8 => ?_)
    · have hf := mm_if_t c8 hf
      refine me_iconst (v := (-1 : Int32)) (q := 35) C dX11_price_34 (by decide) rfl ?_
      exact me_iret C hE (Nat.le_of_ble_eq_true rfl) (Nat.le_of_ble_eq_true rfl) rfl dX11_price_35 (mm_ri hf)
    · have hf := mm_if_f c8 hf
      refine me_iload_n (q := 18) C dX11_price_17 rfl rfl rfl ?_
      obtain ⟨v9, g10, e11, hf⟩ := mm_cl_some hf
      refine me_callS (q := 21) (c2 := 0) (s2 := 0) (st := []) C (cX11_isDay_ok _ e11) mt_X11_219 ms_X11_isDay dX11_price_18 rfl rfl rfl (Nat.le_of_ble_eq_true rfl) rfl (Nat.le_of_ble_eq_true rfl) rfl (Nat.le_of_ble_eq_true rfl) rfl rfl ?_
      refine me_if_eq (q2 := 34) (q := 24) C dX11_price_21 (by decide) rfl (fun c12 => ?_) (fun c12 => ?_)
      · have hf := mm_if_t c12 hf
        refine me_iconst (v := (-1 : Int32)) (q := 35) C dX11_price_34 (by decide) rfl ?_
        exact me_iret C hE (Nat.le_of_ble_eq_true rfl) (Nat.le_of_ble_eq_true rfl) rfl dX11_price_35 (mm_ri hf)
      · have hf := mm_if_f c12 hf
        refine me_iload (q := 26) C dX11_price_24 rfl rfl ?_
        refine me_iconst (v := (0 : Int32)) (q := 27) C dX11_price_26 (by decide) rfl ?_
        refine me_iconst (v := (1 : Int32)) (q := 28) C dX11_price_27 (by decide) rfl ?_
        obtain ⟨v13, g14, e15, hf⟩ := mm_cl_some hf
        refine me_callS (q := 31) (c2 := 0) (s2 := 0) (st := []) C (cX11_within_ok _ e15) mt_X11_93 ms_X11_within dX11_price_28 rfl rfl rfl (Nat.le_of_ble_eq_true rfl) rfl (Nat.le_of_ble_eq_true rfl) rfl (Nat.le_of_ble_eq_true rfl) rfl rfl ?_
        refine me_if_ne (q2 := 36) (q := 34) C dX11_price_31 (by decide) rfl (fun c16 => ?_) (fun c16 => ?_)
        · have hf := mm_if_t c16 hf
          refine me_iload (q := 38) C dX11_price_36 rfl rfl ?_
          refine me_if_ne (q2 := 54) (q := 41) C dX11_price_38 (by decide) rfl (fun c17 => ?_) (fun c17 => ?_)
          · have hf := mm_if_t c17 hf
            refine me_aload_n (q := 55) C dX11_price_54 rfl rfl rfl ?_
            obtain ⟨k18, hf⟩ := mm_ck_some hf
            refine me_getR (q := 58) C dX11_price_55 mf_X11_50 rfl rfl k18 rfl ?_
            refine me_iload_n (q := 59) C dX11_price_58 rfl rfl rfl ?_
            refine me_iload_n (q := 60) C dX11_price_59 rfl rfl rfl ?_
            refine me_iload_n (q := 61) C dX11_price_60 rfl rfl rfl ?_
            obtain ⟨u19, eu19, hf⟩ := mm_rf_some hf
            obtain ⟨k20, hf⟩ := mm_ck_some hf
            obtain ⟨v21, g22, e23, hf⟩ := mm_cl_some hf
            refine me_callV (q := 64) (c2 := 0) (s2 := 0) (st := []) C (cX10_highPrice_ok _ e23) mt_X11_377 mv_X10_highPrice rfl (by decide) dX11_price_61 eu19 k20 rfl rfl rfl (Nat.le_of_ble_eq_true rfl) rfl (Nat.le_of_ble_eq_true rfl) rfl (Nat.le_of_ble_eq_true rfl) rfl rfl ?_
            exact me_iret C hE (Nat.le_of_ble_eq_true rfl) (Nat.le_of_ble_eq_true rfl) rfl dX11_price_64 (mm_ri hf)
          · have hf := mm_if_f c17 hf
            refine me_aload_n (q := 42) C dX11_price_41 rfl rfl rfl ?_
            obtain ⟨k24, hf⟩ := mm_ck_some hf
            refine me_getR (q := 45) C dX11_price_42 mf_X11_50 rfl rfl k24 rfl ?_
            refine me_iload_n (q := 46) C dX11_price_45 rfl rfl rfl ?_
            refine me_iload_n (q := 47) C dX11_price_46 rfl rfl rfl ?_
            refine me_iload_n (q := 48) C dX11_price_47 rfl rfl rfl ?_
            obtain ⟨u25, eu25, hf⟩ := mm_rf_some hf
            obtain ⟨k26, hf⟩ := mm_ck_some hf
            obtain ⟨v27, g28, e29, hf⟩ := mm_cl_some hf
            refine me_callV (q := 51) (c2 := 0) (s2 := 0) (st := []) C (cX10_lowPrice_ok _ e29) mt_X11_374 mv_X10_lowPrice rfl (by decide) dX11_price_48 eu25 k26 rfl rfl rfl (Nat.le_of_ble_eq_true rfl) rfl (Nat.le_of_ble_eq_true rfl) rfl (Nat.le_of_ble_eq_true rfl) rfl rfl ?_
            refine me_goto (q := 64) C dX11_price_51 (by decide) ?_
            exact me_iret C hE (Nat.le_of_ble_eq_true rfl) (Nat.le_of_ble_eq_true rfl) rfl dX11_price_64 (mm_ri hf)
        · have hf := mm_if_f c16 hf
          refine me_iconst (v := (-1 : Int32)) (q := 35) C dX11_price_34 (by decide) rfl ?_
          exact me_iret C hE (Nat.le_of_ble_eq_true rfl) (Nat.le_of_ble_eq_true rfl) rfl dX11_price_35 (mm_ri hf)
set_option maxRecDepth 100000 in
set_option maxHeartbeats 4000000 in
theorem cX11_tellPlannerPrices_L38 {X : mm_X} (C : mm_C X cX11_tellPlannerPrices yX11_tellPlannerPrices 8 0 0) {r : Unit} {h1 : mm_H} (hE : mm_End X 0 0 none none h1) {b0 : Nat} {b1 : Int32} {b2 : Int32} (K111 : mm_H → Option (Unit × mm_H)) : ∀ (n : Nat) (x3 : Int32) (h : mm_H), fX11_tellPlannerPrices_L38 b0 b1 b2 K111 n x3 h = some (r, h1) → (∀ (h : mm_H), K111 h = some (r, h1) → mm_E X h 0 0 111 [some (vR (some b0)), some (vI b1), some (vI b2), none, none] []) → mm_E X h 0 0 38 [some (vR (some b0)), some (vI b1), some (vI b2), some (vI x3), none] [] := by
  intro n
  induction n with
  | zero =>
    intro x3 h hf
    exact absurd (show (none : Option (Unit × mm_H)) = some (r, h1) from hf) (by simp)
  | succ n ih =>
    intro x3 h hf hk111
    have hf : fX11_tellPlannerPrices_L38_b b0 b1 b2 K111 (fX11_tellPlannerPrices_L38 b0 b1 b2 K111 n) x3 h = some (r, h1) := hf
    unfold fX11_tellPlannerPrices_L38_b at hf
    refine me_iload_n (q := 39) C dX11_tellPlannerPrices_38 rfl rfl rfl ?_
    refine me_aload_n (q := 40) C dX11_tellPlannerPrices_39 rfl rfl rfl ?_
    obtain ⟨k16, hf⟩ := mm_ck_some hf
    refine me_getR (q := 43) C dX11_tellPlannerPrices_40 mf_X11_57 rfl rfl k16 rfl ?_
    obtain ⟨u17, eu17, hf⟩ := mm_rf_some hf
    obtain ⟨k18, hf⟩ := mm_ck_some hf
    refine me_getI (q := 46) C dX11_tellPlannerPrices_43 mf_X11_411 rfl eu17 k18 rfl ?_
    refine me_icmp_ge (q2 := 111) (q := 49) C dX11_tellPlannerPrices_46 (by decide) rfl (fun c19 => ?_) (fun c19 => ?_)
    · have hf := mm_if_t c19 hf
      refine me_mask [true, true, true, false, false] (lv2 := [some (vR (some b0)), some (vI b1), some (vI b2), none, none]) rfl ?_
      exact hk111 _ hf
    · have hf := mm_if_f c19 hf
      refine me_aload_n (q := 50) C dX11_tellPlannerPrices_49 rfl rfl rfl ?_
      refine me_getR (q := 53) C dX11_tellPlannerPrices_50 mf_X11_50 rfl rfl k16 rfl ?_
      obtain ⟨u20, eu20, hf⟩ := mm_rf_some hf
      obtain ⟨k21, hf⟩ := mm_ck_some hf
      refine me_getR (q := 56) C dX11_tellPlannerPrices_53 mf_X11_430 rfl eu20 k21 rfl ?_
      refine me_aload_n (q := 57) C dX11_tellPlannerPrices_56 rfl rfl rfl ?_
      refine me_getR (q := 60) C dX11_tellPlannerPrices_57 mf_X11_57 rfl rfl k16 rfl ?_
      refine me_getR (q := 63) C dX11_tellPlannerPrices_60 mf_X11_523 rfl eu17 k18 rfl ?_
      refine me_iload_n (q := 64) C dX11_tellPlannerPrices_63 rfl rfl rfl ?_
      obtain ⟨u22, eu22, hf⟩ := mm_rf_some hf
      obtain ⟨k23, hf⟩ := mm_ck_some hf
      obtain ⟨k24, hf⟩ := mm_ck_some hf
      refine me_iald (q := 65) C dX11_tellPlannerPrices_64 eu22 k23 k24 rfl ?_
      obtain ⟨u25, eu25, hf⟩ := mm_rf_some hf
      obtain ⟨k26, hf⟩ := mm_ck_some hf
      obtain ⟨k27, hf⟩ := mm_ck_some hf
      refine me_iald (q := 66) C dX11_tellPlannerPrices_65 eu25 k26 k27 rfl ?_
      obtain ⟨v28, ev28, hf⟩ := mm_lt_some hf
      refine me_topI ev28 ?_
      refine me_istore (q := 68) (lv2 := [some (vR (some b0)), some (vI b1), some (vI b2), some (vI x3), some (vI v28)]) C dX11_tellPlannerPrices_66 (Nat.le_of_ble_eq_true rfl) rfl rfl rfl ?_
      refine me_aload_n (q := 69) C dX11_tellPlannerPrices_68 rfl rfl rfl ?_
      refine me_getR (q := 72) C dX11_tellPlannerPrices_69 mf_X11_57 rfl rfl k16 rfl ?_
      refine me_iload_n (q := 73) C dX11_tellPlannerPrices_72 rfl rfl rfl ?_
      refine me_iload_n (q := 74) C dX11_tellPlannerPrices_73 rfl rfl rfl ?_
      refine me_aload_n (q := 75) C dX11_tellPlannerPrices_74 rfl rfl rfl ?_
      refine me_getR (q := 78) C dX11_tellPlannerPrices_75 mf_X11_50 rfl rfl k16 rfl ?_
      refine me_iload (q := 80) C dX11_tellPlannerPrices_78 rfl rfl ?_
      refine me_iload_n (q := 81) C dX11_tellPlannerPrices_80 rfl rfl rfl ?_
      refine me_aload_n (q := 82) C dX11_tellPlannerPrices_81 rfl rfl rfl ?_
      refine me_getI (q := 85) C dX11_tellPlannerPrices_82 mf_X11_75 rfl rfl k16 rfl ?_
      obtain ⟨v29, g30, e31, hf⟩ := mm_cl_some hf
      refine me_callV (q := 88) (c2 := 0) (s2 := 0) (st := [vI x3, vI b1, vR (mm_r h b0 8)]) C (cX10_lowPrice_ok _ e31) mt_X11_374 mv_X10_lowPrice rfl (by decide) dX11_tellPlannerPrices_85 eu20 k21 rfl rfl rfl (Nat.le_of_ble_eq_true rfl) rfl (Nat.le_of_ble_eq_true rfl) rfl (Nat.le_of_ble_eq_true rfl) rfl rfl ?_
      refine me_aload_n (q := 89) C dX11_tellPlannerPrices_88 rfl rfl rfl ?_
      obtain ⟨k32, hf⟩ := mm_ck_some hf
      refine me_getR (q := 92) C dX11_tellPlannerPrices_89 mf_X11_50 rfl rfl k32 rfl ?_
      refine me_iload (q := 94) C dX11_tellPlannerPrices_92 rfl rfl ?_
      refine me_iload_n (q := 95) C dX11_tellPlannerPrices_94 rfl rfl rfl ?_
      refine me_aload_n (q := 96) C dX11_tellPlannerPrices_95 rfl rfl rfl ?_
      refine me_getI (q := 99) C dX11_tellPlannerPrices_96 mf_X11_75 rfl rfl k32 rfl ?_
      obtain ⟨u33, eu33, hf⟩ := mm_rf_some hf
      obtain ⟨k34, hf⟩ := mm_ck_some hf
      obtain ⟨v35, g36, e37, hf⟩ := mm_cl_some hf
      refine me_callV (q := 102) (c2 := 0) (s2 := 0) (st := [vI v29, vI x3, vI b1, vR (mm_r h b0 8)]) C (cX10_highPrice_ok _ e37) mt_X11_377 mv_X10_highPrice rfl (by decide) dX11_tellPlannerPrices_99 eu33 k34 rfl rfl rfl (Nat.le_of_ble_eq_true rfl) rfl (Nat.le_of_ble_eq_true rfl) rfl (Nat.le_of_ble_eq_true rfl) rfl rfl ?_
      obtain ⟨k38, hf⟩ := mm_ck_some hf
      obtain ⟨_, g39, e40, hf⟩ := mm_cl_some hf
      refine me_callV (q := 105) (c2 := 0) (s2 := 0) (st := []) C (cX9_setPrices_ok _ e40) mt_X11_526 mv_X9_setPrices rfl (by decide) dX11_tellPlannerPrices_102 eu17 k38 rfl rfl rfl (Nat.le_of_ble_eq_true rfl) rfl (Nat.le_of_ble_eq_true rfl) rfl (Nat.le_of_ble_eq_true rfl) rfl rfl ?_
      obtain ⟨v41, ev41, hf⟩ := mm_lt_some hf
      refine me_iinc (q := 108) (v := v41) (lv2 := [some (vR (some b0)), some (vI b1), some (vI b2), some (vI v41), some (vI v28)]) C dX11_tellPlannerPrices_105 rfl (by rw [ev41]; rfl) (Nat.le_of_ble_eq_true rfl) rfl rfl rfl ?_
      refine me_goto (q := 38) C dX11_tellPlannerPrices_108 (by decide) ?_
      refine me_mask [true, true, true, true, false] (lv2 := [some (vR (some b0)), some (vI b1), some (vI b2), some (vI v41), none]) rfl ?_
      exact ih _ _ hf hk111
set_option maxRecDepth 100000 in
set_option maxHeartbeats 4000000 in
theorem cX11_tellPlannerPrices_L2 {X : mm_X} (C : mm_C X cX11_tellPlannerPrices yX11_tellPlannerPrices 8 0 0) {r : Unit} {h1 : mm_H} (hE : mm_End X 0 0 none none h1) {b0 : Nat} (K156 : mm_H → Option (Unit × mm_H)) : ∀ (n : Nat) (x1 : Int32) (h : mm_H), fX11_tellPlannerPrices_L2 b0 K156 n x1 h = some (r, h1) → (∀ (h : mm_H), K156 h = some (r, h1) → mm_E X h 0 0 156 [none, none, none, none, none] []) → mm_E X h 0 0 2 [some (vR (some b0)), some (vI x1), none, none, none] [] := by
  intro n
  induction n with
  | zero =>
    intro x1 h hf
    exact absurd (show (none : Option (Unit × mm_H)) = some (r, h1) from hf) (by simp)
  | succ n ih =>
    intro x1 h hf hk156
    have hf : fX11_tellPlannerPrices_L2_b b0 K156 (fX11_tellPlannerPrices_L2 b0 K156 n) x1 h = some (r, h1) := hf
    unfold fX11_tellPlannerPrices_L2_b at hf
    refine me_iload_n (q := 3) C dX11_tellPlannerPrices_2 rfl rfl rfl ?_
    refine me_aload_n (q := 4) C dX11_tellPlannerPrices_3 rfl rfl rfl ?_
    obtain ⟨k1, hf⟩ := mm_ck_some hf
    refine me_getR (q := 7) C dX11_tellPlannerPrices_4 mf_X11_57 rfl rfl k1 rfl ?_
    obtain ⟨u2, eu2, hf⟩ := mm_rf_some hf
    obtain ⟨k3, hf⟩ := mm_ck_some hf
    refine me_getI (q := 10) C dX11_tellPlannerPrices_7 mf_X11_408 rfl eu2 k3 rfl ?_
    refine me_icmp_ge (q2 := 156) (q := 13) C dX11_tellPlannerPrices_10 (by decide) rfl (fun c4 => ?_) (fun c4 => ?_)
    · have hf := mm_if_t c4 hf
      refine me_mask [false, false, false, false, false] (lv2 := [none, none, none, none, none]) rfl ?_
      exact hk156 _ hf
    · have hf := mm_if_f c4 hf
      refine me_aload_n (q := 14) C dX11_tellPlannerPrices_13 rfl rfl rfl ?_
      refine me_getR (q := 17) C dX11_tellPlannerPrices_14 mf_X11_16 rfl rfl k1 rfl ?_
      refine me_aload_n (q := 18) C dX11_tellPlannerPrices_17 rfl rfl rfl ?_
      refine me_getR (q := 21) C dX11_tellPlannerPrices_18 mf_X11_57 rfl rfl k1 rfl ?_
      refine me_getR (q := 24) C dX11_tellPlannerPrices_21 mf_X11_414 rfl eu2 k3 rfl ?_
      refine me_iload_n (q := 25) C dX11_tellPlannerPrices_24 rfl rfl rfl ?_
      obtain ⟨u5, eu5, hf⟩ := mm_rf_some hf
      obtain ⟨k6, hf⟩ := mm_ck_some hf
      obtain ⟨k7, hf⟩ := mm_ck_some hf
      refine me_iald (q := 26) C dX11_tellPlannerPrices_25 eu5 k6 k7 rfl ?_
      obtain ⟨u8, eu8, hf⟩ := mm_rf_some hf
      obtain ⟨k9, hf⟩ := mm_ck_some hf
      obtain ⟨v10, g11, e12, hf⟩ := mm_cl_some hf
      refine me_callV (q := 29) (c2 := 0) (s2 := 0) (st := []) C (cJx4a65c_get_915e3_ok _ e12) mt_X11_151 mv_Jx4a65c_get_915e3 rfl (by decide) dX11_tellPlannerPrices_26 eu8 k9 rfl rfl rfl (Nat.le_of_ble_eq_true rfl) rfl (Nat.le_of_ble_eq_true rfl) rfl (Nat.le_of_ble_eq_true rfl) rfl rfl ?_
      obtain ⟨u13, eu13, hf⟩ := mm_rf_some hf
      obtain ⟨k14, hf⟩ := mm_ck_some hf
      refine me_cast (q := 32) C dX11_tellPlannerPrices_29 mk_X11_146 eu13 k14 rfl ?_
      refine me_getI (q := 35) C dX11_tellPlannerPrices_32 mf_X11_155 rfl eu13 k14 rfl ?_
      obtain ⟨v15, ev15, hf⟩ := mm_lt_some hf
      refine me_topI ev15 ?_
      refine me_istore_n (q := 36) (lv2 := [some (vR (some b0)), some (vI x1), some (vI v15), none, none]) C dX11_tellPlannerPrices_35 rfl (Nat.le_of_ble_eq_true rfl) rfl rfl rfl ?_
      refine me_iconst (v := (0 : Int32)) (q := 37) C dX11_tellPlannerPrices_36 (by decide) rfl ?_
      refine me_istore_n (q := 38) (lv2 := [some (vR (some b0)), some (vI x1), some (vI v15), some (vI (0 : Int32)), none]) C dX11_tellPlannerPrices_37 rfl (Nat.le_of_ble_eq_true rfl) rfl rfl rfl ?_
      refine cX11_tellPlannerPrices_L38 C hE _ _ _ _ hf ?_
      · intro g42 hf
        refine me_aload_n (q := 112) C dX11_tellPlannerPrices_111 rfl rfl rfl ?_
        obtain ⟨k43, hf⟩ := mm_ck_some hf
        refine me_getR (q := 115) C dX11_tellPlannerPrices_112 mf_X11_50 rfl rfl k43 rfl ?_
        refine me_bipush (v := (8 : Int32)) (q := 117) C dX11_tellPlannerPrices_115 (by decide) rfl ?_
        refine me_iload_n (q := 118) C dX11_tellPlannerPrices_117 rfl rfl rfl ?_
        refine me_aload_n (q := 119) C dX11_tellPlannerPrices_118 rfl rfl rfl ?_
        refine me_getI (q := 122) C dX11_tellPlannerPrices_119 mf_X11_75 rfl rfl k43 rfl ?_
        obtain ⟨u44, eu44, hf⟩ := mm_rf_some hf
        obtain ⟨k45, hf⟩ := mm_ck_some hf
        obtain ⟨v46, g47, e48, hf⟩ := mm_cl_some hf
        refine me_callV (q := 125) (c2 := 0) (s2 := 0) (st := []) C (cX10_lowPrice_ok _ e48) mt_X11_374 mv_X10_lowPrice rfl (by decide) dX11_tellPlannerPrices_122 eu44 k45 rfl rfl rfl (Nat.le_of_ble_eq_true rfl) rfl (Nat.le_of_ble_eq_true rfl) rfl (Nat.le_of_ble_eq_true rfl) rfl rfl ?_
        refine me_istore_n (q := 126) (lv2 := [some (vR (some b0)), some (vI x1), some (vI v15), some (vI v46), none]) C dX11_tellPlannerPrices_125 rfl (Nat.le_of_ble_eq_true rfl) rfl rfl rfl ?_
        refine me_aload_n (q := 127) C dX11_tellPlannerPrices_126 rfl rfl rfl ?_
        obtain ⟨k49, hf⟩ := mm_ck_some hf
        refine me_getR (q := 130) C dX11_tellPlannerPrices_127 mf_X11_57 rfl rfl k49 rfl ?_
        refine me_iload_n (q := 131) C dX11_tellPlannerPrices_130 rfl rfl rfl ?_
        refine me_iconst (v := (4 : Int32)) (q := 132) C dX11_tellPlannerPrices_131 (by decide) rfl ?_
        refine me_iload_n (q := 133) C dX11_tellPlannerPrices_132 rfl rfl rfl ?_
        refine me_aload_n (q := 134) C dX11_tellPlannerPrices_133 rfl rfl rfl ?_
        refine me_getR (q := 137) C dX11_tellPlannerPrices_134 mf_X11_50 rfl rfl k49 rfl ?_
        refine me_bipush (v := (8 : Int32)) (q := 139) C dX11_tellPlannerPrices_137 (by decide) rfl ?_
        refine me_iload_n (q := 140) C dX11_tellPlannerPrices_139 rfl rfl rfl ?_
        refine me_aload_n (q := 141) C dX11_tellPlannerPrices_140 rfl rfl rfl ?_
        refine me_getI (q := 144) C dX11_tellPlannerPrices_141 mf_X11_75 rfl rfl k49 rfl ?_
        obtain ⟨u50, eu50, hf⟩ := mm_rf_some hf
        obtain ⟨k51, hf⟩ := mm_ck_some hf
        obtain ⟨v52, g53, e54, hf⟩ := mm_cl_some hf
        refine me_callV (q := 147) (c2 := 0) (s2 := 0) (st := [vI v46, vI (4 : Int32), vI x1, vR (mm_r g47 b0 8)]) C (cX10_highPrice_ok _ e54) mt_X11_377 mv_X10_highPrice rfl (by decide) dX11_tellPlannerPrices_144 eu50 k51 rfl rfl rfl (Nat.le_of_ble_eq_true rfl) rfl (Nat.le_of_ble_eq_true rfl) rfl (Nat.le_of_ble_eq_true rfl) rfl rfl ?_
        obtain ⟨u55, eu55, hf⟩ := mm_rf_some hf
        obtain ⟨k56, hf⟩ := mm_ck_some hf
        obtain ⟨_, g57, e58, hf⟩ := mm_cl_some hf
        refine me_callV (q := 150) (c2 := 0) (s2 := 0) (st := []) C (cX9_setPrices_ok _ e58) mt_X11_526 mv_X9_setPrices rfl (by decide) dX11_tellPlannerPrices_147 eu55 k56 rfl rfl rfl (Nat.le_of_ble_eq_true rfl) rfl (Nat.le_of_ble_eq_true rfl) rfl (Nat.le_of_ble_eq_true rfl) rfl rfl ?_
        obtain ⟨v59, ev59, hf⟩ := mm_lt_some hf
        refine me_iinc (q := 153) (v := v59) (lv2 := [some (vR (some b0)), some (vI v59), some (vI v15), some (vI v46), none]) C dX11_tellPlannerPrices_150 rfl (by rw [ev59]; rfl) (Nat.le_of_ble_eq_true rfl) rfl rfl rfl ?_
        refine me_goto (q := 2) C dX11_tellPlannerPrices_153 (by decide) ?_
        refine me_mask [true, true, false, false, false] (lv2 := [some (vR (some b0)), some (vI v59), none, none, none]) rfl ?_
        exact ih _ _ hf hk156
set_option maxRecDepth 100000 in
set_option maxHeartbeats 4000000 in
theorem cX11_tellPlannerPrices_ok (l : Launch) {a0 : Nat} {h : mm_H} {r : Unit} {h1 : mm_H} (hf : fX11_tellPlannerPrices a0 h = some (r, h1)) : mm_M l yX11_tellPlannerPrices cX11_tellPlannerPrices 5 none 8 0 0 [vR (some a0)] h none h1 := by
  refine mm_enter (lv := [some (vR (some a0)), none, none, none, none]) (by decide) rfl (Nat.le_of_ble_eq_true rfl) ?_
  intro X hl C hE
  subst hl
  unfold fX11_tellPlannerPrices at hf
  refine me_iconst (v := (0 : Int32)) (q := 1) C dX11_tellPlannerPrices_0 (by decide) rfl ?_
  refine me_istore_n (q := 2) (lv2 := [some (vR (some a0)), some (vI (0 : Int32)), none, none, none]) C dX11_tellPlannerPrices_1 rfl (Nat.le_of_ble_eq_true rfl) rfl rfl rfl ?_
  refine cX11_tellPlannerPrices_L2 C hE _ _ _ _ hf ?_
  · intro g60 hf
    exact me_vret C hE (Nat.le_of_ble_eq_true rfl) (Nat.le_of_ble_eq_true rfl) rfl dX11_tellPlannerPrices_156 (mm_ru hf)
set_option maxRecDepth 100000 in
set_option maxHeartbeats 4000000 in
theorem cX11_plan_L21 {X : mm_X} (C : mm_C X cX11_plan yX11_plan 17 0 0) {r : Int64} {h1 : mm_H} (hE : mm_End X 0 0 (some .long) (some (vJ r)) h1) {b0 : Nat} {b1 : Int32} (K77 : mm_H → Option (Int64 × mm_H)) : ∀ (n : Nat) (x2 : Int32) (h : mm_H), fX11_plan_L21 b0 b1 K77 n x2 h = some (r, h1) → (∀ (h : mm_H), K77 h = some (r, h1) → mm_E X h 0 0 77 [some (vR (some b0)), none, none, none] []) → mm_E X h 0 0 21 [some (vR (some b0)), some (vI b1), some (vI x2), none] [] := by
  intro n
  induction n with
  | zero =>
    intro x2 h hf
    exact absurd (show (none : Option (Int64 × mm_H)) = some (r, h1) from hf) (by simp)
  | succ n ih =>
    intro x2 h hf hk77
    have hf : fX11_plan_L21_b b0 b1 K77 (fX11_plan_L21 b0 b1 K77 n) x2 h = some (r, h1) := hf
    unfold fX11_plan_L21_b at hf
    refine me_iload_n (q := 22) C dX11_plan_21 rfl rfl rfl ?_
    refine me_aload_n (q := 23) C dX11_plan_22 rfl rfl rfl ?_
    obtain ⟨k11, hf⟩ := mm_ck_some hf
    refine me_getR (q := 26) C dX11_plan_23 mf_X11_16 rfl rfl k11 rfl ?_
    obtain ⟨u12, eu12, hf⟩ := mm_rf_some hf
    obtain ⟨k13, hf⟩ := mm_ck_some hf
    obtain ⟨v14, g15, e16, hf⟩ := mm_cl_some hf
    refine me_callV (q := 29) (c2 := 0) (s2 := 0) (st := [vI x2]) C (cJx4a65c_size_8abf5_ok _ e16) mt_X11_89 mv_Jx4a65c_size_8abf5 rfl (by decide) dX11_plan_26 eu12 k13 rfl rfl rfl (Nat.le_of_ble_eq_true rfl) rfl (Nat.le_of_ble_eq_true rfl) rfl (Nat.le_of_ble_eq_true rfl) rfl rfl ?_
    refine me_icmp_ge (q2 := 77) (q := 32) C dX11_plan_29 (by decide) rfl (fun c17 => ?_) (fun c17 => ?_)
    · have hf := mm_if_t c17 hf
      refine me_mask [true, false, false, false] (lv2 := [some (vR (some b0)), none, none, none]) rfl ?_
      exact hk77 _ hf
    · have hf := mm_if_f c17 hf
      refine me_aload_n (q := 33) C dX11_plan_32 rfl rfl rfl ?_
      obtain ⟨k18, hf⟩ := mm_ck_some hf
      refine me_getR (q := 36) C dX11_plan_33 mf_X11_16 rfl rfl k18 rfl ?_
      refine me_iload_n (q := 37) C dX11_plan_36 rfl rfl rfl ?_
      obtain ⟨u19, eu19, hf⟩ := mm_rf_some hf
      obtain ⟨k20, hf⟩ := mm_ck_some hf
      obtain ⟨v21, g22, e23, hf⟩ := mm_cl_some hf
      refine me_callV (q := 40) (c2 := 0) (s2 := 0) (st := []) C (cJx4a65c_get_915e3_ok _ e23) mt_X11_151 mv_Jx4a65c_get_915e3 rfl (by decide) dX11_plan_37 eu19 k20 rfl rfl rfl (Nat.le_of_ble_eq_true rfl) rfl (Nat.le_of_ble_eq_true rfl) rfl (Nat.le_of_ble_eq_true rfl) rfl rfl ?_
      obtain ⟨u24, eu24, hf⟩ := mm_rf_some hf
      obtain ⟨k25, hf⟩ := mm_ck_some hf
      refine me_cast (q := 43) C dX11_plan_40 mk_X11_146 eu24 k25 rfl ?_
      refine me_astore_n (q := 44) (lv2 := [some (vR (some b0)), some (vI b1), some (vI x2), some (vR v21)]) C dX11_plan_43 rfl (Nat.le_of_ble_eq_true rfl) rfl rfl rfl ?_
      refine me_aload_n (q := 45) C dX11_plan_44 rfl rfl rfl ?_
      refine me_getI (q := 48) C dX11_plan_45 mf_X11_161 rfl eu24 k25 rfl ?_
      refine me_iload_n (q := 49) C dX11_plan_48 rfl rfl rfl ?_
      obtain ⟨q27, eq27, hf⟩ := mm_jn_some hf
      have Hq27 : ∀ (g26 : mm_H), q27 g26 = some (r, h1) → mm_E X g26 0 0 71 [some (vR (some b0)), some (vI b1), some (vI x2), none] [] := by
        intro g26 hf
        subst eq27
        obtain ⟨v28, ev28, hf⟩ := mm_lt_some hf
        refine me_iinc (q := 74) (v := v28) (lv2 := [some (vR (some b0)), some (vI b1), some (vI v28), none]) C dX11_plan_71 rfl (by rw [ev28]; rfl) (Nat.le_of_ble_eq_true rfl) rfl rfl rfl ?_
        refine me_goto (q := 21) C dX11_plan_74 (by decide) ?_
        exact ih _ _ hf hk77
      refine me_icmp_ne (q2 := 71) (q := 52) C dX11_plan_49 (by decide) rfl (fun c29 => ?_) (fun c29 => ?_)
      · have hf := mm_if_t c29 hf
        refine me_mask [true, true, true, false] (lv2 := [some (vR (some b0)), some (vI b1), some (vI x2), none]) rfl ?_
        exact Hq27 _ hf
      · have hf := mm_if_f c29 hf
        refine me_aload_n (q := 53) C dX11_plan_52 rfl rfl rfl ?_
        refine me_getI (q := 56) C dX11_plan_53 mf_X11_158 rfl eu24 k25 rfl ?_
        refine me_if_le (q2 := 71) (q := 59) C dX11_plan_56 (by decide) rfl (fun c30 => ?_) (fun c30 => ?_)
        · have hf := mm_if_t c30 hf
          refine me_mask [true, true, true, false] (lv2 := [some (vR (some b0)), some (vI b1), some (vI x2), none]) rfl ?_
          exact Hq27 _ hf
        · have hf := mm_if_f c30 hf
          refine me_aload_n (q := 60) C dX11_plan_59 rfl rfl rfl ?_
          obtain ⟨k31, hf⟩ := mm_ck_some hf
          refine me_getR (q := 63) C dX11_plan_60 mf_X11_57 rfl rfl k31 rfl ?_
          refine me_iload_n (q := 64) C dX11_plan_63 rfl rfl rfl ?_
          refine me_aload_n (q := 65) C dX11_plan_64 rfl rfl rfl ?_
          refine me_getI (q := 68) C dX11_plan_65 mf_X11_158 rfl eu24 k25 rfl ?_
          obtain ⟨u32, eu32, hf⟩ := mm_rf_some hf
          obtain ⟨k33, hf⟩ := mm_ck_some hf
          obtain ⟨_, g34, e35, hf⟩ := mm_cl_some hf
          refine me_callV (q := 71) (c2 := 0) (s2 := 0) (st := []) C (cX9_addLot_ok _ e35) mt_X11_385 mv_X9_addLot rfl (by decide) dX11_plan_68 eu32 k33 rfl rfl rfl (Nat.le_of_ble_eq_true rfl) rfl (Nat.le_of_ble_eq_true rfl) rfl (Nat.le_of_ble_eq_true rfl) rfl rfl ?_
          refine me_mask [true, true, true, false] (lv2 := [some (vR (some b0)), some (vI b1), some (vI x2), none]) rfl ?_
          exact Hq27 _ hf
set_option maxRecDepth 100000 in
set_option maxHeartbeats 4000000 in
theorem cX11_plan_L92 {X : mm_X} (C : mm_C X cX11_plan yX11_plan 17 0 0) {r : Int64} {h1 : mm_H} (hE : mm_End X 0 0 (some .long) (some (vJ r)) h1) {b0 : Nat} (K138 : mm_H → Option (Int64 × mm_H)) : ∀ (n : Nat) (x2 : Int32) (x3 : Int32) (h : mm_H), fX11_plan_L92 b0 K138 n x2 x3 h = some (r, h1) → (∀ (h : mm_H), K138 h = some (r, h1) → mm_E X h 0 0 138 [some (vR (some b0)), none, none, none] []) → mm_E X h 0 0 92 [some (vR (some b0)), none, some (vI x2), some (vI x3)] [] := by
  intro n
  induction n with
  | zero =>
    intro x2 x3 h hf
    exact absurd (show (none : Option (Int64 × mm_H)) = some (r, h1) from hf) (by simp)
  | succ n ih =>
    intro x2 x3 h hf hk138
    have hf : fX11_plan_L92_b b0 K138 (fX11_plan_L92 b0 K138 n) x2 x3 h = some (r, h1) := hf
    unfold fX11_plan_L92_b at hf
    refine me_iload_n (q := 93) C dX11_plan_92 rfl rfl rfl ?_
    refine me_iconst (v := (4 : Int32)) (q := 94) C dX11_plan_93 (by decide) rfl ?_
    refine me_icmp_ge (q2 := 138) (q := 97) C dX11_plan_94 (by decide) rfl (fun c43 => ?_) (fun c43 => ?_)
    · have hf := mm_if_t c43 hf
      refine me_mask [true, false, false, false] (lv2 := [some (vR (some b0)), none, none, none]) rfl ?_
      exact hk138 _ hf
    · have hf := mm_if_f c43 hf
      refine me_iload_n (q := 98) C dX11_plan_97 rfl rfl rfl ?_
      refine me_iconst (v := (-1 : Int32)) (q := 99) C dX11_plan_98 (by decide) rfl ?_
      refine me_icmp_eq (q2 := 138) (q := 102) C dX11_plan_99 (by decide) rfl (fun c44 => ?_) (fun c44 => ?_)
      · have hf := mm_if_t c44 hf
        refine me_mask [true, false, false, false] (lv2 := [some (vR (some b0)), none, none, none]) rfl ?_
        exact hk138 _ hf
      · have hf := mm_if_f c44 hf
        refine me_aload_n (q := 103) C dX11_plan_102 rfl rfl rfl ?_
        obtain ⟨k45, hf⟩ := mm_ck_some hf
        refine me_getR (q := 106) C dX11_plan_103 mf_X11_57 rfl rfl k45 rfl ?_
        refine me_iload_n (q := 107) C dX11_plan_106 rfl rfl rfl ?_
        refine me_aload_n (q := 108) C dX11_plan_107 rfl rfl rfl ?_
        refine me_getR (q := 111) C dX11_plan_108 mf_X11_50 rfl rfl k45 rfl ?_
        obtain ⟨u46, eu46, hf⟩ := mm_rf_some hf
        obtain ⟨k47, hf⟩ := mm_ck_some hf
        refine me_getR (q := 114) C dX11_plan_111 mf_X11_391 rfl eu46 k47 rfl ?_
        refine me_iload_n (q := 115) C dX11_plan_114 rfl rfl rfl ?_
        obtain ⟨u48, eu48, hf⟩ := mm_rf_some hf
        obtain ⟨k49, hf⟩ := mm_ck_some hf
        obtain ⟨k50, hf⟩ := mm_ck_some hf
        refine me_iald (q := 116) C dX11_plan_115 eu48 k49 k50 rfl ?_
        obtain ⟨u51, eu51, hf⟩ := mm_rf_some hf
        obtain ⟨k52, hf⟩ := mm_ck_some hf
        obtain ⟨_, g53, e54, hf⟩ := mm_cl_some hf
        refine me_callV (q := 119) (c2 := 0) (s2 := 0) (st := []) C (cX9_addShip_ok _ e54) mt_X11_394 mv_X9_addShip rfl (by decide) dX11_plan_116 eu51 k52 rfl rfl rfl (Nat.le_of_ble_eq_true rfl) rfl (Nat.le_of_ble_eq_true rfl) rfl (Nat.le_of_ble_eq_true rfl) rfl rfl ?_
        refine me_aload_n (q := 120) C dX11_plan_119 rfl rfl rfl ?_
        obtain ⟨k55, hf⟩ := mm_ck_some hf
        refine me_getR (q := 123) C dX11_plan_120 mf_X11_50 rfl rfl k55 rfl ?_
        refine me_iload_n (q := 124) C dX11_plan_123 rfl rfl rfl ?_
        refine me_aload_n (q := 125) C dX11_plan_124 rfl rfl rfl ?_
        refine me_getI (q := 128) C dX11_plan_125 mf_X11_75 rfl rfl k55 rfl ?_
        obtain ⟨u56, eu56, hf⟩ := mm_rf_some hf
        obtain ⟨k57, hf⟩ := mm_ck_some hf
        obtain ⟨v58, g59, e60, hf⟩ := mm_cl_some hf
        refine me_callV (q := 131) (c2 := 0) (s2 := 0) (st := []) C (cX10_nextOpenShip_ok _ e60) mt_X11_388 mv_X10_nextOpenShip rfl (by decide) dX11_plan_128 eu56 k57 rfl rfl rfl (Nat.le_of_ble_eq_true rfl) rfl (Nat.le_of_ble_eq_true rfl) rfl (Nat.le_of_ble_eq_true rfl) rfl rfl ?_
        refine me_istore_n (q := 132) (lv2 := [some (vR (some b0)), none, some (vI v58), some (vI x3)]) C dX11_plan_131 rfl (Nat.le_of_ble_eq_true rfl) rfl rfl rfl ?_
        obtain ⟨v61, ev61, hf⟩ := mm_lt_some hf
        refine me_iinc (q := 135) (v := v61) (lv2 := [some (vR (some b0)), none, some (vI v58), some (vI v61)]) C dX11_plan_132 rfl (by rw [ev61]; rfl) (Nat.le_of_ble_eq_true rfl) rfl rfl rfl ?_
        refine me_goto (q := 92) C dX11_plan_135 (by decide) ?_
        exact ih _ _ _ hf hk138
set_option maxRecDepth 100000 in
set_option maxHeartbeats 4000000 in
theorem cX11_plan_ok (l : Launch) {a0 : Nat} {a1 : Int32} {h : mm_H} {r : Int64} {h1 : mm_H} (hf : fX11_plan a0 a1 h = some (r, h1)) : mm_M l yX11_plan cX11_plan 4 (some .long) 17 0 0 [vR (some a0), vI a1] h (some (vJ r)) h1 := by
  refine mm_enter (lv := [some (vR (some a0)), some (vI a1), none, none]) (by decide) rfl (Nat.le_of_ble_eq_true rfl) ?_
  intro X hl C hE
  subst hl
  unfold fX11_plan at hf
  refine me_aload_n (q := 1) C dX11_plan_0 rfl rfl rfl ?_
  refine me_iload_n (q := 2) C dX11_plan_1 rfl rfl rfl ?_
  obtain ⟨k1, hf⟩ := mm_ck_some hf
  obtain ⟨v2, g3, e4, hf⟩ := mm_cl_some hf
  refine me_callV (q := 5) (c2 := 0) (s2 := 0) (st := []) C (cX11_manThere_ok _ e4) mt_X11_107 mv_X11_manThere rfl (by decide) dX11_plan_2 rfl k1 rfl rfl rfl (Nat.le_of_ble_eq_true rfl) rfl (Nat.le_of_ble_eq_true rfl) rfl (Nat.le_of_ble_eq_true rfl) rfl rfl ?_
  refine me_ifnonnull (q2 := 12) (q := 8) C dX11_plan_5 (by decide) rfl (fun c5 => ?_) (fun c5 => ?_)
  · have hf := mm_if_t c5 hf
    refine me_aload_n (q := 13) C dX11_plan_12 rfl rfl rfl ?_
    obtain ⟨k6, hf⟩ := mm_ck_some hf
    refine me_getR (q := 16) C dX11_plan_13 mf_X11_57 rfl rfl k6 rfl ?_
    obtain ⟨u7, eu7, hf⟩ := mm_rf_some hf
    obtain ⟨k8, hf⟩ := mm_ck_some hf
    obtain ⟨_, g9, e10, hf⟩ := mm_cl_some hf
    refine me_callV (q := 19) (c2 := 0) (s2 := 0) (st := []) C (cX9_clearPlan_ok _ e10) mt_X11_382 mv_X9_clearPlan rfl (by decide) dX11_plan_16 eu7 k8 rfl rfl rfl (Nat.le_of_ble_eq_true rfl) rfl (Nat.le_of_ble_eq_true rfl) rfl (Nat.le_of_ble_eq_true rfl) rfl rfl ?_
    refine me_iconst (v := (0 : Int32)) (q := 20) C dX11_plan_19 (by decide) rfl ?_
    refine me_istore_n (q := 21) (lv2 := [some (vR (some a0)), some (vI a1), some (vI (0 : Int32)), none]) C dX11_plan_20 rfl (Nat.le_of_ble_eq_true rfl) rfl rfl rfl ?_
    refine cX11_plan_L21 C hE _ _ _ _ hf ?_
    · intro g36 hf
      refine me_aload_n (q := 78) C dX11_plan_77 rfl rfl rfl ?_
      obtain ⟨k37, hf⟩ := mm_ck_some hf
      refine me_getR (q := 81) C dX11_plan_78 mf_X11_50 rfl rfl k37 rfl ?_
      refine me_iconst (v := (-1 : Int32)) (q := 82) C dX11_plan_81 (by decide) rfl ?_
      refine me_aload_n (q := 83) C dX11_plan_82 rfl rfl rfl ?_
      refine me_getI (q := 86) C dX11_plan_83 mf_X11_75 rfl rfl k37 rfl ?_
      obtain ⟨u38, eu38, hf⟩ := mm_rf_some hf
      obtain ⟨k39, hf⟩ := mm_ck_some hf
      obtain ⟨v40, g41, e42, hf⟩ := mm_cl_some hf
      refine me_callV (q := 89) (c2 := 0) (s2 := 0) (st := []) C (cX10_nextOpenShip_ok _ e42) mt_X11_388 mv_X10_nextOpenShip rfl (by decide) dX11_plan_86 eu38 k39 rfl rfl rfl (Nat.le_of_ble_eq_true rfl) rfl (Nat.le_of_ble_eq_true rfl) rfl (Nat.le_of_ble_eq_true rfl) rfl rfl ?_
      refine me_istore_n (q := 90) (lv2 := [some (vR (some a0)), none, some (vI v40), none]) C dX11_plan_89 rfl (Nat.le_of_ble_eq_true rfl) rfl rfl rfl ?_
      refine me_iconst (v := (0 : Int32)) (q := 91) C dX11_plan_90 (by decide) rfl ?_
      refine me_istore_n (q := 92) (lv2 := [some (vR (some a0)), none, some (vI v40), some (vI (0 : Int32))]) C dX11_plan_91 rfl (Nat.le_of_ble_eq_true rfl) rfl rfl rfl ?_
      refine cX11_plan_L92 C hE _ _ _ _ _ hf ?_
      · intro g62 hf
        refine me_aload_n (q := 139) C dX11_plan_138 rfl rfl rfl ?_
        obtain ⟨k63, hf⟩ := mm_ck_some hf
        obtain ⟨_, g64, e65, hf⟩ := mm_cl_some hf
        refine me_callV (q := 142) (c2 := 0) (s2 := 0) (st := []) C (cX11_tellPlannerPrices_ok _ e65) mt_X11_396 mv_X11_tellPlannerPrices rfl (by decide) dX11_plan_139 rfl k63 rfl rfl rfl (Nat.le_of_ble_eq_true rfl) rfl (Nat.le_of_ble_eq_true rfl) rfl (Nat.le_of_ble_eq_true rfl) rfl rfl ?_
        refine me_aload_n (q := 143) C dX11_plan_142 rfl rfl rfl ?_
        obtain ⟨k66, hf⟩ := mm_ck_some hf
        refine me_getR (q := 146) C dX11_plan_143 mf_X11_57 rfl rfl k66 rfl ?_
        obtain ⟨u67, eu67, hf⟩ := mm_rf_some hf
        obtain ⟨k68, hf⟩ := mm_ck_some hf
        obtain ⟨_, g69, e70, hf⟩ := mm_cl_some hf
        refine me_callV (q := 149) (c2 := 0) (s2 := 0) (st := []) C (cX9_findBest_ok _ e70) mt_X11_399 mv_X9_findBest rfl (by decide) dX11_plan_146 eu67 k68 rfl rfl rfl (Nat.le_of_ble_eq_true rfl) rfl (Nat.le_of_ble_eq_true rfl) rfl (Nat.le_of_ble_eq_true rfl) rfl rfl ?_
        refine me_aload_n (q := 150) C dX11_plan_149 rfl rfl rfl ?_
        obtain ⟨k71, hf⟩ := mm_ck_some hf
        refine me_getR (q := 153) C dX11_plan_150 mf_X11_57 rfl rfl k71 rfl ?_
        obtain ⟨u72, eu72, hf⟩ := mm_rf_some hf
        obtain ⟨k73, hf⟩ := mm_ck_some hf
        refine me_getJ (q := 156) C dX11_plan_153 mf_X11_402 rfl eu72 k73 rfl ?_
        exact me_lret C hE (Nat.le_of_ble_eq_true rfl) (Nat.le_of_ble_eq_true rfl) rfl dX11_plan_156 (mm_rj hf)
  · have hf := mm_if_f c5 hf
    refine me_ldc2_w (v := (-1 : Int64)) (q := 11) C dX11_plan_8 mc_X11_380 rfl ?_
    exact me_lret C hE (Nat.le_of_ble_eq_true rfl) (Nat.le_of_ble_eq_true rfl) rfl dX11_plan_11 (mm_rj hf)
set_option maxRecDepth 100000 in
set_option maxHeartbeats 4000000 in
theorem cX11_planned_ok (l : Launch) {a0 : Nat} {a1 : Int32} {a2 : Int32} {h : mm_H} {r : Int32} {h1 : mm_H} (hf : fX11_planned a0 a1 a2 h = some (r, h1)) : mm_M l yX11_planned cX11_planned 3 (some .int) 4 0 0 [vR (some a0), vI a1, vI a2] h (some (vI r)) h1 := by
  refine mm_enter (lv := [some (vR (some a0)), some (vI a1), some (vI a2)]) (by decide) rfl (Nat.le_of_ble_eq_true rfl) ?_
  intro X hl C hE
  subst hl
  unfold fX11_planned at hf
  refine me_aload_n (q := 1) C dX11_planned_0 rfl rfl rfl ?_
  obtain ⟨k1, hf⟩ := mm_ck_some hf
  refine me_getR (q := 4) C dX11_planned_1 mf_X11_57 rfl rfl k1 rfl ?_
  obtain ⟨u2, eu2, hf⟩ := mm_rf_some hf
  obtain ⟨k3, hf⟩ := mm_ck_some hf
  refine me_getI (q := 7) C dX11_planned_4 mf_X11_405 rfl eu2 k3 rfl ?_
  refine me_if_eq (q2 := 19) (q := 10) C dX11_planned_7 (by decide) rfl (fun c4 => ?_) (fun c4 => ?_)
  · have hf := mm_if_t c4 hf
    refine me_iconst (v := (-1 : Int32)) (q := 20) C dX11_planned_19 (by decide) rfl ?_
    exact me_iret C hE (Nat.le_of_ble_eq_true rfl) (Nat.le_of_ble_eq_true rfl) rfl dX11_planned_20 (mm_ri hf)
  · have hf := mm_if_f c4 hf
    refine me_iload_n (q := 11) C dX11_planned_10 rfl rfl rfl ?_
    refine me_iconst (v := (0 : Int32)) (q := 12) C dX11_planned_11 (by decide) rfl ?_
    refine me_iconst (v := (1 : Int32)) (q := 13) C dX11_planned_12 (by decide) rfl ?_
    obtain ⟨v5, g6, e7, hf⟩ := mm_cl_some hf
    refine me_callS (q := 16) (c2 := 0) (s2 := 0) (st := []) C (cX11_within_ok _ e7) mt_X11_93 ms_X11_within dX11_planned_13 rfl rfl rfl (Nat.le_of_ble_eq_true rfl) rfl (Nat.le_of_ble_eq_true rfl) rfl (Nat.le_of_ble_eq_true rfl) rfl rfl ?_
    refine me_if_ne (q2 := 21) (q := 19) C dX11_planned_16 (by decide) rfl (fun c8 => ?_) (fun c8 => ?_)
    · have hf := mm_if_t c8 hf
      refine me_iload_n (q := 22) C dX11_planned_21 rfl rfl rfl ?_
      refine me_iconst (v := (-1 : Int32)) (q := 23) C dX11_planned_22 (by decide) rfl ?_
      refine me_icmp_ne (q2 := 48) (q := 26) C dX11_planned_23 (by decide) rfl (fun c9 => ?_) (fun c9 => ?_)
      · have hf := mm_if_t c9 hf
        refine me_iload_n (q := 49) C dX11_planned_48 rfl rfl rfl ?_
        refine me_if_lt (q2 := 63) (q := 52) C dX11_planned_49 (by decide) rfl (fun c10 => ?_) (fun c10 => ?_)
        · have hf := mm_if_t c10 hf
          refine me_iconst (v := (-1 : Int32)) (q := 64) C dX11_planned_63 (by decide) rfl ?_
          exact me_iret C hE (Nat.le_of_ble_eq_true rfl) (Nat.le_of_ble_eq_true rfl) rfl dX11_planned_64 (mm_ri hf)
        · have hf := mm_if_f c10 hf
          refine me_iload_n (q := 53) C dX11_planned_52 rfl rfl rfl ?_
          refine me_aload_n (q := 54) C dX11_planned_53 rfl rfl rfl ?_
          obtain ⟨k11, hf⟩ := mm_ck_some hf
          refine me_getR (q := 57) C dX11_planned_54 mf_X11_57 rfl rfl k11 rfl ?_
          obtain ⟨u12, eu12, hf⟩ := mm_rf_some hf
          obtain ⟨k13, hf⟩ := mm_ck_some hf
          refine me_getI (q := 60) C dX11_planned_57 mf_X11_408 rfl eu12 k13 rfl ?_
          refine me_icmp_lt (q2 := 65) (q := 63) C dX11_planned_60 (by decide) rfl (fun c14 => ?_) (fun c14 => ?_)
          · have hf := mm_if_t c14 hf
            refine me_iload_n (q := 66) C dX11_planned_65 rfl rfl rfl ?_
            refine me_if_ne (q2 := 81) (q := 69) C dX11_planned_66 (by decide) rfl (fun c15 => ?_) (fun c15 => ?_)
            · have hf := mm_if_t c15 hf
              refine me_aload_n (q := 82) C dX11_planned_81 rfl rfl rfl ?_
              refine me_getR (q := 85) C dX11_planned_82 mf_X11_57 rfl rfl k11 rfl ?_
              refine me_iload_n (q := 86) C dX11_planned_85 rfl rfl rfl ?_
              obtain ⟨v16, g17, e18, hf⟩ := mm_cl_some hf
              refine me_callV (q := 89) (c2 := 0) (s2 := 0) (st := []) C (cX9_shipOf_ok _ e18) mt_X11_417 mv_X9_shipOf rfl (by decide) dX11_planned_86 eu12 k13 rfl rfl rfl (Nat.le_of_ble_eq_true rfl) rfl (Nat.le_of_ble_eq_true rfl) rfl (Nat.le_of_ble_eq_true rfl) rfl rfl ?_
              exact me_iret C hE (Nat.le_of_ble_eq_true rfl) (Nat.le_of_ble_eq_true rfl) rfl dX11_planned_89 (mm_ri hf)
            · have hf := mm_if_f c15 hf
              refine me_aload_n (q := 70) C dX11_planned_69 rfl rfl rfl ?_
              refine me_getR (q := 73) C dX11_planned_70 mf_X11_57 rfl rfl k11 rfl ?_
              refine me_getR (q := 76) C dX11_planned_73 mf_X11_414 rfl eu12 k13 rfl ?_
              refine me_iload_n (q := 77) C dX11_planned_76 rfl rfl rfl ?_
              obtain ⟨u19, eu19, hf⟩ := mm_rf_some hf
              obtain ⟨k20, hf⟩ := mm_ck_some hf
              obtain ⟨k21, hf⟩ := mm_ck_some hf
              refine me_iald (q := 78) C dX11_planned_77 eu19 k20 k21 rfl ?_
              refine me_goto (q := 89) C dX11_planned_78 (by decide) ?_
              exact me_iret C hE (Nat.le_of_ble_eq_true rfl) (Nat.le_of_ble_eq_true rfl) rfl dX11_planned_89 (mm_ri hf)
          · have hf := mm_if_f c14 hf
            refine me_iconst (v := (-1 : Int32)) (q := 64) C dX11_planned_63 (by decide) rfl ?_
            exact me_iret C hE (Nat.le_of_ble_eq_true rfl) (Nat.le_of_ble_eq_true rfl) rfl dX11_planned_64 (mm_ri hf)
      · have hf := mm_if_f c9 hf
        refine me_iload_n (q := 27) C dX11_planned_26 rfl rfl rfl ?_
        refine me_if_ne (q2 := 40) (q := 30) C dX11_planned_27 (by decide) rfl (fun c22 => ?_) (fun c22 => ?_)
        · have hf := mm_if_t c22 hf
          refine me_aload_n (q := 41) C dX11_planned_40 rfl rfl rfl ?_
          obtain ⟨k23, hf⟩ := mm_ck_some hf
          refine me_getR (q := 44) C dX11_planned_41 mf_X11_57 rfl rfl k23 rfl ?_
          obtain ⟨u24, eu24, hf⟩ := mm_rf_some hf
          obtain ⟨k25, hf⟩ := mm_ck_some hf
          refine me_getI (q := 47) C dX11_planned_44 mf_X11_411 rfl eu24 k25 rfl ?_
          exact me_iret C hE (Nat.le_of_ble_eq_true rfl) (Nat.le_of_ble_eq_true rfl) rfl dX11_planned_47 (mm_ri hf)
        · have hf := mm_if_f c22 hf
          refine me_aload_n (q := 31) C dX11_planned_30 rfl rfl rfl ?_
          obtain ⟨k26, hf⟩ := mm_ck_some hf
          refine me_getR (q := 34) C dX11_planned_31 mf_X11_57 rfl rfl k26 rfl ?_
          obtain ⟨u27, eu27, hf⟩ := mm_rf_some hf
          obtain ⟨k28, hf⟩ := mm_ck_some hf
          refine me_getI (q := 37) C dX11_planned_34 mf_X11_408 rfl eu27 k28 rfl ?_
          refine me_goto (q := 47) C dX11_planned_37 (by decide) ?_
          exact me_iret C hE (Nat.le_of_ble_eq_true rfl) (Nat.le_of_ble_eq_true rfl) rfl dX11_planned_47 (mm_ri hf)
    · have hf := mm_if_f c8 hf
      refine me_iconst (v := (-1 : Int32)) (q := 20) C dX11_planned_19 (by decide) rfl ?_
      exact me_iret C hE (Nat.le_of_ble_eq_true rfl) (Nat.le_of_ble_eq_true rfl) rfl dX11_planned_20 (mm_ri hf)
set_option maxRecDepth 100000 in
set_option maxHeartbeats 4000000 in
theorem cX11_high_ok (l : Launch) {a0 : Nat} {h : mm_H} {r : Int64} {h1 : mm_H} (hf : fX11_high a0 h = some (r, h1)) : mm_M l yX11_high cX11_high 1 (some .long) 2 0 0 [vR (some a0)] h (some (vJ r)) h1 := by
  refine mm_enter (lv := [some (vR (some a0))]) (by decide) rfl (Nat.le_of_ble_eq_true rfl) ?_
  intro X hl C hE
  subst hl
  unfold fX11_high at hf
  refine me_aload_n (q := 1) C dX11_high_0 rfl rfl rfl ?_
  obtain ⟨k1, hf⟩ := mm_ck_some hf
  refine me_getR (q := 4) C dX11_high_1 mf_X11_57 rfl rfl k1 rfl ?_
  obtain ⟨u2, eu2, hf⟩ := mm_rf_some hf
  obtain ⟨k3, hf⟩ := mm_ck_some hf
  refine me_getI (q := 7) C dX11_high_4 mf_X11_405 rfl eu2 k3 rfl ?_
  refine me_if_eq (q2 := 20) (q := 10) C dX11_high_7 (by decide) rfl (fun c4 => ?_) (fun c4 => ?_)
  · have hf := mm_if_t c4 hf
    refine me_ldc2_w (v := (-1 : Int64)) (q := 23) C dX11_high_20 mc_X11_380 rfl ?_
    exact me_lret C hE (Nat.le_of_ble_eq_true rfl) (Nat.le_of_ble_eq_true rfl) rfl dX11_high_23 (mm_rj hf)
  · have hf := mm_if_f c4 hf
    refine me_aload_n (q := 11) C dX11_high_10 rfl rfl rfl ?_
    refine me_getR (q := 14) C dX11_high_11 mf_X11_57 rfl rfl k1 rfl ?_
    refine me_getJ (q := 17) C dX11_high_14 mf_X11_420 rfl eu2 k3 rfl ?_
    refine me_goto (q := 23) C dX11_high_17 (by decide) ?_
    exact me_lret C hE (Nat.le_of_ble_eq_true rfl) (Nat.le_of_ble_eq_true rfl) rfl dX11_high_23 (mm_rj hf)
set_option maxRecDepth 100000 in
set_option maxHeartbeats 4000000 in
theorem cX11_sail_ok (l : Launch) {a0 : Nat} {a1 : Int32} {a2 : Int32} {h : mm_H} {r : Int32} {h1 : mm_H} (hf : fX11_sail a0 a1 a2 h = some (r, h1)) : mm_M l yX11_sail cX11_sail 6 (some .int) 10 0 0 [vR (some a0), vI a1, vI a2] h (some (vI r)) h1 := by
  refine mm_enter (lv := [some (vR (some a0)), some (vI a1), some (vI a2), none, none, none]) (by decide) rfl (Nat.le_of_ble_eq_true rfl) ?_
  intro X hl C hE
  subst hl
  unfold fX11_sail at hf
  refine me_aload_n (q := 1) C dX11_sail_0 rfl rfl rfl ?_
  refine me_iload_n (q := 2) C dX11_sail_1 rfl rfl rfl ?_
  obtain ⟨k1, hf⟩ := mm_ck_some hf
  obtain ⟨v2, g3, e4, hf⟩ := mm_cl_some hf
  refine me_callV (q := 5) (c2 := 0) (s2 := 0) (st := []) C (cX11_manThere_ok _ e4) mt_X11_107 mv_X11_manThere rfl (by decide) dX11_sail_2 rfl k1 rfl rfl rfl (Nat.le_of_ble_eq_true rfl) rfl (Nat.le_of_ble_eq_true rfl) rfl (Nat.le_of_ble_eq_true rfl) rfl rfl ?_
  refine me_astore_n (q := 6) (lv2 := [some (vR (some a0)), some (vI a1), some (vI a2), some (vR v2), none, none]) C dX11_sail_5 rfl (Nat.le_of_ble_eq_true rfl) rfl rfl rfl ?_
  refine me_aload_n (q := 7) C dX11_sail_6 rfl rfl rfl ?_
  refine me_ifnull (q2 := 25) (q := 10) C dX11_sail_7 (by decide) rfl (fun c5 => ?_) (fun c5 => ?_)
  · have hf := mm_if_t c5 hf
    refine me_iconst (v := (-1 : Int32)) (q := 26) C dX11_sail_25 (by decide) rfl ?_
    exact me_iret C hE (Nat.le_of_ble_eq_true rfl) (Nat.le_of_ble_eq_true rfl) rfl dX11_sail_26 (mm_ri hf)
  · have hf := mm_if_f c5 hf
    refine me_iload_n (q := 11) C dX11_sail_10 rfl rfl rfl ?_
    refine me_if_lt (q2 := 25) (q := 14) C dX11_sail_11 (by decide) rfl (fun c6 => ?_) (fun c6 => ?_)
    · have hf := mm_if_t c6 hf
      refine me_iconst (v := (-1 : Int32)) (q := 26) C dX11_sail_25 (by decide) rfl ?_
      exact me_iret C hE (Nat.le_of_ble_eq_true rfl) (Nat.le_of_ble_eq_true rfl) rfl dX11_sail_26 (mm_ri hf)
    · have hf := mm_if_f c6 hf
      refine me_iload_n (q := 15) C dX11_sail_14 rfl rfl rfl ?_
      refine me_aload_n (q := 16) C dX11_sail_15 rfl rfl rfl ?_
      obtain ⟨k7, hf⟩ := mm_ck_some hf
      refine me_getR (q := 19) C dX11_sail_16 mf_X11_50 rfl rfl k7 rfl ?_
      obtain ⟨u8, eu8, hf⟩ := mm_rf_some hf
      obtain ⟨k9, hf⟩ := mm_ck_some hf
      refine me_getI (q := 22) C dX11_sail_19 mf_X11_423 rfl eu8 k9 rfl ?_
      refine me_icmp_lt (q2 := 27) (q := 25) C dX11_sail_22 (by decide) rfl (fun c10 => ?_) (fun c10 => ?_)
      · have hf := mm_if_t c10 hf
        refine me_aload_n (q := 28) C dX11_sail_27 rfl rfl rfl ?_
        obtain ⟨u11, eu11, hf⟩ := mm_rf_some hf
        obtain ⟨k12, hf⟩ := mm_ck_some hf
        refine me_getI (q := 31) C dX11_sail_28 mf_X11_424 rfl eu11 k12 rfl ?_
        refine me_iload_n (q := 32) C dX11_sail_31 rfl rfl rfl ?_
        refine me_ishr (q := 33) C dX11_sail_32 rfl ?_
        refine me_iconst (v := (1 : Int32)) (q := 34) C dX11_sail_33 (by decide) rfl ?_
        refine me_iand (q := 35) C dX11_sail_34 rfl ?_
        refine me_if_ne (q2 := 54) (q := 38) C dX11_sail_35 (by decide) rfl (fun c13 => ?_) (fun c13 => ?_)
        · have hf := mm_if_t c13 hf
          refine me_iconst (v := (-1 : Int32)) (q := 55) C dX11_sail_54 (by decide) rfl ?_
          exact me_iret C hE (Nat.le_of_ble_eq_true rfl) (Nat.le_of_ble_eq_true rfl) rfl dX11_sail_55 (mm_ri hf)
        · have hf := mm_if_f c13 hf
          refine me_aload_n (q := 39) C dX11_sail_38 rfl rfl rfl ?_
          refine me_getR (q := 42) C dX11_sail_39 mf_X11_50 rfl rfl k7 rfl ?_
          refine me_getR (q := 45) C dX11_sail_42 mf_X11_427 rfl eu8 k9 rfl ?_
          refine me_iload_n (q := 46) C dX11_sail_45 rfl rfl rfl ?_
          obtain ⟨u14, eu14, hf⟩ := mm_rf_some hf
          obtain ⟨k15, hf⟩ := mm_ck_some hf
          obtain ⟨k16, hf⟩ := mm_ck_some hf
          refine me_iald (q := 47) C dX11_sail_46 eu14 k15 k16 rfl ?_
          refine me_aload_n (q := 48) C dX11_sail_47 rfl rfl rfl ?_
          refine me_getI (q := 51) C dX11_sail_48 mf_X11_75 rfl rfl k7 rfl ?_
          refine me_icmp_ge (q2 := 56) (q := 54) C dX11_sail_51 (by decide) rfl (fun c17 => ?_) (fun c17 => ?_)
          · have hf := mm_if_t c17 hf
            refine me_aload_n (q := 57) C dX11_sail_56 rfl rfl rfl ?_
            refine me_dup (q := 58) C dX11_sail_57 rfl rfl ?_
            refine me_getI (q := 61) C dX11_sail_58 mf_X11_424 rfl eu11 k12 rfl ?_
            refine me_iconst (v := (1 : Int32)) (q := 62) C dX11_sail_61 (by decide) rfl ?_
            refine me_iload_n (q := 63) C dX11_sail_62 rfl rfl rfl ?_
            refine me_ishl (q := 64) C dX11_sail_63 rfl ?_
            refine me_ior (q := 65) C dX11_sail_64 rfl ?_
            obtain ⟨g18, eg18, hf⟩ := mm_lt_some hf
            refine me_putI (q := 68) C eg18 dX11_sail_65 mf_X11_424 mp_X11_8_6 rfl (by decide) eu11 k12 rfl ?_
            refine me_aload_n (q := 69) C dX11_sail_68 rfl rfl rfl ?_
            refine me_getR (q := 72) C dX11_sail_69 mf_X11_50 rfl rfl (mm_kI eg18 k7) rfl ?_
            obtain ⟨u19, eu19, hf⟩ := mm_rf_some hf
            obtain ⟨k20, hf⟩ := mm_ck_some hf
            refine me_getR (q := 75) C dX11_sail_72 mf_X11_430 rfl eu19 k20 rfl ?_
            refine me_iload_n (q := 76) C dX11_sail_75 rfl rfl rfl ?_
            obtain ⟨u21, eu21, hf⟩ := mm_rf_some hf
            obtain ⟨k22, hf⟩ := mm_ck_some hf
            obtain ⟨k23, hf⟩ := mm_ck_some hf
            refine me_iald (q := 77) C dX11_sail_76 eu21 k22 k23 rfl ?_
            obtain ⟨v24, ev24, hf⟩ := mm_lt_some hf
            refine me_topI ev24 ?_
            refine me_istore (q := 79) (lv2 := [some (vR (some a0)), some (vI a1), some (vI a2), some (vR v2), some (vI v24), none]) C dX11_sail_77 (Nat.le_of_ble_eq_true rfl) rfl rfl rfl ?_
            refine me_aload_n (q := 80) C dX11_sail_79 rfl rfl rfl ?_
            refine me_getR (q := 83) C dX11_sail_80 mf_X11_50 rfl rfl (mm_kI eg18 k7) rfl ?_
            refine me_iload_n (q := 84) C dX11_sail_83 rfl rfl rfl ?_
            obtain ⟨v25, g26, e27, hf⟩ := mm_cl_some hf
            refine me_callV (q := 87) (c2 := 0) (s2 := 0) (st := []) C (cX10_comingOf_ok _ e27) mt_X11_433 mv_X10_comingOf rfl (by decide) dX11_sail_84 eu19 k20 rfl rfl rfl (Nat.le_of_ble_eq_true rfl) rfl (Nat.le_of_ble_eq_true rfl) rfl (Nat.le_of_ble_eq_true rfl) rfl rfl ?_
            refine me_istore (q := 89) (lv2 := [some (vR (some a0)), some (vI a1), some (vI a2), some (vR v2), some (vI v24), some (vI v25)]) C dX11_sail_87 (Nat.le_of_ble_eq_true rfl) rfl rfl rfl ?_
            refine me_aload_n (q := 90) C dX11_sail_89 rfl rfl rfl ?_
            obtain ⟨k28, hf⟩ := mm_ck_some hf
            refine me_getR (q := 93) C dX11_sail_90 mf_X11_50 rfl rfl k28 rfl ?_
            refine me_iload (q := 95) C dX11_sail_93 rfl rfl ?_
            refine me_iload (q := 97) C dX11_sail_95 rfl rfl ?_
            refine me_aload_n (q := 98) C dX11_sail_97 rfl rfl rfl ?_
            refine me_getI (q := 101) C dX11_sail_98 mf_X11_75 rfl rfl k28 rfl ?_
            obtain ⟨u29, eu29, hf⟩ := mm_rf_some hf
            obtain ⟨k30, hf⟩ := mm_ck_some hf
            obtain ⟨v31, g32, e33, hf⟩ := mm_cl_some hf
            refine me_callV (q := 104) (c2 := 0) (s2 := 0) (st := []) C (cX10_closedBy_ok _ e33) mt_X11_250 mv_X10_closedBy rfl (by decide) dX11_sail_101 eu29 k30 rfl rfl rfl (Nat.le_of_ble_eq_true rfl) rfl (Nat.le_of_ble_eq_true rfl) rfl (Nat.le_of_ble_eq_true rfl) rfl rfl ?_
            refine me_if_eq (q2 := 119) (q := 107) C dX11_sail_104 (by decide) rfl (fun c34 => ?_) (fun c34 => ?_)
            · have hf := mm_if_t c34 hf
              refine me_aload_n (q := 120) C dX11_sail_119 rfl rfl rfl ?_
              obtain ⟨k35, hf⟩ := mm_ck_some hf
              refine me_getR (q := 123) C dX11_sail_120 mf_X11_50 rfl rfl k35 rfl ?_
              refine me_iload (q := 125) C dX11_sail_123 rfl rfl ?_
              refine me_iload (q := 127) C dX11_sail_125 rfl rfl ?_
              obtain ⟨u36, eu36, hf⟩ := mm_rf_some hf
              obtain ⟨k37, hf⟩ := mm_ck_some hf
              obtain ⟨v38, g39, e40, hf⟩ := mm_cl_some hf
              refine me_callV (q := 130) (c2 := 0) (s2 := 0) (st := []) C (cX10_closureTold_ok _ e40) mt_X11_439 mv_X10_closureTold rfl (by decide) dX11_sail_127 eu36 k37 rfl rfl rfl (Nat.le_of_ble_eq_true rfl) rfl (Nat.le_of_ble_eq_true rfl) rfl (Nat.le_of_ble_eq_true rfl) rfl rfl ?_
              refine me_if_eq (q2 := 137) (q := 133) C dX11_sail_130 (by decide) rfl (fun c41 => ?_) (fun c41 => ?_)
              · have hf := mm_if_t c41 hf
                refine me_iconst (v := (0 : Int32)) (q := 138) C dX11_sail_137 (by decide) rfl ?_
                exact me_iret C hE (Nat.le_of_ble_eq_true rfl) (Nat.le_of_ble_eq_true rfl) rfl dX11_sail_138 (mm_ri hf)
              · have hf := mm_if_f c41 hf
                refine me_iconst (v := (2 : Int32)) (q := 134) C dX11_sail_133 (by decide) rfl ?_
                refine me_goto (q := 138) C dX11_sail_134 (by decide) ?_
                exact me_iret C hE (Nat.le_of_ble_eq_true rfl) (Nat.le_of_ble_eq_true rfl) rfl dX11_sail_138 (mm_ri hf)
            · have hf := mm_if_f c34 hf
              refine me_aload_n (q := 108) C dX11_sail_107 rfl rfl rfl ?_
              refine me_dup (q := 109) C dX11_sail_108 rfl rfl ?_
              obtain ⟨k42, hf⟩ := mm_ck_some hf
              refine me_getI (q := 112) C dX11_sail_109 mf_X11_436 rfl eu11 k42 rfl ?_
              refine me_iconst (v := (1 : Int32)) (q := 113) C dX11_sail_112 (by decide) rfl ?_
              refine me_iadd (q := 114) C dX11_sail_113 rfl ?_
              obtain ⟨g43, eg43, hf⟩ := mm_lt_some hf
              refine me_putI (q := 117) C eg43 dX11_sail_114 mf_X11_436 mp_X11_8_5 rfl (by decide) eu11 k42 rfl ?_
              refine me_iconst (v := (1 : Int32)) (q := 118) C dX11_sail_117 (by decide) rfl ?_
              exact me_iret C hE (Nat.le_of_ble_eq_true rfl) (Nat.le_of_ble_eq_true rfl) rfl dX11_sail_118 (mm_ri hf)
          · have hf := mm_if_f c17 hf
            refine me_iconst (v := (-1 : Int32)) (q := 55) C dX11_sail_54 (by decide) rfl ?_
            exact me_iret C hE (Nat.le_of_ble_eq_true rfl) (Nat.le_of_ble_eq_true rfl) rfl dX11_sail_55 (mm_ri hf)
      · have hf := mm_if_f c10 hf
        refine me_iconst (v := (-1 : Int32)) (q := 26) C dX11_sail_25 (by decide) rfl ?_
        exact me_iret C hE (Nat.le_of_ble_eq_true rfl) (Nat.le_of_ble_eq_true rfl) rfl dX11_sail_26 (mm_ri hf)
set_option maxRecDepth 100000 in
set_option maxHeartbeats 4000000 in
theorem cX11_broke_ok (l : Launch) {a0 : Nat} {a1 : Int32} {h : mm_H} {r : Int32} {h1 : mm_H} (hf : fX11_broke a0 a1 h = some (r, h1)) : mm_M l yX11_broke cX11_broke 2 (some .int) 8 0 0 [vR (some a0), vI a1] h (some (vI r)) h1 := by
  refine mm_enter (lv := [some (vR (some a0)), some (vI a1)]) (by decide) rfl (Nat.le_of_ble_eq_true rfl) ?_
  intro X hl C hE
  subst hl
  unfold fX11_broke at hf
  refine me_iload_n (q := 1) C dX11_broke_0 rfl rfl rfl ?_
  refine me_if_lt (q2 := 15) (q := 4) C dX11_broke_1 (by decide) rfl (fun c1 => ?_) (fun c1 => ?_)
  · have hf := mm_if_t c1 hf
    refine me_iconst (v := (-1 : Int32)) (q := 16) C dX11_broke_15 (by decide) rfl ?_
    refine me_goto (q := 33) C dX11_broke_16 (by decide) ?_
    exact me_iret C hE (Nat.le_of_ble_eq_true rfl) (Nat.le_of_ble_eq_true rfl) rfl dX11_broke_33 (mm_ri hf)
  · have hf := mm_if_f c1 hf
    refine me_iload_n (q := 5) C dX11_broke_4 rfl rfl rfl ?_
    refine me_aload_n (q := 6) C dX11_broke_5 rfl rfl rfl ?_
    obtain ⟨k2, hf⟩ := mm_ck_some hf
    refine me_getR (q := 9) C dX11_broke_6 mf_X11_10 rfl rfl k2 rfl ?_
    obtain ⟨u3, eu3, hf⟩ := mm_rf_some hf
    obtain ⟨k4, hf⟩ := mm_ck_some hf
    obtain ⟨v5, g6, e7, hf⟩ := mm_cl_some hf
    refine me_callV (q := 12) (c2 := 0) (s2 := 0) (st := [vI a1]) C (cJx4a65c_size_8abf5_ok _ e7) mt_X11_89 mv_Jx4a65c_size_8abf5 rfl (by decide) dX11_broke_9 eu3 k4 rfl rfl rfl (Nat.le_of_ble_eq_true rfl) rfl (Nat.le_of_ble_eq_true rfl) rfl (Nat.le_of_ble_eq_true rfl) rfl rfl ?_
    refine me_icmp_lt (q2 := 19) (q := 15) C dX11_broke_12 (by decide) rfl (fun c8 => ?_) (fun c8 => ?_)
    · have hf := mm_if_t c8 hf
      refine me_aload_n (q := 20) C dX11_broke_19 rfl rfl rfl ?_
      obtain ⟨k9, hf⟩ := mm_ck_some hf
      refine me_getR (q := 23) C dX11_broke_20 mf_X11_10 rfl rfl k9 rfl ?_
      refine me_iload_n (q := 24) C dX11_broke_23 rfl rfl rfl ?_
      obtain ⟨u10, eu10, hf⟩ := mm_rf_some hf
      obtain ⟨k11, hf⟩ := mm_ck_some hf
      obtain ⟨v12, g13, e14, hf⟩ := mm_cl_some hf
      refine me_callV (q := 27) (c2 := 0) (s2 := 0) (st := []) C (cJx4a65c_get_915e3_ok _ e14) mt_X11_151 mv_Jx4a65c_get_915e3 rfl (by decide) dX11_broke_24 eu10 k11 rfl rfl rfl (Nat.le_of_ble_eq_true rfl) rfl (Nat.le_of_ble_eq_true rfl) rfl (Nat.le_of_ble_eq_true rfl) rfl rfl ?_
      obtain ⟨u15, eu15, hf⟩ := mm_rf_some hf
      obtain ⟨k16, hf⟩ := mm_ck_some hf
      refine me_cast (q := 30) C dX11_broke_27 mk_X11_98 eu15 k16 rfl ?_
      refine me_getI (q := 33) C dX11_broke_30 mf_X11_436 rfl eu15 k16 rfl ?_
      exact me_iret C hE (Nat.le_of_ble_eq_true rfl) (Nat.le_of_ble_eq_true rfl) rfl dX11_broke_33 (mm_ri hf)
    · have hf := mm_if_f c8 hf
      refine me_iconst (v := (-1 : Int32)) (q := 16) C dX11_broke_15 (by decide) rfl ?_
      refine me_goto (q := 33) C dX11_broke_16 (by decide) ?_
      exact me_iret C hE (Nat.le_of_ble_eq_true rfl) (Nat.le_of_ble_eq_true rfl) rfl dX11_broke_33 (mm_ri hf)
set_option maxRecDepth 100000 in
set_option maxHeartbeats 4000000 in
theorem cX11_hand_ok (l : Launch) {a0 : Nat} {a1 : Int32} {a2 : Int32} {a3 : Int32} {a4 : Int32} {h : mm_H} {r : Int32} {h1 : mm_H} (hf : fX11_hand a0 a1 a2 a3 a4 h = some (r, h1)) : mm_M l yX11_hand cX11_hand 5 (some .boolean) 4 0 0 [vR (some a0), vI a1, vI a2, vI a3, vI a4] h (some (vI r)) h1 := by
  refine mm_enter (lv := [some (vR (some a0)), some (vI a1), some (vI a2), some (vI a3), some (vI a4)]) (by decide) rfl (Nat.le_of_ble_eq_true rfl) ?_
  intro X hl C hE
  subst hl
  unfold fX11_hand at hf
  refine me_iload_n (q := 1) C dX11_hand_0 rfl rfl rfl ?_
  refine me_iconst (v := (0 : Int32)) (q := 2) C dX11_hand_1 (by decide) rfl ?_
  refine me_sipush (v := (9999 : Int32)) (q := 5) C dX11_hand_2 (by decide) rfl ?_
  obtain ⟨v1, g2, e3, hf⟩ := mm_cl_some hf
  refine me_callS (q := 8) (c2 := 0) (s2 := 0) (st := []) C (cX11_within_ok _ e3) mt_X11_93 ms_X11_within dX11_hand_5 rfl rfl rfl (Nat.le_of_ble_eq_true rfl) rfl (Nat.le_of_ble_eq_true rfl) rfl (Nat.le_of_ble_eq_true rfl) rfl rfl ?_
  refine me_if_eq (q2 := 33) (q := 11) C dX11_hand_8 (by decide) rfl (fun c4 => ?_) (fun c4 => ?_)
  · have hf := mm_if_t c4 hf
    refine me_iconst (v := (0 : Int32)) (q := 34) C dX11_hand_33 (by decide) rfl ?_
    exact me_zret C hE (Nat.le_of_ble_eq_true rfl) (Nat.le_of_ble_eq_true rfl) rfl (Or.inl rfl) dX11_hand_34 (mm_ri hf)
  · have hf := mm_if_f c4 hf
    refine me_iload_n (q := 12) C dX11_hand_11 rfl rfl rfl ?_
    refine me_iconst (v := (0 : Int32)) (q := 13) C dX11_hand_12 (by decide) rfl ?_
    refine me_sipush (v := (9999 : Int32)) (q := 16) C dX11_hand_13 (by decide) rfl ?_
    obtain ⟨v5, g6, e7, hf⟩ := mm_cl_some hf
    refine me_callS (q := 19) (c2 := 0) (s2 := 0) (st := []) C (cX11_within_ok _ e7) mt_X11_93 ms_X11_within dX11_hand_16 rfl rfl rfl (Nat.le_of_ble_eq_true rfl) rfl (Nat.le_of_ble_eq_true rfl) rfl (Nat.le_of_ble_eq_true rfl) rfl rfl ?_
    refine me_if_eq (q2 := 33) (q := 22) C dX11_hand_19 (by decide) rfl (fun c8 => ?_) (fun c8 => ?_)
    · have hf := mm_if_t c8 hf
      refine me_iconst (v := (0 : Int32)) (q := 34) C dX11_hand_33 (by decide) rfl ?_
      exact me_zret C hE (Nat.le_of_ble_eq_true rfl) (Nat.le_of_ble_eq_true rfl) rfl (Or.inl rfl) dX11_hand_34 (mm_ri hf)
    · have hf := mm_if_f c8 hf
      refine me_iload (q := 24) C dX11_hand_22 rfl rfl ?_
      refine me_iconst (v := (1 : Int32)) (q := 25) C dX11_hand_24 (by decide) rfl ?_
      refine me_bipush (v := (8 : Int32)) (q := 27) C dX11_hand_25 (by decide) rfl ?_
      obtain ⟨v9, g10, e11, hf⟩ := mm_cl_some hf
      refine me_callS (q := 30) (c2 := 0) (s2 := 0) (st := []) C (cX11_within_ok _ e11) mt_X11_93 ms_X11_within dX11_hand_27 rfl rfl rfl (Nat.le_of_ble_eq_true rfl) rfl (Nat.le_of_ble_eq_true rfl) rfl (Nat.le_of_ble_eq_true rfl) rfl rfl ?_
      refine me_if_ne (q2 := 35) (q := 33) C dX11_hand_30 (by decide) rfl (fun c12 => ?_) (fun c12 => ?_)
      · have hf := mm_if_t c12 hf
        refine me_aload_n (q := 36) C dX11_hand_35 rfl rfl rfl ?_
        obtain ⟨k13, hf⟩ := mm_ck_some hf
        refine me_getR (q := 39) C dX11_hand_36 mf_X11_64 rfl rfl k13 rfl ?_
        refine me_iload_n (q := 40) C dX11_hand_39 rfl rfl rfl ?_
        refine me_iload_n (q := 41) C dX11_hand_40 rfl rfl rfl ?_
        refine me_iload_n (q := 42) C dX11_hand_41 rfl rfl rfl ?_
        refine me_iload (q := 44) C dX11_hand_42 rfl rfl ?_
        obtain ⟨u14, eu14, hf⟩ := mm_rf_some hf
        obtain ⟨k15, hf⟩ := mm_ck_some hf
        obtain ⟨v16, g17, e18, hf⟩ := mm_cl_some hf
        refine me_callV (q := 47) (c2 := 0) (s2 := 0) (st := []) C (cX3_setHand_ok _ e18) mt_X11_442 mv_X3_setHand rfl (by decide) dX11_hand_44 eu14 k15 rfl rfl rfl (Nat.le_of_ble_eq_true rfl) rfl (Nat.le_of_ble_eq_true rfl) rfl (Nat.le_of_ble_eq_true rfl) rfl rfl ?_
        obtain ⟨k19, hf⟩ := mm_ck_some hf
        exact me_zret C hE (Nat.le_of_ble_eq_true rfl) (Nat.le_of_ble_eq_true rfl) rfl k19 dX11_hand_47 (mm_ri hf)
      · have hf := mm_if_f c12 hf
        refine me_iconst (v := (0 : Int32)) (q := 34) C dX11_hand_33 (by decide) rfl ?_
        exact me_zret C hE (Nat.le_of_ble_eq_true rfl) (Nat.le_of_ble_eq_true rfl) rfl (Or.inl rfl) dX11_hand_34 (mm_ri hf)
set_option maxRecDepth 100000 in
set_option maxHeartbeats 4000000 in
theorem cX11_breakers_ok (l : Launch) {a0 : Nat} {a1 : Int32} {h : mm_H} {r : Int32} {h1 : mm_H} (hf : fX11_breakers a0 a1 h = some (r, h1)) : mm_M l yX11_breakers cX11_breakers 2 (some .int) 8 0 0 [vR (some a0), vI a1] h (some (vI r)) h1 := by
  refine mm_enter (lv := [some (vR (some a0)), some (vI a1)]) (by decide) rfl (Nat.le_of_ble_eq_true rfl) ?_
  intro X hl C hE
  subst hl
  unfold fX11_breakers at hf
  refine me_iload_n (q := 1) C dX11_breakers_0 rfl rfl rfl ?_
  refine me_iconst (v := (1 : Int32)) (q := 2) C dX11_breakers_1 (by decide) rfl ?_
  refine me_aload_n (q := 3) C dX11_breakers_2 rfl rfl rfl ?_
  obtain ⟨k1, hf⟩ := mm_ck_some hf
  refine me_getR (q := 6) C dX11_breakers_3 mf_X11_64 rfl rfl k1 rfl ?_
  obtain ⟨u2, eu2, hf⟩ := mm_rf_some hf
  obtain ⟨k3, hf⟩ := mm_ck_some hf
  refine me_getI (q := 9) C dX11_breakers_6 mf_X11_446 rfl eu2 k3 rfl ?_
  obtain ⟨v4, g5, e6, hf⟩ := mm_cl_some hf
  refine me_callS (q := 12) (c2 := 0) (s2 := 0) (st := []) C (cX11_within_ok _ e6) mt_X11_93 ms_X11_within dX11_breakers_9 rfl rfl rfl (Nat.le_of_ble_eq_true rfl) rfl (Nat.le_of_ble_eq_true rfl) rfl (Nat.le_of_ble_eq_true rfl) rfl rfl ?_
  refine me_if_ne (q2 := 17) (q := 15) C dX11_breakers_12 (by decide) rfl (fun c7 => ?_) (fun c7 => ?_)
  · have hf := mm_if_t c7 hf
    refine me_aload_n (q := 18) C dX11_breakers_17 rfl rfl rfl ?_
    obtain ⟨k8, hf⟩ := mm_ck_some hf
    refine me_getR (q := 21) C dX11_breakers_18 mf_X11_64 rfl rfl k8 rfl ?_
    refine me_iload_n (q := 22) C dX11_breakers_21 rfl rfl rfl ?_
    obtain ⟨u9, eu9, hf⟩ := mm_rf_some hf
    obtain ⟨k10, hf⟩ := mm_ck_some hf
    obtain ⟨v11, g12, e13, hf⟩ := mm_cl_some hf
    refine me_callV (q := 25) (c2 := 0) (s2 := 0) (st := []) C (cX3_findHolding_ok _ e13) mt_X11_449 mv_X3_findHolding rfl (by decide) dX11_breakers_22 eu9 k10 rfl rfl rfl (Nat.le_of_ble_eq_true rfl) rfl (Nat.le_of_ble_eq_true rfl) rfl (Nat.le_of_ble_eq_true rfl) rfl rfl ?_
    exact me_iret C hE (Nat.le_of_ble_eq_true rfl) (Nat.le_of_ble_eq_true rfl) rfl dX11_breakers_25 (mm_ri hf)
  · have hf := mm_if_f c7 hf
    refine me_iconst (v := (-1 : Int32)) (q := 16) C dX11_breakers_15 (by decide) rfl ?_
    exact me_iret C hE (Nat.le_of_ble_eq_true rfl) (Nat.le_of_ble_eq_true rfl) rfl dX11_breakers_16 (mm_ri hf)
set_option maxRecDepth 100000 in
set_option maxHeartbeats 4000000 in
theorem cX11_holds_ok (l : Launch) {a0 : Nat} {a1 : Int32} {h : mm_H} {r : Int32} {h1 : mm_H} (hf : fX11_holds a0 a1 h = some (r, h1)) : mm_M l yX11_holds cX11_holds 2 (some .int) 2 0 0 [vR (some a0), vI a1] h (some (vI r)) h1 := by
  refine mm_enter (lv := [some (vR (some a0)), some (vI a1)]) (by decide) rfl (Nat.le_of_ble_eq_true rfl) ?_
  intro X hl C hE
  subst hl
  unfold fX11_holds at hf
  refine me_iload_n (q := 1) C dX11_holds_0 rfl rfl rfl ?_
  refine me_if_lt (q2 := 15) (q := 4) C dX11_holds_1 (by decide) rfl (fun c1 => ?_) (fun c1 => ?_)
  · have hf := mm_if_t c1 hf
    refine me_iconst (v := (-1 : Int32)) (q := 16) C dX11_holds_15 (by decide) rfl ?_
    refine me_goto (q := 28) C dX11_holds_16 (by decide) ?_
    exact me_iret C hE (Nat.le_of_ble_eq_true rfl) (Nat.le_of_ble_eq_true rfl) rfl dX11_holds_28 (mm_ri hf)
  · have hf := mm_if_f c1 hf
    refine me_iload_n (q := 5) C dX11_holds_4 rfl rfl rfl ?_
    refine me_aload_n (q := 6) C dX11_holds_5 rfl rfl rfl ?_
    obtain ⟨k2, hf⟩ := mm_ck_some hf
    refine me_getR (q := 9) C dX11_holds_6 mf_X11_64 rfl rfl k2 rfl ?_
    obtain ⟨u3, eu3, hf⟩ := mm_rf_some hf
    obtain ⟨k4, hf⟩ := mm_ck_some hf
    refine me_getI (q := 12) C dX11_holds_9 mf_X11_452 rfl eu3 k4 rfl ?_
    refine me_icmp_lt (q2 := 19) (q := 15) C dX11_holds_12 (by decide) rfl (fun c5 => ?_) (fun c5 => ?_)
    · have hf := mm_if_t c5 hf
      refine me_aload_n (q := 20) C dX11_holds_19 rfl rfl rfl ?_
      refine me_getR (q := 23) C dX11_holds_20 mf_X11_64 rfl rfl k2 rfl ?_
      refine me_getR (q := 26) C dX11_holds_23 mf_X11_455 rfl eu3 k4 rfl ?_
      refine me_iload_n (q := 27) C dX11_holds_26 rfl rfl rfl ?_
      obtain ⟨u6, eu6, hf⟩ := mm_rf_some hf
      obtain ⟨k7, hf⟩ := mm_ck_some hf
      obtain ⟨k8, hf⟩ := mm_ck_some hf
      refine me_iald (q := 28) C dX11_holds_27 eu6 k7 k8 rfl ?_
      exact me_iret C hE (Nat.le_of_ble_eq_true rfl) (Nat.le_of_ble_eq_true rfl) rfl dX11_holds_28 (mm_ri hf)
    · have hf := mm_if_f c5 hf
      refine me_iconst (v := (-1 : Int32)) (q := 16) C dX11_holds_15 (by decide) rfl ?_
      refine me_goto (q := 28) C dX11_holds_16 (by decide) ?_
      exact me_iret C hE (Nat.le_of_ble_eq_true rfl) (Nat.le_of_ble_eq_true rfl) rfl dX11_holds_28 (mm_ri hf)
set_option maxRecDepth 100000 in
set_option maxHeartbeats 4000000 in
theorem cX11_entry_ok (l : Launch) {a0 : Nat} {a1 : Int32} {a2 : Int32} {a3 : Int32} {a4 : Int32} {h : mm_H} {r : Int32} {h1 : mm_H} (hf : fX11_entry a0 a1 a2 a3 a4 h = some (r, h1)) : mm_M l yX11_entry cX11_entry 5 (some .int) 4 0 0 [vR (some a0), vI a1, vI a2, vI a3, vI a4] h (some (vI r)) h1 := by
  refine mm_enter (lv := [some (vR (some a0)), some (vI a1), some (vI a2), some (vI a3), some (vI a4)]) (by decide) rfl (Nat.le_of_ble_eq_true rfl) ?_
  intro X hl C hE
  subst hl
  unfold fX11_entry at hf
  refine me_iload_n (q := 1) C dX11_entry_0 rfl rfl rfl ?_
  refine me_iconst (v := (0 : Int32)) (q := 2) C dX11_entry_1 (by decide) rfl ?_
  refine me_iconst (v := (1 : Int32)) (q := 3) C dX11_entry_2 (by decide) rfl ?_
  obtain ⟨v1, g2, e3, hf⟩ := mm_cl_some hf
  refine me_callS (q := 6) (c2 := 0) (s2 := 0) (st := []) C (cX11_within_ok _ e3) mt_X11_93 ms_X11_within dX11_entry_3 rfl rfl rfl (Nat.le_of_ble_eq_true rfl) rfl (Nat.le_of_ble_eq_true rfl) rfl (Nat.le_of_ble_eq_true rfl) rfl rfl ?_
  refine me_if_eq (q2 := 42) (q := 9) C dX11_entry_6 (by decide) rfl (fun c4 => ?_) (fun c4 => ?_)
  · have hf := mm_if_t c4 hf
    refine me_iconst (v := (-1 : Int32)) (q := 43) C dX11_entry_42 (by decide) rfl ?_
    exact me_iret C hE (Nat.le_of_ble_eq_true rfl) (Nat.le_of_ble_eq_true rfl) rfl dX11_entry_43 (mm_ri hf)
  · have hf := mm_if_f c4 hf
    refine me_iload_n (q := 10) C dX11_entry_9 rfl rfl rfl ?_
    obtain ⟨v5, g6, e7, hf⟩ := mm_cl_some hf
    refine me_callS (q := 13) (c2 := 0) (s2 := 0) (st := []) C (cX11_isDay_ok _ e7) mt_X11_219 ms_X11_isDay dX11_entry_10 rfl rfl rfl (Nat.le_of_ble_eq_true rfl) rfl (Nat.le_of_ble_eq_true rfl) rfl (Nat.le_of_ble_eq_true rfl) rfl rfl ?_
    refine me_if_eq (q2 := 42) (q := 16) C dX11_entry_13 (by decide) rfl (fun c8 => ?_) (fun c8 => ?_)
    · have hf := mm_if_t c8 hf
      refine me_iconst (v := (-1 : Int32)) (q := 43) C dX11_entry_42 (by decide) rfl ?_
      exact me_iret C hE (Nat.le_of_ble_eq_true rfl) (Nat.le_of_ble_eq_true rfl) rfl dX11_entry_43 (mm_ri hf)
    · have hf := mm_if_f c8 hf
      refine me_iload_n (q := 17) C dX11_entry_16 rfl rfl rfl ?_
      refine me_if_lt (q2 := 42) (q := 20) C dX11_entry_17 (by decide) rfl (fun c9 => ?_) (fun c9 => ?_)
      · have hf := mm_if_t c9 hf
        refine me_iconst (v := (-1 : Int32)) (q := 43) C dX11_entry_42 (by decide) rfl ?_
        exact me_iret C hE (Nat.le_of_ble_eq_true rfl) (Nat.le_of_ble_eq_true rfl) rfl dX11_entry_43 (mm_ri hf)
      · have hf := mm_if_f c9 hf
        refine me_iload_n (q := 21) C dX11_entry_20 rfl rfl rfl ?_
        refine me_aload_n (q := 22) C dX11_entry_21 rfl rfl rfl ?_
        obtain ⟨k10, hf⟩ := mm_ck_some hf
        refine me_getR (q := 25) C dX11_entry_22 mf_X11_10 rfl rfl k10 rfl ?_
        obtain ⟨u11, eu11, hf⟩ := mm_rf_some hf
        obtain ⟨k12, hf⟩ := mm_ck_some hf
        obtain ⟨v13, g14, e15, hf⟩ := mm_cl_some hf
        refine me_callV (q := 28) (c2 := 0) (s2 := 0) (st := [vI a3]) C (cJx4a65c_size_8abf5_ok _ e15) mt_X11_89 mv_Jx4a65c_size_8abf5 rfl (by decide) dX11_entry_25 eu11 k12 rfl rfl rfl (Nat.le_of_ble_eq_true rfl) rfl (Nat.le_of_ble_eq_true rfl) rfl (Nat.le_of_ble_eq_true rfl) rfl rfl ?_
        refine me_icmp_ge (q2 := 42) (q := 31) C dX11_entry_28 (by decide) rfl (fun c16 => ?_) (fun c16 => ?_)
        · have hf := mm_if_t c16 hf
          refine me_iconst (v := (-1 : Int32)) (q := 43) C dX11_entry_42 (by decide) rfl ?_
          exact me_iret C hE (Nat.le_of_ble_eq_true rfl) (Nat.le_of_ble_eq_true rfl) rfl dX11_entry_43 (mm_ri hf)
        · have hf := mm_if_f c16 hf
          refine me_iload (q := 33) C dX11_entry_31 rfl rfl ?_
          refine me_iconst (v := (0 : Int32)) (q := 34) C dX11_entry_33 (by decide) rfl ?_
          refine me_ldc (v := (1000000 : Int32)) (q := 36) C dX11_entry_34 mc_X11_97 rfl ?_
          obtain ⟨v17, g18, e19, hf⟩ := mm_cl_some hf
          refine me_callS (q := 39) (c2 := 0) (s2 := 0) (st := []) C (cX11_within_ok _ e19) mt_X11_93 ms_X11_within dX11_entry_36 rfl rfl rfl (Nat.le_of_ble_eq_true rfl) rfl (Nat.le_of_ble_eq_true rfl) rfl (Nat.le_of_ble_eq_true rfl) rfl rfl ?_
          refine me_if_ne (q2 := 44) (q := 42) C dX11_entry_39 (by decide) rfl (fun c20 => ?_) (fun c20 => ?_)
          · have hf := mm_if_t c20 hf
            refine me_aload_n (q := 45) C dX11_entry_44 rfl rfl rfl ?_
            obtain ⟨k21, hf⟩ := mm_ck_some hf
            refine me_getR (q := 48) C dX11_entry_45 mf_X11_71 rfl rfl k21 rfl ?_
            refine me_iload_n (q := 49) C dX11_entry_48 rfl rfl rfl ?_
            refine me_iload_n (q := 50) C dX11_entry_49 rfl rfl rfl ?_
            refine me_iload_n (q := 51) C dX11_entry_50 rfl rfl rfl ?_
            refine me_iload (q := 53) C dX11_entry_51 rfl rfl ?_
            obtain ⟨u22, eu22, hf⟩ := mm_rf_some hf
            obtain ⟨k23, hf⟩ := mm_ck_some hf
            obtain ⟨v24, g25, e26, hf⟩ := mm_cl_some hf
            refine me_callV (q := 56) (c2 := 0) (s2 := 0) (st := []) C (cX1_add_ok _ e26) mt_X11_458 mv_X1_add rfl (by decide) dX11_entry_53 eu22 k23 rfl rfl rfl (Nat.le_of_ble_eq_true rfl) rfl (Nat.le_of_ble_eq_true rfl) rfl (Nat.le_of_ble_eq_true rfl) rfl rfl ?_
            exact me_iret C hE (Nat.le_of_ble_eq_true rfl) (Nat.le_of_ble_eq_true rfl) rfl dX11_entry_56 (mm_ri hf)
          · have hf := mm_if_f c20 hf
            refine me_iconst (v := (-1 : Int32)) (q := 43) C dX11_entry_42 (by decide) rfl ?_
            exact me_iret C hE (Nat.le_of_ble_eq_true rfl) (Nat.le_of_ble_eq_true rfl) rfl dX11_entry_43 (mm_ri hf)
set_option maxRecDepth 100000 in
set_option maxHeartbeats 4000000 in
theorem cX11_clear_ok (l : Launch) {a0 : Nat} {h : mm_H} {r : Int32} {h1 : mm_H} (hf : fX11_clear a0 h = some (r, h1)) : mm_M l yX11_clear cX11_clear 1 (some .int) 4 0 0 [vR (some a0)] h (some (vI r)) h1 := by
  refine mm_enter (lv := [some (vR (some a0))]) (by decide) rfl (Nat.le_of_ble_eq_true rfl) ?_
  intro X hl C hE
  subst hl
  unfold fX11_clear at hf
  refine me_aload_n (q := 1) C dX11_clear_0 rfl rfl rfl ?_
  obtain ⟨k1, hf⟩ := mm_ck_some hf
  refine me_getR (q := 4) C dX11_clear_1 mf_X11_71 rfl rfl k1 rfl ?_
  obtain ⟨u2, eu2, hf⟩ := mm_rf_some hf
  obtain ⟨k3, hf⟩ := mm_ck_some hf
  obtain ⟨v4, g5, e6, hf⟩ := mm_cl_some hf
  refine me_callV (q := 7) (c2 := 0) (s2 := 0) (st := []) C (cX1_empty_ok _ e6) mt_X11_459 mv_X1_empty rfl (by decide) dX11_clear_4 eu2 k3 rfl rfl rfl (Nat.le_of_ble_eq_true rfl) rfl (Nat.le_of_ble_eq_true rfl) rfl (Nat.le_of_ble_eq_true rfl) rfl rfl ?_
  exact me_iret C hE (Nat.le_of_ble_eq_true rfl) (Nat.le_of_ble_eq_true rfl) rfl dX11_clear_7 (mm_ri hf)
set_option maxRecDepth 100000 in
set_option maxHeartbeats 4000000 in
theorem cX11_join_ok (l : Launch) {a0 : Nat} {a1 : Int32} {a2 : Int32} {h : mm_H} {r : Int32} {h1 : mm_H} (hf : fX11_join a0 a1 a2 h = some (r, h1)) : mm_M l yX11_join cX11_join 3 (some .int) 8 1 11264 [vR (some a0), vI a1, vI a2] h (some (vI r)) h1 := by
  refine mm_enter (lv := [some (vR (some a0)), some (vI a1), some (vI a2)]) (by decide) rfl (Nat.le_of_ble_eq_true rfl) ?_
  intro X hl C hE
  subst hl
  unfold fX11_join at hf
  refine me_iload_n (q := 1) C dX11_join_0 rfl rfl rfl ?_
  refine me_iconst (v := (0 : Int32)) (q := 2) C dX11_join_1 (by decide) rfl ?_
  refine me_sipush (v := (1000 : Int32)) (q := 5) C dX11_join_2 (by decide) rfl ?_
  obtain ⟨v1, g2, e3, hf⟩ := mm_cl_some hf
  refine me_callS (q := 8) (c2 := 0) (s2 := 0) (st := []) C (cX11_within_ok _ e3) mt_X11_93 ms_X11_within dX11_join_5 rfl rfl rfl (Nat.le_of_ble_eq_true rfl) rfl (Nat.le_of_ble_eq_true rfl) rfl (Nat.le_of_ble_eq_true rfl) rfl rfl ?_
  refine me_if_eq (q2 := 22) (q := 11) C dX11_join_8 (by decide) rfl (fun c4 => ?_) (fun c4 => ?_)
  · have hf := mm_if_t c4 hf
    refine me_iconst (v := (-1 : Int32)) (q := 23) C dX11_join_22 (by decide) rfl ?_
    exact me_iret C hE (Nat.le_of_ble_eq_true rfl) (Nat.le_of_ble_eq_true rfl) rfl dX11_join_23 (mm_ri hf)
  · have hf := mm_if_f c4 hf
    refine me_iload_n (q := 12) C dX11_join_11 rfl rfl rfl ?_
    refine me_iconst (v := (0 : Int32)) (q := 13) C dX11_join_12 (by decide) rfl ?_
    refine me_sipush (v := (1000 : Int32)) (q := 16) C dX11_join_13 (by decide) rfl ?_
    obtain ⟨v5, g6, e7, hf⟩ := mm_cl_some hf
    refine me_callS (q := 19) (c2 := 0) (s2 := 0) (st := []) C (cX11_within_ok _ e7) mt_X11_93 ms_X11_within dX11_join_16 rfl rfl rfl (Nat.le_of_ble_eq_true rfl) rfl (Nat.le_of_ble_eq_true rfl) rfl (Nat.le_of_ble_eq_true rfl) rfl rfl ?_
    refine me_if_ne (q2 := 24) (q := 22) C dX11_join_19 (by decide) rfl (fun c8 => ?_) (fun c8 => ?_)
    · have hf := mm_if_t c8 hf
      refine me_aload_n (q := 25) C dX11_join_24 rfl rfl rfl ?_
      obtain ⟨k9, hf⟩ := mm_ck_some hf
      refine me_getR (q := 28) C dX11_join_25 mf_X11_71 rfl rfl k9 rfl ?_
      refine me_iload_n (q := 29) C dX11_join_28 rfl rfl rfl ?_
      refine me_iload_n (q := 30) C dX11_join_29 rfl rfl rfl ?_
      obtain ⟨u10, eu10, hf⟩ := mm_rf_some hf
      obtain ⟨k11, hf⟩ := mm_ck_some hf
      obtain ⟨v12, g13, e14, hf⟩ := mm_cl_some hf
      refine me_callV (q := 33) (c2 := 1) (s2 := 11264) (st := []) C (cX1_findPairs_ok _ e14) mt_X11_462 mv_X1_findPairs rfl (by decide) dX11_join_30 eu10 k11 rfl rfl rfl (Nat.le_of_ble_eq_true rfl) rfl (Nat.le_of_ble_eq_true rfl) rfl (Nat.le_of_ble_eq_true rfl) rfl rfl ?_
      exact me_iret C hE (Nat.le_of_ble_eq_true rfl) (Nat.le_of_ble_eq_true rfl) rfl dX11_join_33 (mm_ri hf)
    · have hf := mm_if_f c8 hf
      refine me_iconst (v := (-1 : Int32)) (q := 23) C dX11_join_22 (by decide) rfl ?_
      exact me_iret C hE (Nat.le_of_ble_eq_true rfl) (Nat.le_of_ble_eq_true rfl) rfl dX11_join_23 (mm_ri hf)
set_option maxRecDepth 100000 in
set_option maxHeartbeats 4000000 in
theorem cX11_joined_ok (l : Launch) {a0 : Nat} {a1 : Int32} {h : mm_H} {r : Int32} {h1 : mm_H} (hf : fX11_joined a0 a1 h = some (r, h1)) : mm_M l yX11_joined cX11_joined 2 (some .int) 2 0 0 [vR (some a0), vI a1] h (some (vI r)) h1 := by
  refine mm_enter (lv := [some (vR (some a0)), some (vI a1)]) (by decide) rfl (Nat.le_of_ble_eq_true rfl) ?_
  intro X hl C hE
  subst hl
  unfold fX11_joined at hf
  refine me_aload_n (q := 1) C dX11_joined_0 rfl rfl rfl ?_
  obtain ⟨k1, hf⟩ := mm_ck_some hf
  refine me_getR (q := 4) C dX11_joined_1 mf_X11_71 rfl rfl k1 rfl ?_
  obtain ⟨u2, eu2, hf⟩ := mm_rf_some hf
  obtain ⟨k3, hf⟩ := mm_ck_some hf
  refine me_getI (q := 7) C dX11_joined_4 mf_X11_465 rfl eu2 k3 rfl ?_
  refine me_if_eq (q2 := 29) (q := 10) C dX11_joined_7 (by decide) rfl (fun c4 => ?_) (fun c4 => ?_)
  · have hf := mm_if_t c4 hf
    refine me_iconst (v := (-1 : Int32)) (q := 30) C dX11_joined_29 (by decide) rfl ?_
    exact me_iret C hE (Nat.le_of_ble_eq_true rfl) (Nat.le_of_ble_eq_true rfl) rfl dX11_joined_30 (mm_ri hf)
  · have hf := mm_if_f c4 hf
    refine me_iload_n (q := 11) C dX11_joined_10 rfl rfl rfl ?_
    refine me_bipush (v := (-2 : Int32)) (q := 13) C dX11_joined_11 (by decide) rfl ?_
    refine me_icmp_lt (q2 := 29) (q := 16) C dX11_joined_13 (by decide) rfl (fun c5 => ?_) (fun c5 => ?_)
    · have hf := mm_if_t c5 hf
      refine me_iconst (v := (-1 : Int32)) (q := 30) C dX11_joined_29 (by decide) rfl ?_
      exact me_iret C hE (Nat.le_of_ble_eq_true rfl) (Nat.le_of_ble_eq_true rfl) rfl dX11_joined_30 (mm_ri hf)
    · have hf := mm_if_f c5 hf
      refine me_iload_n (q := 17) C dX11_joined_16 rfl rfl rfl ?_
      refine me_aload_n (q := 18) C dX11_joined_17 rfl rfl rfl ?_
      refine me_getR (q := 21) C dX11_joined_18 mf_X11_71 rfl rfl k1 rfl ?_
      refine me_getR (q := 24) C dX11_joined_21 mf_X11_468 rfl eu2 k3 rfl ?_
      refine me_iconst (v := (0 : Int32)) (q := 25) C dX11_joined_24 (by decide) rfl ?_
      obtain ⟨u6, eu6, hf⟩ := mm_rf_some hf
      obtain ⟨k7, hf⟩ := mm_ck_some hf
      obtain ⟨k8, hf⟩ := mm_ck_some hf
      refine me_iald (q := 26) C dX11_joined_25 eu6 k7 k8 rfl ?_
      refine me_icmp_lt (q2 := 31) (q := 29) C dX11_joined_26 (by decide) rfl (fun c9 => ?_) (fun c9 => ?_)
      · have hf := mm_if_t c9 hf
        refine me_iload_n (q := 32) C dX11_joined_31 rfl rfl rfl ?_
        refine me_iconst (v := (-1 : Int32)) (q := 33) C dX11_joined_32 (by decide) rfl ?_
        refine me_icmp_ne (q2 := 44) (q := 36) C dX11_joined_33 (by decide) rfl (fun c10 => ?_) (fun c10 => ?_)
        · have hf := mm_if_t c10 hf
          refine me_iload_n (q := 45) C dX11_joined_44 rfl rfl rfl ?_
          refine me_bipush (v := (-2 : Int32)) (q := 47) C dX11_joined_45 (by decide) rfl ?_
          refine me_icmp_ne (q2 := 60) (q := 50) C dX11_joined_47 (by decide) rfl (fun c11 => ?_) (fun c11 => ?_)
          · have hf := mm_if_t c11 hf
            refine me_aload_n (q := 61) C dX11_joined_60 rfl rfl rfl ?_
            refine me_getR (q := 64) C dX11_joined_61 mf_X11_71 rfl rfl k1 rfl ?_
            refine me_getR (q := 67) C dX11_joined_64 mf_X11_477 rfl eu2 k3 rfl ?_
            refine me_iload_n (q := 68) C dX11_joined_67 rfl rfl rfl ?_
            obtain ⟨u12, eu12, hf⟩ := mm_rf_some hf
            obtain ⟨k13, hf⟩ := mm_ck_some hf
            obtain ⟨k14, hf⟩ := mm_ck_some hf
            refine me_iald (q := 69) C dX11_joined_68 eu12 k13 k14 rfl ?_
            exact me_iret C hE (Nat.le_of_ble_eq_true rfl) (Nat.le_of_ble_eq_true rfl) rfl dX11_joined_69 (mm_ri hf)
          · have hf := mm_if_f c11 hf
            refine me_aload_n (q := 51) C dX11_joined_50 rfl rfl rfl ?_
            refine me_getR (q := 54) C dX11_joined_51 mf_X11_71 rfl rfl k1 rfl ?_
            refine me_getI (q := 57) C dX11_joined_54 mf_X11_474 rfl eu2 k3 rfl ?_
            refine me_goto (q := 69) C dX11_joined_57 (by decide) ?_
            exact me_iret C hE (Nat.le_of_ble_eq_true rfl) (Nat.le_of_ble_eq_true rfl) rfl dX11_joined_69 (mm_ri hf)
        · have hf := mm_if_f c10 hf
          refine me_aload_n (q := 37) C dX11_joined_36 rfl rfl rfl ?_
          refine me_getR (q := 40) C dX11_joined_37 mf_X11_71 rfl rfl k1 rfl ?_
          refine me_getI (q := 43) C dX11_joined_40 mf_X11_471 rfl eu2 k3 rfl ?_
          exact me_iret C hE (Nat.le_of_ble_eq_true rfl) (Nat.le_of_ble_eq_true rfl) rfl dX11_joined_43 (mm_ri hf)
      · have hf := mm_if_f c9 hf
        refine me_iconst (v := (-1 : Int32)) (q := 30) C dX11_joined_29 (by decide) rfl ?_
        exact me_iret C hE (Nat.le_of_ble_eq_true rfl) (Nat.le_of_ble_eq_true rfl) rfl dX11_joined_30 (mm_ri hf)
set_option maxRecDepth 100000 in
set_option maxHeartbeats 4000000 in
theorem cX11_allCoins_L7 {X : mm_X} (C : mm_C X cX11_allCoins yX11_allCoins 8 0 0) {r : Int64} {h1 : mm_H} (hE : mm_End X 0 0 (some .long) (some (vJ r)) h1) {b0 : Nat} (K42 : Int64 → mm_H → Option (Int64 × mm_H)) : ∀ (n : Nat) (x1 : Int64) (x3 : Int32) (h : mm_H), fX11_allCoins_L7 b0 K42 n x1 x3 h = some (r, h1) → (∀ (y1 : Int64) (h : mm_H), K42 y1 h = some (r, h1) → mm_E X h 0 0 42 [some (vR (some b0)), some (vJ y1), none, none] []) → mm_E X h 0 0 7 [some (vR (some b0)), some (vJ x1), none, some (vI x3)] [] := by
  intro n
  induction n with
  | zero =>
    intro x1 x3 h hf
    exact absurd (show (none : Option (Int64 × mm_H)) = some (r, h1) from hf) (by simp)
  | succ n ih =>
    intro x1 x3 h hf hk42
    have hf : fX11_allCoins_L7_b b0 K42 (fX11_allCoins_L7 b0 K42 n) x1 x3 h = some (r, h1) := hf
    unfold fX11_allCoins_L7_b at hf
    refine me_iload_n (q := 8) C dX11_allCoins_7 rfl rfl rfl ?_
    refine me_aload_n (q := 9) C dX11_allCoins_8 rfl rfl rfl ?_
    obtain ⟨k3, hf⟩ := mm_ck_some hf
    refine me_getR (q := 12) C dX11_allCoins_9 mf_X11_10 rfl rfl k3 rfl ?_
    obtain ⟨u4, eu4, hf⟩ := mm_rf_some hf
    obtain ⟨k5, hf⟩ := mm_ck_some hf
    obtain ⟨v6, g7, e8, hf⟩ := mm_cl_some hf
    refine me_callV (q := 15) (c2 := 0) (s2 := 0) (st := [vI x3]) C (cJx4a65c_size_8abf5_ok _ e8) mt_X11_89 mv_Jx4a65c_size_8abf5 rfl (by decide) dX11_allCoins_12 eu4 k5 rfl rfl rfl (Nat.le_of_ble_eq_true rfl) rfl (Nat.le_of_ble_eq_true rfl) rfl (Nat.le_of_ble_eq_true rfl) rfl rfl ?_
    refine me_icmp_ge (q2 := 42) (q := 18) C dX11_allCoins_15 (by decide) rfl (fun c9 => ?_) (fun c9 => ?_)
    · have hf := mm_if_t c9 hf
      refine me_mask [true, true, false, false] (lv2 := [some (vR (some b0)), some (vJ x1), none, none]) rfl ?_
      exact hk42 _ _ hf
    · have hf := mm_if_f c9 hf
      refine me_lload_n (q := 19) C dX11_allCoins_18 rfl rfl rfl ?_
      refine me_aload_n (q := 20) C dX11_allCoins_19 rfl rfl rfl ?_
      obtain ⟨k10, hf⟩ := mm_ck_some hf
      refine me_getR (q := 23) C dX11_allCoins_20 mf_X11_10 rfl rfl k10 rfl ?_
      refine me_iload_n (q := 24) C dX11_allCoins_23 rfl rfl rfl ?_
      obtain ⟨u11, eu11, hf⟩ := mm_rf_some hf
      obtain ⟨k12, hf⟩ := mm_ck_some hf
      obtain ⟨v13, g14, e15, hf⟩ := mm_cl_some hf
      refine me_callV (q := 27) (c2 := 0) (s2 := 0) (st := [vJ x1]) C (cJx4a65c_get_915e3_ok _ e15) mt_X11_151 mv_Jx4a65c_get_915e3 rfl (by decide) dX11_allCoins_24 eu11 k12 rfl rfl rfl (Nat.le_of_ble_eq_true rfl) rfl (Nat.le_of_ble_eq_true rfl) rfl (Nat.le_of_ble_eq_true rfl) rfl rfl ?_
      obtain ⟨u16, eu16, hf⟩ := mm_rf_some hf
      obtain ⟨k17, hf⟩ := mm_ck_some hf
      refine me_cast (q := 30) C dX11_allCoins_27 mk_X11_98 eu16 k17 rfl ?_
      refine me_getI (q := 33) C dX11_allCoins_30 mf_X11_128 rfl eu16 k17 rfl ?_
      refine me_i2l (q := 34) C dX11_allCoins_33 rfl ?_
      refine me_ladd (q := 35) C dX11_allCoins_34 rfl ?_
      obtain ⟨v18, ev18, hf⟩ := mm_lt_some hf
      refine me_topJ ev18 ?_
      refine me_lstore_n (q := 36) (lv2 := [some (vR (some b0)), some (vJ v18), none, some (vI x3)]) C dX11_allCoins_35 rfl (Nat.le_of_ble_eq_true rfl) rfl rfl rfl ?_
      obtain ⟨v19, ev19, hf⟩ := mm_lt_some hf
      refine me_iinc (q := 39) (v := v19) (lv2 := [some (vR (some b0)), some (vJ v18), none, some (vI v19)]) C dX11_allCoins_36 rfl (by rw [ev19]; rfl) (Nat.le_of_ble_eq_true rfl) rfl rfl rfl ?_
      refine me_goto (q := 7) C dX11_allCoins_39 (by decide) ?_
      exact ih _ _ _ hf hk42
set_option maxRecDepth 100000 in
set_option maxHeartbeats 4000000 in
theorem cX11_allCoins_L44 {X : mm_X} (C : mm_C X cX11_allCoins yX11_allCoins 8 0 0) {r : Int64} {h1 : mm_H} (hE : mm_End X 0 0 (some .long) (some (vJ r)) h1) {b0 : Nat} (K66 : Int64 → mm_H → Option (Int64 × mm_H)) : ∀ (n : Nat) (x1 : Int64) (x3 : Int32) (h : mm_H), fX11_allCoins_L44 b0 K66 n x1 x3 h = some (r, h1) → (∀ (y1 : Int64) (h : mm_H), K66 y1 h = some (r, h1) → mm_E X h 0 0 66 [none, some (vJ y1), none, none] []) → mm_E X h 0 0 44 [some (vR (some b0)), some (vJ x1), none, some (vI x3)] [] := by
  intro n
  induction n with
  | zero =>
    intro x1 x3 h hf
    exact absurd (show (none : Option (Int64 × mm_H)) = some (r, h1) from hf) (by simp)
  | succ n ih =>
    intro x1 x3 h hf hk66
    have hf : fX11_allCoins_L44_b b0 K66 (fX11_allCoins_L44 b0 K66 n) x1 x3 h = some (r, h1) := hf
    unfold fX11_allCoins_L44_b at hf
    refine me_iload_n (q := 45) C dX11_allCoins_44 rfl rfl rfl ?_
    refine me_bipush (v := (10 : Int32)) (q := 47) C dX11_allCoins_45 (by decide) rfl ?_
    refine me_icmp_ge (q2 := 66) (q := 50) C dX11_allCoins_47 (by decide) rfl (fun c22 => ?_) (fun c22 => ?_)
    · have hf := mm_if_t c22 hf
      refine me_mask [false, true, false, false] (lv2 := [none, some (vJ x1), none, none]) rfl ?_
      exact hk66 _ _ hf
    · have hf := mm_if_f c22 hf
      refine me_lload_n (q := 51) C dX11_allCoins_50 rfl rfl rfl ?_
      refine me_aload_n (q := 52) C dX11_allCoins_51 rfl rfl rfl ?_
      obtain ⟨k23, hf⟩ := mm_ck_some hf
      refine me_getR (q := 55) C dX11_allCoins_52 mf_X11_22 rfl rfl k23 rfl ?_
      refine me_iload_n (q := 56) C dX11_allCoins_55 rfl rfl rfl ?_
      obtain ⟨u24, eu24, hf⟩ := mm_rf_some hf
      obtain ⟨k25, hf⟩ := mm_ck_some hf
      obtain ⟨k26, hf⟩ := mm_ck_some hf
      refine me_iald (q := 57) C dX11_allCoins_56 eu24 k25 k26 rfl ?_
      refine me_i2l (q := 58) C dX11_allCoins_57 rfl ?_
      refine me_ladd (q := 59) C dX11_allCoins_58 rfl ?_
      obtain ⟨v27, ev27, hf⟩ := mm_lt_some hf
      refine me_topJ ev27 ?_
      refine me_lstore_n (q := 60) (lv2 := [some (vR (some b0)), some (vJ v27), none, some (vI x3)]) C dX11_allCoins_59 rfl (Nat.le_of_ble_eq_true rfl) rfl rfl rfl ?_
      obtain ⟨v28, ev28, hf⟩ := mm_lt_some hf
      refine me_iinc (q := 63) (v := v28) (lv2 := [some (vR (some b0)), some (vJ v27), none, some (vI v28)]) C dX11_allCoins_60 rfl (by rw [ev28]; rfl) (Nat.le_of_ble_eq_true rfl) rfl rfl rfl ?_
      refine me_goto (q := 44) C dX11_allCoins_63 (by decide) ?_
      exact ih _ _ _ hf hk66
set_option maxRecDepth 100000 in
set_option maxHeartbeats 4000000 in
theorem cX11_allCoins_ok (l : Launch) {a0 : Nat} {h : mm_H} {r : Int64} {h1 : mm_H} (hf : fX11_allCoins a0 h = some (r, h1)) : mm_M l yX11_allCoins cX11_allCoins 4 (some .long) 8 0 0 [vR (some a0)] h (some (vJ r)) h1 := by
  refine mm_enter (lv := [some (vR (some a0)), none, none, none]) (by decide) rfl (Nat.le_of_ble_eq_true rfl) ?_
  intro X hl C hE
  subst hl
  unfold fX11_allCoins at hf
  refine me_aload_n (q := 1) C dX11_allCoins_0 rfl rfl rfl ?_
  obtain ⟨k1, hf⟩ := mm_ck_some hf
  refine me_getJ (q := 4) C dX11_allCoins_1 mf_X11_79 rfl rfl k1 rfl ?_
  obtain ⟨v2, ev2, hf⟩ := mm_lt_some hf
  refine me_topJ ev2 ?_
  refine me_lstore_n (q := 5) (lv2 := [some (vR (some a0)), some (vJ v2), none, none]) C dX11_allCoins_4 rfl (Nat.le_of_ble_eq_true rfl) rfl rfl rfl ?_
  refine me_iconst (v := (0 : Int32)) (q := 6) C dX11_allCoins_5 (by decide) rfl ?_
  refine me_istore_n (q := 7) (lv2 := [some (vR (some a0)), some (vJ v2), none, some (vI (0 : Int32))]) C dX11_allCoins_6 rfl (Nat.le_of_ble_eq_true rfl) rfl rfl rfl ?_
  refine cX11_allCoins_L7 C hE _ _ _ _ _ hf ?_
  · intro z20 g21 hf
    refine me_iconst (v := (0 : Int32)) (q := 43) C dX11_allCoins_42 (by decide) rfl ?_
    refine me_istore_n (q := 44) (lv2 := [some (vR (some a0)), some (vJ z20), none, some (vI (0 : Int32))]) C dX11_allCoins_43 rfl (Nat.le_of_ble_eq_true rfl) rfl rfl rfl ?_
    refine cX11_allCoins_L44 C hE _ _ _ _ _ hf ?_
    · intro z29 g30 hf
      refine me_lload_n (q := 67) C dX11_allCoins_66 rfl rfl rfl ?_
      exact me_lret C hE (Nat.le_of_ble_eq_true rfl) (Nat.le_of_ble_eq_true rfl) rfl dX11_allCoins_67 (mm_rj hf)
set_option maxRecDepth 100000 in
set_option maxHeartbeats 4000000 in
theorem cX11_count_ok (l : Launch) {a0 : Nat} {a1 : Int32} {h : mm_H} {r : Int64} {h1 : mm_H} (hf : fX11_count a0 a1 h = some (r, h1)) : mm_M l yX11_count cX11_count 2 (some .long) 10 0 0 [vR (some a0), vI a1] h (some (vJ r)) h1 := by
  refine mm_enter (lv := [some (vR (some a0)), some (vI a1)]) (by decide) rfl (Nat.le_of_ble_eq_true rfl) ?_
  intro X hl C hE
  subst hl
  unfold fX11_count at hf
  refine me_iload_n (q := 1) C dX11_count_0 rfl rfl rfl ?_
  by_cases c1 : a1 = 0
  · have hf := mm_if_t c1 hf
    refine me_tabIn (q := 72) C dX11_count_1 (by rw [c1]; decide) (by rw [c1]; decide) (by rw [c1]; rfl) (by decide) ?_
    refine me_aload_n (q := 73) C dX11_count_72 rfl rfl rfl ?_
    obtain ⟨k2, hf⟩ := mm_ck_some hf
    refine me_getI (q := 76) C dX11_count_73 mf_X11_75 rfl rfl k2 rfl ?_
    refine me_i2l (q := 77) C dX11_count_76 rfl ?_
    exact me_lret C hE (Nat.le_of_ble_eq_true rfl) (Nat.le_of_ble_eq_true rfl) rfl dX11_count_77 (mm_rj hf)
  have hf := mm_if_f c1 hf
  by_cases c3 : a1 = 1
  · have hf := mm_if_t c3 hf
    refine me_tabIn (q := 78) C dX11_count_1 (by rw [c3]; decide) (by rw [c3]; decide) (by rw [c3]; rfl) (by decide) ?_
    refine me_aload_n (q := 79) C dX11_count_78 rfl rfl rfl ?_
    obtain ⟨k4, hf⟩ := mm_ck_some hf
    refine me_getR (q := 82) C dX11_count_79 mf_X11_10 rfl rfl k4 rfl ?_
    obtain ⟨u5, eu5, hf⟩ := mm_rf_some hf
    obtain ⟨k6, hf⟩ := mm_ck_some hf
    obtain ⟨v7, g8, e9, hf⟩ := mm_cl_some hf
    refine me_callV (q := 85) (c2 := 0) (s2 := 0) (st := []) C (cJx4a65c_size_8abf5_ok _ e9) mt_X11_89 mv_Jx4a65c_size_8abf5 rfl (by decide) dX11_count_82 eu5 k6 rfl rfl rfl (Nat.le_of_ble_eq_true rfl) rfl (Nat.le_of_ble_eq_true rfl) rfl (Nat.le_of_ble_eq_true rfl) rfl rfl ?_
    refine me_i2l (q := 86) C dX11_count_85 rfl ?_
    exact me_lret C hE (Nat.le_of_ble_eq_true rfl) (Nat.le_of_ble_eq_true rfl) rfl dX11_count_86 (mm_rj hf)
  have hf := mm_if_f c3 hf
  by_cases c10 : a1 = 2
  · have hf := mm_if_t c10 hf
    refine me_tabIn (q := 87) C dX11_count_1 (by rw [c10]; decide) (by rw [c10]; decide) (by rw [c10]; rfl) (by decide) ?_
    refine me_aload_n (q := 88) C dX11_count_87 rfl rfl rfl ?_
    obtain ⟨k11, hf⟩ := mm_ck_some hf
    refine me_getR (q := 91) C dX11_count_88 mf_X11_16 rfl rfl k11 rfl ?_
    obtain ⟨u12, eu12, hf⟩ := mm_rf_some hf
    obtain ⟨k13, hf⟩ := mm_ck_some hf
    obtain ⟨v14, g15, e16, hf⟩ := mm_cl_some hf
    refine me_callV (q := 94) (c2 := 0) (s2 := 0) (st := []) C (cJx4a65c_size_8abf5_ok _ e16) mt_X11_89 mv_Jx4a65c_size_8abf5 rfl (by decide) dX11_count_91 eu12 k13 rfl rfl rfl (Nat.le_of_ble_eq_true rfl) rfl (Nat.le_of_ble_eq_true rfl) rfl (Nat.le_of_ble_eq_true rfl) rfl rfl ?_
    refine me_i2l (q := 95) C dX11_count_94 rfl ?_
    exact me_lret C hE (Nat.le_of_ble_eq_true rfl) (Nat.le_of_ble_eq_true rfl) rfl dX11_count_95 (mm_rj hf)
  have hf := mm_if_f c10 hf
  by_cases c17 : a1 = 3
  · have hf := mm_if_t c17 hf
    refine me_tabIn (q := 96) C dX11_count_1 (by rw [c17]; decide) (by rw [c17]; decide) (by rw [c17]; rfl) (by decide) ?_
    refine me_aload_n (q := 97) C dX11_count_96 rfl rfl rfl ?_
    obtain ⟨k18, hf⟩ := mm_ck_some hf
    refine me_getR (q := 100) C dX11_count_97 mf_X11_36 rfl rfl k18 rfl ?_
    obtain ⟨u19, eu19, hf⟩ := mm_rf_some hf
    obtain ⟨k20, hf⟩ := mm_ck_some hf
    refine me_getR (q := 103) C dX11_count_100 mf_X11_191 rfl eu19 k20 rfl ?_
    obtain ⟨u21, eu21, hf⟩ := mm_rf_some hf
    obtain ⟨k22, hf⟩ := mm_ck_some hf
    obtain ⟨v23, g24, e25, hf⟩ := mm_cl_some hf
    refine me_callV (q := 106) (c2 := 0) (s2 := 0) (st := []) C (cJx4a65c_size_8abf5_ok _ e25) mt_X11_89 mv_Jx4a65c_size_8abf5 rfl (by decide) dX11_count_103 eu21 k22 rfl rfl rfl (Nat.le_of_ble_eq_true rfl) rfl (Nat.le_of_ble_eq_true rfl) rfl (Nat.le_of_ble_eq_true rfl) rfl rfl ?_
    refine me_i2l (q := 107) C dX11_count_106 rfl ?_
    exact me_lret C hE (Nat.le_of_ble_eq_true rfl) (Nat.le_of_ble_eq_true rfl) rfl dX11_count_107 (mm_rj hf)
  have hf := mm_if_f c17 hf
  by_cases c26 : a1 = 4
  · have hf := mm_if_t c26 hf
    refine me_tabIn (q := 108) C dX11_count_1 (by rw [c26]; decide) (by rw [c26]; decide) (by rw [c26]; rfl) (by decide) ?_
    refine me_aload_n (q := 109) C dX11_count_108 rfl rfl rfl ?_
    obtain ⟨k27, hf⟩ := mm_ck_some hf
    refine me_getR (q := 112) C dX11_count_109 mf_X11_19 rfl rfl k27 rfl ?_
    obtain ⟨u28, eu28, hf⟩ := mm_rf_some hf
    obtain ⟨k29, hf⟩ := mm_ck_some hf
    obtain ⟨v30, g31, e32, hf⟩ := mm_cl_some hf
    refine me_callV (q := 115) (c2 := 0) (s2 := 0) (st := []) C (cJx4a65c_size_8abf5_ok _ e32) mt_X11_89 mv_Jx4a65c_size_8abf5 rfl (by decide) dX11_count_112 eu28 k29 rfl rfl rfl (Nat.le_of_ble_eq_true rfl) rfl (Nat.le_of_ble_eq_true rfl) rfl (Nat.le_of_ble_eq_true rfl) rfl rfl ?_
    refine me_i2l (q := 116) C dX11_count_115 rfl ?_
    exact me_lret C hE (Nat.le_of_ble_eq_true rfl) (Nat.le_of_ble_eq_true rfl) rfl dX11_count_116 (mm_rj hf)
  have hf := mm_if_f c26 hf
  by_cases c33 : a1 = 5
  · have hf := mm_if_t c33 hf
    refine me_tabIn (q := 117) C dX11_count_1 (by rw [c33]; decide) (by rw [c33]; decide) (by rw [c33]; rfl) (by decide) ?_
    refine me_aload_n (q := 118) C dX11_count_117 rfl rfl rfl ?_
    obtain ⟨k34, hf⟩ := mm_ck_some hf
    refine me_getR (q := 121) C dX11_count_118 mf_X11_43 rfl rfl k34 rfl ?_
    obtain ⟨u35, eu35, hf⟩ := mm_rf_some hf
    obtain ⟨k36, hf⟩ := mm_ck_some hf
    refine me_getI (q := 124) C dX11_count_121 mf_X11_480 rfl eu35 k36 rfl ?_
    refine me_i2l (q := 125) C dX11_count_124 rfl ?_
    exact me_lret C hE (Nat.le_of_ble_eq_true rfl) (Nat.le_of_ble_eq_true rfl) rfl dX11_count_125 (mm_rj hf)
  have hf := mm_if_f c33 hf
  by_cases c37 : a1 = 6
  · have hf := mm_if_t c37 hf
    refine me_tabIn (q := 126) C dX11_count_1 (by rw [c37]; decide) (by rw [c37]; decide) (by rw [c37]; rfl) (by decide) ?_
    refine me_aload_n (q := 127) C dX11_count_126 rfl rfl rfl ?_
    obtain ⟨k38, hf⟩ := mm_ck_some hf
    refine me_getR (q := 130) C dX11_count_127 mf_X11_50 rfl rfl k38 rfl ?_
    obtain ⟨u39, eu39, hf⟩ := mm_rf_some hf
    obtain ⟨k40, hf⟩ := mm_ck_some hf
    refine me_getI (q := 133) C dX11_count_130 mf_X11_423 rfl eu39 k40 rfl ?_
    refine me_i2l (q := 134) C dX11_count_133 rfl ?_
    exact me_lret C hE (Nat.le_of_ble_eq_true rfl) (Nat.le_of_ble_eq_true rfl) rfl dX11_count_134 (mm_rj hf)
  have hf := mm_if_f c37 hf
  by_cases c41 : a1 = 7
  · have hf := mm_if_t c41 hf
    refine me_tabIn (q := 135) C dX11_count_1 (by rw [c41]; decide) (by rw [c41]; decide) (by rw [c41]; rfl) (by decide) ?_
    refine me_aload_n (q := 136) C dX11_count_135 rfl rfl rfl ?_
    obtain ⟨k42, hf⟩ := mm_ck_some hf
    refine me_getR (q := 139) C dX11_count_136 mf_X11_50 rfl rfl k42 rfl ?_
    obtain ⟨u43, eu43, hf⟩ := mm_rf_some hf
    obtain ⟨k44, hf⟩ := mm_ck_some hf
    refine me_getI (q := 142) C dX11_count_139 mf_X11_483 rfl eu43 k44 rfl ?_
    refine me_i2l (q := 143) C dX11_count_142 rfl ?_
    exact me_lret C hE (Nat.le_of_ble_eq_true rfl) (Nat.le_of_ble_eq_true rfl) rfl dX11_count_143 (mm_rj hf)
  have hf := mm_if_f c41 hf
  by_cases c45 : a1 = 8
  · have hf := mm_if_t c45 hf
    refine me_tabIn (q := 144) C dX11_count_1 (by rw [c45]; decide) (by rw [c45]; decide) (by rw [c45]; rfl) (by decide) ?_
    refine me_aload_n (q := 145) C dX11_count_144 rfl rfl rfl ?_
    obtain ⟨k46, hf⟩ := mm_ck_some hf
    refine me_getR (q := 148) C dX11_count_145 mf_X11_50 rfl rfl k46 rfl ?_
    obtain ⟨u47, eu47, hf⟩ := mm_rf_some hf
    obtain ⟨k48, hf⟩ := mm_ck_some hf
    refine me_getI (q := 151) C dX11_count_148 mf_X11_486 rfl eu47 k48 rfl ?_
    refine me_i2l (q := 152) C dX11_count_151 rfl ?_
    exact me_lret C hE (Nat.le_of_ble_eq_true rfl) (Nat.le_of_ble_eq_true rfl) rfl dX11_count_152 (mm_rj hf)
  have hf := mm_if_f c45 hf
  by_cases c49 : a1 = 9
  · have hf := mm_if_t c49 hf
    refine me_tabIn (q := 153) C dX11_count_1 (by rw [c49]; decide) (by rw [c49]; decide) (by rw [c49]; rfl) (by decide) ?_
    refine me_aload_n (q := 154) C dX11_count_153 rfl rfl rfl ?_
    obtain ⟨k50, hf⟩ := mm_ck_some hf
    refine me_getR (q := 157) C dX11_count_154 mf_X11_29 rfl rfl k50 rfl ?_
    obtain ⟨u51, eu51, hf⟩ := mm_rf_some hf
    obtain ⟨k52, hf⟩ := mm_ck_some hf
    refine me_getI (q := 160) C dX11_count_157 mf_X11_188 rfl eu51 k52 rfl ?_
    refine me_i2l (q := 161) C dX11_count_160 rfl ?_
    exact me_lret C hE (Nat.le_of_ble_eq_true rfl) (Nat.le_of_ble_eq_true rfl) rfl dX11_count_161 (mm_rj hf)
  have hf := mm_if_f c49 hf
  by_cases c53 : a1 = 10
  · have hf := mm_if_t c53 hf
    refine me_tabIn (q := 162) C dX11_count_1 (by rw [c53]; decide) (by rw [c53]; decide) (by rw [c53]; rfl) (by decide) ?_
    refine me_aload_n (q := 163) C dX11_count_162 rfl rfl rfl ?_
    obtain ⟨k54, hf⟩ := mm_ck_some hf
    refine me_getR (q := 166) C dX11_count_163 mf_X11_64 rfl rfl k54 rfl ?_
    obtain ⟨u55, eu55, hf⟩ := mm_rf_some hf
    obtain ⟨k56, hf⟩ := mm_ck_some hf
    refine me_getI (q := 169) C dX11_count_166 mf_X11_446 rfl eu55 k56 rfl ?_
    refine me_i2l (q := 170) C dX11_count_169 rfl ?_
    exact me_lret C hE (Nat.le_of_ble_eq_true rfl) (Nat.le_of_ble_eq_true rfl) rfl dX11_count_170 (mm_rj hf)
  have hf := mm_if_f c53 hf
  by_cases c57 : a1 = 11
  · have hf := mm_if_t c57 hf
    refine me_tabIn (q := 171) C dX11_count_1 (by rw [c57]; decide) (by rw [c57]; decide) (by rw [c57]; rfl) (by decide) ?_
    refine me_aload_n (q := 172) C dX11_count_171 rfl rfl rfl ?_
    obtain ⟨k58, hf⟩ := mm_ck_some hf
    refine me_getR (q := 175) C dX11_count_172 mf_X11_71 rfl rfl k58 rfl ?_
    obtain ⟨u59, eu59, hf⟩ := mm_rf_some hf
    obtain ⟨k60, hf⟩ := mm_ck_some hf
    refine me_getR (q := 178) C dX11_count_175 mf_X11_468 rfl eu59 k60 rfl ?_
    refine me_iconst (v := (0 : Int32)) (q := 179) C dX11_count_178 (by decide) rfl ?_
    obtain ⟨u61, eu61, hf⟩ := mm_rf_some hf
    obtain ⟨k62, hf⟩ := mm_ck_some hf
    obtain ⟨k63, hf⟩ := mm_ck_some hf
    refine me_iald (q := 180) C dX11_count_179 eu61 k62 k63 rfl ?_
    refine me_i2l (q := 181) C dX11_count_180 rfl ?_
    exact me_lret C hE (Nat.le_of_ble_eq_true rfl) (Nat.le_of_ble_eq_true rfl) rfl dX11_count_181 (mm_rj hf)
  have hf := mm_if_f c57 hf
  by_cases c64 : a1 = 12
  · have hf := mm_if_t c64 hf
    refine me_tabIn (q := 182) C dX11_count_1 (by rw [c64]; decide) (by rw [c64]; decide) (by rw [c64]; rfl) (by decide) ?_
    refine me_aload_n (q := 183) C dX11_count_182 rfl rfl rfl ?_
    obtain ⟨k65, hf⟩ := mm_ck_some hf
    refine me_getR (q := 186) C dX11_count_183 mf_X11_71 rfl rfl k65 rfl ?_
    obtain ⟨u66, eu66, hf⟩ := mm_rf_some hf
    obtain ⟨k67, hf⟩ := mm_ck_some hf
    refine me_getR (q := 189) C dX11_count_186 mf_X11_468 rfl eu66 k67 rfl ?_
    refine me_iconst (v := (1 : Int32)) (q := 190) C dX11_count_189 (by decide) rfl ?_
    obtain ⟨u68, eu68, hf⟩ := mm_rf_some hf
    obtain ⟨k69, hf⟩ := mm_ck_some hf
    obtain ⟨k70, hf⟩ := mm_ck_some hf
    refine me_iald (q := 191) C dX11_count_190 eu68 k69 k70 rfl ?_
    refine me_i2l (q := 192) C dX11_count_191 rfl ?_
    exact me_lret C hE (Nat.le_of_ble_eq_true rfl) (Nat.le_of_ble_eq_true rfl) rfl dX11_count_192 (mm_rj hf)
  have hf := mm_if_f c64 hf
  by_cases c71 : a1 = 13
  · have hf := mm_if_t c71 hf
    refine me_tabIn (q := 193) C dX11_count_1 (by rw [c71]; decide) (by rw [c71]; decide) (by rw [c71]; rfl) (by decide) ?_
    refine me_aload_n (q := 194) C dX11_count_193 rfl rfl rfl ?_
    obtain ⟨k72, hf⟩ := mm_ck_some hf
    obtain ⟨v73, g74, e75, hf⟩ := mm_cl_some hf
    refine me_callV (q := 197) (c2 := 0) (s2 := 0) (st := []) C (cX11_allCoins_ok _ e75) mt_X11_489 mv_X11_allCoins rfl (by decide) dX11_count_194 rfl k72 rfl rfl rfl (Nat.le_of_ble_eq_true rfl) rfl (Nat.le_of_ble_eq_true rfl) rfl (Nat.le_of_ble_eq_true rfl) rfl rfl ?_
    exact me_lret C hE (Nat.le_of_ble_eq_true rfl) (Nat.le_of_ble_eq_true rfl) rfl dX11_count_197 (mm_rj hf)
  have hf := mm_if_f c71 hf
  refine me_tabOut (q := 198) C dX11_count_1 ?_ (by decide) ?_
  · by_cases hz : a1.toInt < 0 ∨ 13 < a1.toInt
    · exact hz
    · exfalso
      have hw : a1.toInt = 0 ∨ a1.toInt = 1 ∨ a1.toInt = 2 ∨ a1.toInt = 3 ∨ a1.toInt = 4 ∨ a1.toInt = 5 ∨ a1.toInt = 6 ∨ a1.toInt = 7 ∨ a1.toInt = 8 ∨ a1.toInt = 9 ∨ a1.toInt = 10 ∨ a1.toInt = 11 ∨ a1.toInt = 12 ∨ a1.toInt = 13 := by omega
      rcases hw with hw | hw | hw | hw | hw | hw | hw | hw | hw | hw | hw | hw | hw | hw
      · exact c1 (mm_sw hw)
      · exact c3 (mm_sw hw)
      · exact c10 (mm_sw hw)
      · exact c17 (mm_sw hw)
      · exact c26 (mm_sw hw)
      · exact c33 (mm_sw hw)
      · exact c37 (mm_sw hw)
      · exact c41 (mm_sw hw)
      · exact c45 (mm_sw hw)
      · exact c49 (mm_sw hw)
      · exact c53 (mm_sw hw)
      · exact c57 (mm_sw hw)
      · exact c64 (mm_sw hw)
      · exact c71 (mm_sw hw)
  · refine me_ldc2_w (v := (-1 : Int64)) (q := 201) C dX11_count_198 mc_X11_380 rfl ?_
    exact me_lret C hE (Nat.le_of_ble_eq_true rfl) (Nat.le_of_ble_eq_true rfl) rfl dX11_count_201 (mm_rj hf)
set_option maxRecDepth 100000 in
set_option maxHeartbeats 4000000 in
theorem cX12_init_ok (l : Launch) {a0 : Nat} {h : mm_H} {r : Unit} {h1 : mm_H} (hf : fX12_init a0 h = some (r, h1)) : mm_M l yX12_init cX12_init 1 none 2 80 48867 [vR (some a0)] h none h1 := by
  refine mm_enter (lv := [some (vR (some a0))]) (by decide) rfl (Nat.le_of_ble_eq_true rfl) ?_
  intro X hl C hE
  subst hl
  unfold fX12_init at hf
  refine me_aload_n (q := 1) C dX12_init_0 rfl rfl rfl ?_
  refine me_objInit (q := 4) C dX12_init_1 mo_X12_1 rfl rfl (Nat.le_of_ble_eq_true rfl) rfl ?_
  refine me_aload_n (q := 5) C dX12_init_4 rfl rfl rfl ?_
  refine me_bipush (v := (40 : Int32)) (q := 7) C dX12_init_5 (by decide) rfl ?_
  obtain ⟨g1, eg1, hf⟩ := mm_lt_some hf
  obtain ⟨u2, eu2, hf⟩ := mm_lt_some hf
  refine me_newaI (q := 9) (B := 40) (c2 := 1) (s2 := 40) C eg1 dX12_init_7 ma_int ⟨by decide, Nat.le_of_ble_eq_true rfl⟩ (Nat.le_of_ble_eq_true rfl) rfl (Nat.le_of_ble_eq_true rfl) rfl (Nat.le_of_ble_eq_true rfl) rfl ?_
  refine me_topR (congrArg some eu2) ?_
  have k3 : mm_kd g1 u2 = 14 := by rw [eu2]; exact mm_kN eg1
  obtain ⟨k4, hf⟩ := mm_ck_some hf
  obtain ⟨g5, eg5, hf⟩ := mm_lt_some hf
  refine me_putR (q := 12) C eg5 dX12_init_9 mf_X12_9 mp_X12_13_3 (Or.inr ⟨_, rfl⟩) rfl (by decide) rfl k4 rfl ?_
  refine me_aload_n (q := 13) C dX12_init_12 rfl rfl rfl ?_
  refine me_bipush (v := (40 : Int32)) (q := 15) C dX12_init_13 (by decide) rfl ?_
  obtain ⟨g6, eg6, hf⟩ := mm_lt_some hf
  obtain ⟨u7, eu7, hf⟩ := mm_lt_some hf
  refine me_newaI (q := 17) (B := 40) (c2 := 2) (s2 := 80) C eg6 dX12_init_15 ma_int ⟨by decide, Nat.le_of_ble_eq_true rfl⟩ (Nat.le_of_ble_eq_true rfl) rfl (Nat.le_of_ble_eq_true rfl) rfl (Nat.le_of_ble_eq_true rfl) rfl ?_
  refine me_topR (congrArg some eu7) ?_
  have k8 : mm_kd g6 u7 = 14 := by rw [eu7]; exact mm_kN eg6
  obtain ⟨k9, hf⟩ := mm_ck_some hf
  obtain ⟨g10, eg10, hf⟩ := mm_lt_some hf
  refine me_putR (q := 20) C eg10 dX12_init_17 mf_X12_13 mp_X12_13_4 (Or.inr ⟨_, rfl⟩) rfl (by decide) rfl k9 rfl ?_
  refine me_aload_n (q := 21) C dX12_init_20 rfl rfl rfl ?_
  refine me_bipush (v := (40 : Int32)) (q := 23) C dX12_init_21 (by decide) rfl ?_
  obtain ⟨g11, eg11, hf⟩ := mm_lt_some hf
  obtain ⟨u12, eu12, hf⟩ := mm_lt_some hf
  refine me_newaI (q := 25) (B := 40) (c2 := 3) (s2 := 120) C eg11 dX12_init_23 ma_int ⟨by decide, Nat.le_of_ble_eq_true rfl⟩ (Nat.le_of_ble_eq_true rfl) rfl (Nat.le_of_ble_eq_true rfl) rfl (Nat.le_of_ble_eq_true rfl) rfl ?_
  refine me_topR (congrArg some eu12) ?_
  have k13 : mm_kd g11 u12 = 14 := by rw [eu12]; exact mm_kN eg11
  obtain ⟨k14, hf⟩ := mm_ck_some hf
  obtain ⟨g15, eg15, hf⟩ := mm_lt_some hf
  refine me_putR (q := 28) C eg15 dX12_init_25 mf_X12_16 mp_X12_13_5 (Or.inr ⟨_, rfl⟩) rfl (by decide) rfl k14 rfl ?_
  refine me_aload_n (q := 29) C dX12_init_28 rfl rfl rfl ?_
  refine me_bipush (v := (40 : Int32)) (q := 31) C dX12_init_29 (by decide) rfl ?_
  obtain ⟨g16, eg16, hf⟩ := mm_lt_some hf
  obtain ⟨u17, eu17, hf⟩ := mm_lt_some hf
  refine me_newaI (q := 33) (B := 40) (c2 := 4) (s2 := 160) C eg16 dX12_init_31 ma_int ⟨by decide, Nat.le_of_ble_eq_true rfl⟩ (Nat.le_of_ble_eq_true rfl) rfl (Nat.le_of_ble_eq_true rfl) rfl (Nat.le_of_ble_eq_true rfl) rfl ?_
  refine me_topR (congrArg some eu17) ?_
  have k18 : mm_kd g16 u17 = 14 := by rw [eu17]; exact mm_kN eg16
  obtain ⟨k19, hf⟩ := mm_ck_some hf
  obtain ⟨g20, eg20, hf⟩ := mm_lt_some hf
  refine me_putR (q := 36) C eg20 dX12_init_33 mf_X12_19 mp_X12_13_6 (Or.inr ⟨_, rfl⟩) rfl (by decide) rfl k19 rfl ?_
  refine me_aload_n (q := 37) C dX12_init_36 rfl rfl rfl ?_
  refine me_bipush (v := (40 : Int32)) (q := 39) C dX12_init_37 (by decide) rfl ?_
  obtain ⟨g21, eg21, hf⟩ := mm_lt_some hf
  obtain ⟨u22, eu22, hf⟩ := mm_lt_some hf
  refine me_newaI (q := 41) (B := 40) (c2 := 5) (s2 := 200) C eg21 dX12_init_39 ma_int ⟨by decide, Nat.le_of_ble_eq_true rfl⟩ (Nat.le_of_ble_eq_true rfl) rfl (Nat.le_of_ble_eq_true rfl) rfl (Nat.le_of_ble_eq_true rfl) rfl ?_
  refine me_topR (congrArg some eu22) ?_
  have k23 : mm_kd g21 u22 = 14 := by rw [eu22]; exact mm_kN eg21
  obtain ⟨k24, hf⟩ := mm_ck_some hf
  obtain ⟨g25, eg25, hf⟩ := mm_lt_some hf
  refine me_putR (q := 44) C eg25 dX12_init_41 mf_X12_22 mp_X12_13_7 (Or.inr ⟨_, rfl⟩) rfl (by decide) rfl k24 rfl ?_
  refine me_aload_n (q := 45) C dX12_init_44 rfl rfl rfl ?_
  refine me_bipush (v := (10 : Int32)) (q := 47) C dX12_init_45 (by decide) rfl ?_
  obtain ⟨g26, eg26, hf⟩ := mm_lt_some hf
  obtain ⟨u27, eu27, hf⟩ := mm_lt_some hf
  refine me_newaI (q := 49) (B := 10) (c2 := 6) (s2 := 210) C eg26 dX12_init_47 ma_int ⟨by decide, Nat.le_of_ble_eq_true rfl⟩ (Nat.le_of_ble_eq_true rfl) rfl (Nat.le_of_ble_eq_true rfl) rfl (Nat.le_of_ble_eq_true rfl) rfl ?_
  refine me_topR (congrArg some eu27) ?_
  have k28 : mm_kd g26 u27 = 14 := by rw [eu27]; exact mm_kN eg26
  obtain ⟨k29, hf⟩ := mm_ck_some hf
  obtain ⟨g30, eg30, hf⟩ := mm_lt_some hf
  refine me_putR (q := 52) C eg30 dX12_init_49 mf_X12_25 mp_X12_13_8 (Or.inr ⟨_, rfl⟩) rfl (by decide) rfl k29 rfl ?_
  refine me_aload_n (q := 53) C dX12_init_52 rfl rfl rfl ?_
  refine me_bipush (v := (40 : Int32)) (q := 55) C dX12_init_53 (by decide) rfl ?_
  obtain ⟨g31, eg31, hf⟩ := mm_lt_some hf
  obtain ⟨u32, eu32, hf⟩ := mm_lt_some hf
  refine me_newaZ (q := 57) (B := 40) (c2 := 7) (s2 := 250) C eg31 dX12_init_55 ma_boolean ⟨by decide, Nat.le_of_ble_eq_true rfl⟩ (Nat.le_of_ble_eq_true rfl) rfl (Nat.le_of_ble_eq_true rfl) rfl (Nat.le_of_ble_eq_true rfl) rfl ?_
  refine me_topR (congrArg some eu32) ?_
  have k33 : mm_kd g31 u32 = 17 := by rw [eu32]; exact mm_kN eg31
  obtain ⟨k34, hf⟩ := mm_ck_some hf
  obtain ⟨g35, eg35, hf⟩ := mm_lt_some hf
  refine me_putR (q := 60) C eg35 dX12_init_57 mf_X12_28 mp_X12_13_9 (Or.inr ⟨_, rfl⟩) rfl (by decide) rfl k34 rfl ?_
  refine me_aload_n (q := 61) C dX12_init_60 rfl rfl rfl ?_
  refine me_sipush (v := (200 : Int32)) (q := 64) C dX12_init_61 (by decide) rfl ?_
  obtain ⟨g36, eg36, hf⟩ := mm_lt_some hf
  obtain ⟨u37, eu37, hf⟩ := mm_lt_some hf
  refine me_newaI (q := 66) (B := 200) (c2 := 8) (s2 := 450) C eg36 dX12_init_64 ma_int ⟨by decide, Nat.le_of_ble_eq_true rfl⟩ (Nat.le_of_ble_eq_true rfl) rfl (Nat.le_of_ble_eq_true rfl) rfl (Nat.le_of_ble_eq_true rfl) rfl ?_
  refine me_topR (congrArg some eu37) ?_
  have k38 : mm_kd g36 u37 = 14 := by rw [eu37]; exact mm_kN eg36
  obtain ⟨k39, hf⟩ := mm_ck_some hf
  obtain ⟨g40, eg40, hf⟩ := mm_lt_some hf
  refine me_putR (q := 69) C eg40 dX12_init_66 mf_X12_32 mp_X12_13_11 (Or.inr ⟨_, rfl⟩) rfl (by decide) rfl k39 rfl ?_
  refine me_aload_n (q := 70) C dX12_init_69 rfl rfl rfl ?_
  refine me_sipush (v := (200 : Int32)) (q := 73) C dX12_init_70 (by decide) rfl ?_
  obtain ⟨g41, eg41, hf⟩ := mm_lt_some hf
  obtain ⟨u42, eu42, hf⟩ := mm_lt_some hf
  refine me_newaI (q := 75) (B := 200) (c2 := 9) (s2 := 650) C eg41 dX12_init_73 ma_int ⟨by decide, Nat.le_of_ble_eq_true rfl⟩ (Nat.le_of_ble_eq_true rfl) rfl (Nat.le_of_ble_eq_true rfl) rfl (Nat.le_of_ble_eq_true rfl) rfl ?_
  refine me_topR (congrArg some eu42) ?_
  have k43 : mm_kd g41 u42 = 14 := by rw [eu42]; exact mm_kN eg41
  obtain ⟨k44, hf⟩ := mm_ck_some hf
  obtain ⟨g45, eg45, hf⟩ := mm_lt_some hf
  refine me_putR (q := 78) C eg45 dX12_init_75 mf_X12_35 mp_X12_13_12 (Or.inr ⟨_, rfl⟩) rfl (by decide) rfl k44 rfl ?_
  refine me_aload_n (q := 79) C dX12_init_78 rfl rfl rfl ?_
  refine me_sipush (v := (200 : Int32)) (q := 82) C dX12_init_79 (by decide) rfl ?_
  obtain ⟨g46, eg46, hf⟩ := mm_lt_some hf
  obtain ⟨u47, eu47, hf⟩ := mm_lt_some hf
  refine me_newaI (q := 84) (B := 200) (c2 := 10) (s2 := 850) C eg46 dX12_init_82 ma_int ⟨by decide, Nat.le_of_ble_eq_true rfl⟩ (Nat.le_of_ble_eq_true rfl) rfl (Nat.le_of_ble_eq_true rfl) rfl (Nat.le_of_ble_eq_true rfl) rfl ?_
  refine me_topR (congrArg some eu47) ?_
  have k48 : mm_kd g46 u47 = 14 := by rw [eu47]; exact mm_kN eg46
  obtain ⟨k49, hf⟩ := mm_ck_some hf
  obtain ⟨g50, eg50, hf⟩ := mm_lt_some hf
  refine me_putR (q := 87) C eg50 dX12_init_84 mf_X12_38 mp_X12_13_13 (Or.inr ⟨_, rfl⟩) rfl (by decide) rfl k49 rfl ?_
  refine me_aload_n (q := 88) C dX12_init_87 rfl rfl rfl ?_
  refine me_sipush (v := (200 : Int32)) (q := 91) C dX12_init_88 (by decide) rfl ?_
  obtain ⟨g51, eg51, hf⟩ := mm_lt_some hf
  obtain ⟨u52, eu52, hf⟩ := mm_lt_some hf
  refine me_newaI (q := 93) (B := 200) (c2 := 11) (s2 := 1050) C eg51 dX12_init_91 ma_int ⟨by decide, Nat.le_of_ble_eq_true rfl⟩ (Nat.le_of_ble_eq_true rfl) rfl (Nat.le_of_ble_eq_true rfl) rfl (Nat.le_of_ble_eq_true rfl) rfl ?_
  refine me_topR (congrArg some eu52) ?_
  have k53 : mm_kd g51 u52 = 14 := by rw [eu52]; exact mm_kN eg51
  obtain ⟨k54, hf⟩ := mm_ck_some hf
  obtain ⟨g55, eg55, hf⟩ := mm_lt_some hf
  refine me_putR (q := 96) C eg55 dX12_init_93 mf_X12_41 mp_X12_13_14 (Or.inr ⟨_, rfl⟩) rfl (by decide) rfl k54 rfl ?_
  refine me_aload_n (q := 97) C dX12_init_96 rfl rfl rfl ?_
  refine me_sipush (v := (200 : Int32)) (q := 100) C dX12_init_97 (by decide) rfl ?_
  obtain ⟨g56, eg56, hf⟩ := mm_lt_some hf
  obtain ⟨u57, eu57, hf⟩ := mm_lt_some hf
  refine me_newaI (q := 102) (B := 200) (c2 := 12) (s2 := 1250) C eg56 dX12_init_100 ma_int ⟨by decide, Nat.le_of_ble_eq_true rfl⟩ (Nat.le_of_ble_eq_true rfl) rfl (Nat.le_of_ble_eq_true rfl) rfl (Nat.le_of_ble_eq_true rfl) rfl ?_
  refine me_topR (congrArg some eu57) ?_
  have k58 : mm_kd g56 u57 = 14 := by rw [eu57]; exact mm_kN eg56
  obtain ⟨k59, hf⟩ := mm_ck_some hf
  obtain ⟨g60, eg60, hf⟩ := mm_lt_some hf
  refine me_putR (q := 105) C eg60 dX12_init_102 mf_X12_44 mp_X12_13_15 (Or.inr ⟨_, rfl⟩) rfl (by decide) rfl k59 rfl ?_
  refine me_aload_n (q := 106) C dX12_init_105 rfl rfl rfl ?_
  refine me_sipush (v := (400 : Int32)) (q := 109) C dX12_init_106 (by decide) rfl ?_
  obtain ⟨g61, eg61, hf⟩ := mm_lt_some hf
  obtain ⟨u62, eu62, hf⟩ := mm_lt_some hf
  refine me_newaB (q := 111) (B := 400) (c2 := 13) (s2 := 1650) C eg61 dX12_init_109 ma_byte ⟨by decide, Nat.le_of_ble_eq_true rfl⟩ (Nat.le_of_ble_eq_true rfl) rfl (Nat.le_of_ble_eq_true rfl) rfl (Nat.le_of_ble_eq_true rfl) rfl ?_
  refine me_topR (congrArg some eu62) ?_
  have k63 : mm_kd g61 u62 = 16 := by rw [eu62]; exact mm_kN eg61
  obtain ⟨k64, hf⟩ := mm_ck_some hf
  obtain ⟨g65, eg65, hf⟩ := mm_lt_some hf
  refine me_putR (q := 114) C eg65 dX12_init_111 mf_X12_47 mp_X12_13_16 (Or.inr ⟨_, rfl⟩) rfl (by decide) rfl k64 rfl ?_
  refine me_aload_n (q := 115) C dX12_init_114 rfl rfl rfl ?_
  refine me_bipush (v := (30 : Int32)) (q := 117) C dX12_init_115 (by decide) rfl ?_
  obtain ⟨g66, eg66, hf⟩ := mm_lt_some hf
  obtain ⟨u67, eu67, hf⟩ := mm_lt_some hf
  refine me_newaI (q := 119) (B := 30) (c2 := 14) (s2 := 1680) C eg66 dX12_init_117 ma_int ⟨by decide, Nat.le_of_ble_eq_true rfl⟩ (Nat.le_of_ble_eq_true rfl) rfl (Nat.le_of_ble_eq_true rfl) rfl (Nat.le_of_ble_eq_true rfl) rfl ?_
  refine me_topR (congrArg some eu67) ?_
  have k68 : mm_kd g66 u67 = 14 := by rw [eu67]; exact mm_kN eg66
  obtain ⟨k69, hf⟩ := mm_ck_some hf
  obtain ⟨g70, eg70, hf⟩ := mm_lt_some hf
  refine me_putR (q := 122) C eg70 dX12_init_119 mf_X12_51 mp_X12_13_24 (Or.inr ⟨_, rfl⟩) rfl (by decide) rfl k69 rfl ?_
  refine me_aload_n (q := 123) C dX12_init_122 rfl rfl rfl ?_
  refine me_bipush (v := (30 : Int32)) (q := 125) C dX12_init_123 (by decide) rfl ?_
  obtain ⟨g71, eg71, hf⟩ := mm_lt_some hf
  obtain ⟨u72, eu72, hf⟩ := mm_lt_some hf
  refine me_newaI (q := 127) (B := 30) (c2 := 15) (s2 := 1710) C eg71 dX12_init_125 ma_int ⟨by decide, Nat.le_of_ble_eq_true rfl⟩ (Nat.le_of_ble_eq_true rfl) rfl (Nat.le_of_ble_eq_true rfl) rfl (Nat.le_of_ble_eq_true rfl) rfl ?_
  refine me_topR (congrArg some eu72) ?_
  have k73 : mm_kd g71 u72 = 14 := by rw [eu72]; exact mm_kN eg71
  obtain ⟨k74, hf⟩ := mm_ck_some hf
  obtain ⟨g75, eg75, hf⟩ := mm_lt_some hf
  refine me_putR (q := 130) C eg75 dX12_init_127 mf_X12_54 mp_X12_13_25 (Or.inr ⟨_, rfl⟩) rfl (by decide) rfl k74 rfl ?_
  refine me_aload_n (q := 131) C dX12_init_130 rfl rfl rfl ?_
  refine me_bipush (v := (30 : Int32)) (q := 133) C dX12_init_131 (by decide) rfl ?_
  obtain ⟨g76, eg76, hf⟩ := mm_lt_some hf
  obtain ⟨u77, eu77, hf⟩ := mm_lt_some hf
  refine me_newaI (q := 135) (B := 30) (c2 := 16) (s2 := 1740) C eg76 dX12_init_133 ma_int ⟨by decide, Nat.le_of_ble_eq_true rfl⟩ (Nat.le_of_ble_eq_true rfl) rfl (Nat.le_of_ble_eq_true rfl) rfl (Nat.le_of_ble_eq_true rfl) rfl ?_
  refine me_topR (congrArg some eu77) ?_
  have k78 : mm_kd g76 u77 = 14 := by rw [eu77]; exact mm_kN eg76
  obtain ⟨k79, hf⟩ := mm_ck_some hf
  obtain ⟨g80, eg80, hf⟩ := mm_lt_some hf
  refine me_putR (q := 138) C eg80 dX12_init_135 mf_X12_57 mp_X12_13_26 (Or.inr ⟨_, rfl⟩) rfl (by decide) rfl k79 rfl ?_
  refine me_aload_n (q := 139) C dX12_init_138 rfl rfl rfl ?_
  refine me_bipush (v := (30 : Int32)) (q := 141) C dX12_init_139 (by decide) rfl ?_
  obtain ⟨g81, eg81, hf⟩ := mm_lt_some hf
  obtain ⟨u82, eu82, hf⟩ := mm_lt_some hf
  refine me_newaI (q := 143) (B := 30) (c2 := 17) (s2 := 1770) C eg81 dX12_init_141 ma_int ⟨by decide, Nat.le_of_ble_eq_true rfl⟩ (Nat.le_of_ble_eq_true rfl) rfl (Nat.le_of_ble_eq_true rfl) rfl (Nat.le_of_ble_eq_true rfl) rfl ?_
  refine me_topR (congrArg some eu82) ?_
  have k83 : mm_kd g81 u82 = 14 := by rw [eu82]; exact mm_kN eg81
  obtain ⟨k84, hf⟩ := mm_ck_some hf
  obtain ⟨g85, eg85, hf⟩ := mm_lt_some hf
  refine me_putR (q := 146) C eg85 dX12_init_143 mf_X12_60 mp_X12_13_27 (Or.inr ⟨_, rfl⟩) rfl (by decide) rfl k84 rfl ?_
  refine me_aload_n (q := 147) C dX12_init_146 rfl rfl rfl ?_
  refine me_sipush (v := (300 : Int32)) (q := 150) C dX12_init_147 (by decide) rfl ?_
  obtain ⟨g86, eg86, hf⟩ := mm_lt_some hf
  obtain ⟨u87, eu87, hf⟩ := mm_lt_some hf
  refine me_newaI (q := 152) (B := 300) (c2 := 18) (s2 := 2070) C eg86 dX12_init_150 ma_int ⟨by decide, Nat.le_of_ble_eq_true rfl⟩ (Nat.le_of_ble_eq_true rfl) rfl (Nat.le_of_ble_eq_true rfl) rfl (Nat.le_of_ble_eq_true rfl) rfl ?_
  refine me_topR (congrArg some eu87) ?_
  have k88 : mm_kd g86 u87 = 14 := by rw [eu87]; exact mm_kN eg86
  obtain ⟨k89, hf⟩ := mm_ck_some hf
  obtain ⟨g90, eg90, hf⟩ := mm_lt_some hf
  refine me_putR (q := 155) C eg90 dX12_init_152 mf_X12_63 mp_X12_13_28 (Or.inr ⟨_, rfl⟩) rfl (by decide) rfl k89 rfl ?_
  refine me_aload_n (q := 156) C dX12_init_155 rfl rfl rfl ?_
  refine me_sipush (v := (300 : Int32)) (q := 159) C dX12_init_156 (by decide) rfl ?_
  obtain ⟨g91, eg91, hf⟩ := mm_lt_some hf
  obtain ⟨u92, eu92, hf⟩ := mm_lt_some hf
  refine me_newaI (q := 161) (B := 300) (c2 := 19) (s2 := 2370) C eg91 dX12_init_159 ma_int ⟨by decide, Nat.le_of_ble_eq_true rfl⟩ (Nat.le_of_ble_eq_true rfl) rfl (Nat.le_of_ble_eq_true rfl) rfl (Nat.le_of_ble_eq_true rfl) rfl ?_
  refine me_topR (congrArg some eu92) ?_
  have k93 : mm_kd g91 u92 = 14 := by rw [eu92]; exact mm_kN eg91
  obtain ⟨k94, hf⟩ := mm_ck_some hf
  obtain ⟨g95, eg95, hf⟩ := mm_lt_some hf
  refine me_putR (q := 164) C eg95 dX12_init_161 mf_X12_66 mp_X12_13_29 (Or.inr ⟨_, rfl⟩) rfl (by decide) rfl k94 rfl ?_
  refine me_aload_n (q := 165) C dX12_init_164 rfl rfl rfl ?_
  refine me_sipush (v := (300 : Int32)) (q := 168) C dX12_init_165 (by decide) rfl ?_
  obtain ⟨g96, eg96, hf⟩ := mm_lt_some hf
  obtain ⟨u97, eu97, hf⟩ := mm_lt_some hf
  refine me_newaI (q := 170) (B := 300) (c2 := 20) (s2 := 2670) C eg96 dX12_init_168 ma_int ⟨by decide, Nat.le_of_ble_eq_true rfl⟩ (Nat.le_of_ble_eq_true rfl) rfl (Nat.le_of_ble_eq_true rfl) rfl (Nat.le_of_ble_eq_true rfl) rfl ?_
  refine me_topR (congrArg some eu97) ?_
  have k98 : mm_kd g96 u97 = 14 := by rw [eu97]; exact mm_kN eg96
  obtain ⟨k99, hf⟩ := mm_ck_some hf
  obtain ⟨g100, eg100, hf⟩ := mm_lt_some hf
  refine me_putR (q := 173) C eg100 dX12_init_170 mf_X12_69 mp_X12_13_30 (Or.inr ⟨_, rfl⟩) rfl (by decide) rfl k99 rfl ?_
  refine me_aload_n (q := 174) C dX12_init_173 rfl rfl rfl ?_
  refine me_sipush (v := (12000 : Int32)) (q := 177) C dX12_init_174 (by decide) rfl ?_
  obtain ⟨g101, eg101, hf⟩ := mm_lt_some hf
  obtain ⟨u102, eu102, hf⟩ := mm_lt_some hf
  refine me_newaI (q := 179) (B := 12000) (c2 := 21) (s2 := 14670) C eg101 dX12_init_177 ma_int ⟨by decide, Nat.le_of_ble_eq_true rfl⟩ (Nat.le_of_ble_eq_true rfl) rfl (Nat.le_of_ble_eq_true rfl) rfl (Nat.le_of_ble_eq_true rfl) rfl ?_
  refine me_topR (congrArg some eu102) ?_
  have k103 : mm_kd g101 u102 = 14 := by rw [eu102]; exact mm_kN eg101
  obtain ⟨k104, hf⟩ := mm_ck_some hf
  obtain ⟨g105, eg105, hf⟩ := mm_lt_some hf
  refine me_putR (q := 182) C eg105 dX12_init_179 mf_X12_72 mp_X12_13_31 (Or.inr ⟨_, rfl⟩) rfl (by decide) rfl k104 rfl ?_
  refine me_aload_n (q := 183) C dX12_init_182 rfl rfl rfl ?_
  refine me_sipush (v := (12000 : Int32)) (q := 186) C dX12_init_183 (by decide) rfl ?_
  obtain ⟨g106, eg106, hf⟩ := mm_lt_some hf
  obtain ⟨u107, eu107, hf⟩ := mm_lt_some hf
  refine me_newaI (q := 188) (B := 12000) (c2 := 22) (s2 := 26670) C eg106 dX12_init_186 ma_int ⟨by decide, Nat.le_of_ble_eq_true rfl⟩ (Nat.le_of_ble_eq_true rfl) rfl (Nat.le_of_ble_eq_true rfl) rfl (Nat.le_of_ble_eq_true rfl) rfl ?_
  refine me_topR (congrArg some eu107) ?_
  have k108 : mm_kd g106 u107 = 14 := by rw [eu107]; exact mm_kN eg106
  obtain ⟨k109, hf⟩ := mm_ck_some hf
  obtain ⟨g110, eg110, hf⟩ := mm_lt_some hf
  refine me_putR (q := 191) C eg110 dX12_init_188 mf_X12_75 mp_X12_13_32 (Or.inr ⟨_, rfl⟩) rfl (by decide) rfl k109 rfl ?_
  refine me_aload_n (q := 192) C dX12_init_191 rfl rfl rfl ?_
  refine me_sipush (v := (400 : Int32)) (q := 195) C dX12_init_192 (by decide) rfl ?_
  obtain ⟨g111, eg111, hf⟩ := mm_lt_some hf
  obtain ⟨u112, eu112, hf⟩ := mm_lt_some hf
  refine me_newaI (q := 197) (B := 400) (c2 := 23) (s2 := 27070) C eg111 dX12_init_195 ma_int ⟨by decide, Nat.le_of_ble_eq_true rfl⟩ (Nat.le_of_ble_eq_true rfl) rfl (Nat.le_of_ble_eq_true rfl) rfl (Nat.le_of_ble_eq_true rfl) rfl ?_
  refine me_topR (congrArg some eu112) ?_
  have k113 : mm_kd g111 u112 = 14 := by rw [eu112]; exact mm_kN eg111
  obtain ⟨k114, hf⟩ := mm_ck_some hf
  obtain ⟨g115, eg115, hf⟩ := mm_lt_some hf
  refine me_putR (q := 200) C eg115 dX12_init_197 mf_X12_78 mp_X12_13_35 (Or.inr ⟨_, rfl⟩) rfl (by decide) rfl k114 rfl ?_
  refine me_aload_n (q := 201) C dX12_init_200 rfl rfl rfl ?_
  refine me_sipush (v := (400 : Int32)) (q := 204) C dX12_init_201 (by decide) rfl ?_
  obtain ⟨g116, eg116, hf⟩ := mm_lt_some hf
  obtain ⟨u117, eu117, hf⟩ := mm_lt_some hf
  refine me_newaJ (q := 206) (B := 400) (c2 := 24) (s2 := 27470) C eg116 dX12_init_204 ma_long ⟨by decide, Nat.le_of_ble_eq_true rfl⟩ (Nat.le_of_ble_eq_true rfl) rfl (Nat.le_of_ble_eq_true rfl) rfl (Nat.le_of_ble_eq_true rfl) rfl ?_
  refine me_topR (congrArg some eu117) ?_
  have k118 : mm_kd g116 u117 = 15 := by rw [eu117]; exact mm_kN eg116
  obtain ⟨k119, hf⟩ := mm_ck_some hf
  obtain ⟨g120, eg120, hf⟩ := mm_lt_some hf
  refine me_putR (q := 209) C eg120 dX12_init_206 mf_X12_81 mp_X12_13_36 (Or.inr ⟨_, rfl⟩) rfl (by decide) rfl k119 rfl ?_
  refine me_aload_n (q := 210) C dX12_init_209 rfl rfl rfl ?_
  refine me_bipush (v := (14 : Int32)) (q := 212) C dX12_init_210 (by decide) rfl ?_
  obtain ⟨g121, eg121, hf⟩ := mm_lt_some hf
  obtain ⟨u122, eu122, hf⟩ := mm_lt_some hf
  refine me_newaJ (q := 214) (B := 14) (c2 := 25) (s2 := 27484) C eg121 dX12_init_212 ma_long ⟨by decide, Nat.le_of_ble_eq_true rfl⟩ (Nat.le_of_ble_eq_true rfl) rfl (Nat.le_of_ble_eq_true rfl) rfl (Nat.le_of_ble_eq_true rfl) rfl ?_
  refine me_topR (congrArg some eu122) ?_
  have k123 : mm_kd g121 u122 = 15 := by rw [eu122]; exact mm_kN eg121
  obtain ⟨k124, hf⟩ := mm_ck_some hf
  obtain ⟨g125, eg125, hf⟩ := mm_lt_some hf
  refine me_putR (q := 217) C eg125 dX12_init_214 mf_X12_85 mp_X12_13_37 (Or.inr ⟨_, rfl⟩) rfl (by decide) rfl k124 rfl ?_
  refine me_aload_n (q := 218) C dX12_init_217 rfl rfl rfl ?_
  refine me_bipush (v := (20 : Int32)) (q := 220) C dX12_init_218 (by decide) rfl ?_
  obtain ⟨g126, eg126, hf⟩ := mm_lt_some hf
  obtain ⟨u127, eu127, hf⟩ := mm_lt_some hf
  refine me_newaI (q := 222) (B := 20) (c2 := 26) (s2 := 27504) C eg126 dX12_init_220 ma_int ⟨by decide, Nat.le_of_ble_eq_true rfl⟩ (Nat.le_of_ble_eq_true rfl) rfl (Nat.le_of_ble_eq_true rfl) rfl (Nat.le_of_ble_eq_true rfl) rfl ?_
  refine me_topR (congrArg some eu127) ?_
  have k128 : mm_kd g126 u127 = 14 := by rw [eu127]; exact mm_kN eg126
  obtain ⟨k129, hf⟩ := mm_ck_some hf
  obtain ⟨g130, eg130, hf⟩ := mm_lt_some hf
  refine me_putR (q := 225) C eg130 dX12_init_222 mf_X12_88 mp_X12_13_39 (Or.inr ⟨_, rfl⟩) rfl (by decide) rfl k129 rfl ?_
  refine me_aload_n (q := 226) C dX12_init_225 rfl rfl rfl ?_
  refine me_bipush (v := (20 : Int32)) (q := 228) C dX12_init_226 (by decide) rfl ?_
  obtain ⟨g131, eg131, hf⟩ := mm_lt_some hf
  obtain ⟨u132, eu132, hf⟩ := mm_lt_some hf
  refine me_newaI (q := 230) (B := 20) (c2 := 27) (s2 := 27524) C eg131 dX12_init_228 ma_int ⟨by decide, Nat.le_of_ble_eq_true rfl⟩ (Nat.le_of_ble_eq_true rfl) rfl (Nat.le_of_ble_eq_true rfl) rfl (Nat.le_of_ble_eq_true rfl) rfl ?_
  refine me_topR (congrArg some eu132) ?_
  have k133 : mm_kd g131 u132 = 14 := by rw [eu132]; exact mm_kN eg131
  obtain ⟨k134, hf⟩ := mm_ck_some hf
  obtain ⟨g135, eg135, hf⟩ := mm_lt_some hf
  refine me_putR (q := 233) C eg135 dX12_init_230 mf_X12_91 mp_X12_13_40 (Or.inr ⟨_, rfl⟩) rfl (by decide) rfl k134 rfl ?_
  refine me_aload_n (q := 234) C dX12_init_233 rfl rfl rfl ?_
  refine me_bipush (v := (20 : Int32)) (q := 236) C dX12_init_234 (by decide) rfl ?_
  obtain ⟨g136, eg136, hf⟩ := mm_lt_some hf
  obtain ⟨u137, eu137, hf⟩ := mm_lt_some hf
  refine me_newaI (q := 238) (B := 20) (c2 := 28) (s2 := 27544) C eg136 dX12_init_236 ma_int ⟨by decide, Nat.le_of_ble_eq_true rfl⟩ (Nat.le_of_ble_eq_true rfl) rfl (Nat.le_of_ble_eq_true rfl) rfl (Nat.le_of_ble_eq_true rfl) rfl ?_
  refine me_topR (congrArg some eu137) ?_
  have k138 : mm_kd g136 u137 = 14 := by rw [eu137]; exact mm_kN eg136
  obtain ⟨k139, hf⟩ := mm_ck_some hf
  obtain ⟨g140, eg140, hf⟩ := mm_lt_some hf
  refine me_putR (q := 241) C eg140 dX12_init_238 mf_X12_94 mp_X12_13_41 (Or.inr ⟨_, rfl⟩) rfl (by decide) rfl k139 rfl ?_
  refine me_aload_n (q := 242) C dX12_init_241 rfl rfl rfl ?_
  refine me_bipush (v := (20 : Int32)) (q := 244) C dX12_init_242 (by decide) rfl ?_
  obtain ⟨g141, eg141, hf⟩ := mm_lt_some hf
  obtain ⟨u142, eu142, hf⟩ := mm_lt_some hf
  refine me_newaI (q := 246) (B := 20) (c2 := 29) (s2 := 27564) C eg141 dX12_init_244 ma_int ⟨by decide, Nat.le_of_ble_eq_true rfl⟩ (Nat.le_of_ble_eq_true rfl) rfl (Nat.le_of_ble_eq_true rfl) rfl (Nat.le_of_ble_eq_true rfl) rfl ?_
  refine me_topR (congrArg some eu142) ?_
  have k143 : mm_kd g141 u142 = 14 := by rw [eu142]; exact mm_kN eg141
  obtain ⟨k144, hf⟩ := mm_ck_some hf
  obtain ⟨g145, eg145, hf⟩ := mm_lt_some hf
  refine me_putR (q := 249) C eg145 dX12_init_246 mf_X12_97 mp_X12_13_42 (Or.inr ⟨_, rfl⟩) rfl (by decide) rfl k144 rfl ?_
  refine me_aload_n (q := 250) C dX12_init_249 rfl rfl rfl ?_
  refine me_sipush (v := (300 : Int32)) (q := 253) C dX12_init_250 (by decide) rfl ?_
  obtain ⟨g146, eg146, hf⟩ := mm_lt_some hf
  obtain ⟨u147, eu147, hf⟩ := mm_lt_some hf
  refine me_newaI (q := 255) (B := 300) (c2 := 30) (s2 := 27864) C eg146 dX12_init_253 ma_int ⟨by decide, Nat.le_of_ble_eq_true rfl⟩ (Nat.le_of_ble_eq_true rfl) rfl (Nat.le_of_ble_eq_true rfl) rfl (Nat.le_of_ble_eq_true rfl) rfl ?_
  refine me_topR (congrArg some eu147) ?_
  have k148 : mm_kd g146 u147 = 14 := by rw [eu147]; exact mm_kN eg146
  obtain ⟨k149, hf⟩ := mm_ck_some hf
  obtain ⟨g150, eg150, hf⟩ := mm_lt_some hf
  refine me_putR (q := 258) C eg150 dX12_init_255 mf_X12_100 mp_X12_13_44 (Or.inr ⟨_, rfl⟩) rfl (by decide) rfl k149 rfl ?_
  refine me_aload_n (q := 259) C dX12_init_258 rfl rfl rfl ?_
  refine me_sipush (v := (300 : Int32)) (q := 262) C dX12_init_259 (by decide) rfl ?_
  obtain ⟨g151, eg151, hf⟩ := mm_lt_some hf
  obtain ⟨u152, eu152, hf⟩ := mm_lt_some hf
  refine me_newaI (q := 264) (B := 300) (c2 := 31) (s2 := 28164) C eg151 dX12_init_262 ma_int ⟨by decide, Nat.le_of_ble_eq_true rfl⟩ (Nat.le_of_ble_eq_true rfl) rfl (Nat.le_of_ble_eq_true rfl) rfl (Nat.le_of_ble_eq_true rfl) rfl ?_
  refine me_topR (congrArg some eu152) ?_
  have k153 : mm_kd g151 u152 = 14 := by rw [eu152]; exact mm_kN eg151
  obtain ⟨k154, hf⟩ := mm_ck_some hf
  obtain ⟨g155, eg155, hf⟩ := mm_lt_some hf
  refine me_putR (q := 267) C eg155 dX12_init_264 mf_X12_103 mp_X12_13_45 (Or.inr ⟨_, rfl⟩) rfl (by decide) rfl k154 rfl ?_
  refine me_aload_n (q := 268) C dX12_init_267 rfl rfl rfl ?_
  refine me_sipush (v := (300 : Int32)) (q := 271) C dX12_init_268 (by decide) rfl ?_
  obtain ⟨g156, eg156, hf⟩ := mm_lt_some hf
  obtain ⟨u157, eu157, hf⟩ := mm_lt_some hf
  refine me_newaI (q := 273) (B := 300) (c2 := 32) (s2 := 28464) C eg156 dX12_init_271 ma_int ⟨by decide, Nat.le_of_ble_eq_true rfl⟩ (Nat.le_of_ble_eq_true rfl) rfl (Nat.le_of_ble_eq_true rfl) rfl (Nat.le_of_ble_eq_true rfl) rfl ?_
  refine me_topR (congrArg some eu157) ?_
  have k158 : mm_kd g156 u157 = 14 := by rw [eu157]; exact mm_kN eg156
  obtain ⟨k159, hf⟩ := mm_ck_some hf
  obtain ⟨g160, eg160, hf⟩ := mm_lt_some hf
  refine me_putR (q := 276) C eg160 dX12_init_273 mf_X12_106 mp_X12_13_46 (Or.inr ⟨_, rfl⟩) rfl (by decide) rfl k159 rfl ?_
  refine me_aload_n (q := 277) C dX12_init_276 rfl rfl rfl ?_
  refine me_sipush (v := (300 : Int32)) (q := 280) C dX12_init_277 (by decide) rfl ?_
  obtain ⟨g161, eg161, hf⟩ := mm_lt_some hf
  obtain ⟨u162, eu162, hf⟩ := mm_lt_some hf
  refine me_newaI (q := 282) (B := 300) (c2 := 33) (s2 := 28764) C eg161 dX12_init_280 ma_int ⟨by decide, Nat.le_of_ble_eq_true rfl⟩ (Nat.le_of_ble_eq_true rfl) rfl (Nat.le_of_ble_eq_true rfl) rfl (Nat.le_of_ble_eq_true rfl) rfl ?_
  refine me_topR (congrArg some eu162) ?_
  have k163 : mm_kd g161 u162 = 14 := by rw [eu162]; exact mm_kN eg161
  obtain ⟨k164, hf⟩ := mm_ck_some hf
  obtain ⟨g165, eg165, hf⟩ := mm_lt_some hf
  refine me_putR (q := 285) C eg165 dX12_init_282 mf_X12_109 mp_X12_13_47 (Or.inr ⟨_, rfl⟩) rfl (by decide) rfl k164 rfl ?_
  refine me_aload_n (q := 286) C dX12_init_285 rfl rfl rfl ?_
  refine me_sipush (v := (300 : Int32)) (q := 289) C dX12_init_286 (by decide) rfl ?_
  obtain ⟨g166, eg166, hf⟩ := mm_lt_some hf
  obtain ⟨u167, eu167, hf⟩ := mm_lt_some hf
  refine me_newaI (q := 291) (B := 300) (c2 := 34) (s2 := 29064) C eg166 dX12_init_289 ma_int ⟨by decide, Nat.le_of_ble_eq_true rfl⟩ (Nat.le_of_ble_eq_true rfl) rfl (Nat.le_of_ble_eq_true rfl) rfl (Nat.le_of_ble_eq_true rfl) rfl ?_
  refine me_topR (congrArg some eu167) ?_
  have k168 : mm_kd g166 u167 = 14 := by rw [eu167]; exact mm_kN eg166
  obtain ⟨k169, hf⟩ := mm_ck_some hf
  obtain ⟨g170, eg170, hf⟩ := mm_lt_some hf
  refine me_putR (q := 294) C eg170 dX12_init_291 mf_X12_112 mp_X12_13_48 (Or.inr ⟨_, rfl⟩) rfl (by decide) rfl k169 rfl ?_
  refine me_aload_n (q := 295) C dX12_init_294 rfl rfl rfl ?_
  refine me_sipush (v := (300 : Int32)) (q := 298) C dX12_init_295 (by decide) rfl ?_
  obtain ⟨g171, eg171, hf⟩ := mm_lt_some hf
  obtain ⟨u172, eu172, hf⟩ := mm_lt_some hf
  refine me_newaI (q := 300) (B := 300) (c2 := 35) (s2 := 29364) C eg171 dX12_init_298 ma_int ⟨by decide, Nat.le_of_ble_eq_true rfl⟩ (Nat.le_of_ble_eq_true rfl) rfl (Nat.le_of_ble_eq_true rfl) rfl (Nat.le_of_ble_eq_true rfl) rfl ?_
  refine me_topR (congrArg some eu172) ?_
  have k173 : mm_kd g171 u172 = 14 := by rw [eu172]; exact mm_kN eg171
  obtain ⟨k174, hf⟩ := mm_ck_some hf
  obtain ⟨g175, eg175, hf⟩ := mm_lt_some hf
  refine me_putR (q := 303) C eg175 dX12_init_300 mf_X12_115 mp_X12_13_49 (Or.inr ⟨_, rfl⟩) rfl (by decide) rfl k174 rfl ?_
  refine me_aload_n (q := 304) C dX12_init_303 rfl rfl rfl ?_
  refine me_sipush (v := (300 : Int32)) (q := 307) C dX12_init_304 (by decide) rfl ?_
  obtain ⟨g176, eg176, hf⟩ := mm_lt_some hf
  obtain ⟨u177, eu177, hf⟩ := mm_lt_some hf
  refine me_newaI (q := 309) (B := 300) (c2 := 36) (s2 := 29664) C eg176 dX12_init_307 ma_int ⟨by decide, Nat.le_of_ble_eq_true rfl⟩ (Nat.le_of_ble_eq_true rfl) rfl (Nat.le_of_ble_eq_true rfl) rfl (Nat.le_of_ble_eq_true rfl) rfl ?_
  refine me_topR (congrArg some eu177) ?_
  have k178 : mm_kd g176 u177 = 14 := by rw [eu177]; exact mm_kN eg176
  obtain ⟨k179, hf⟩ := mm_ck_some hf
  obtain ⟨g180, eg180, hf⟩ := mm_lt_some hf
  refine me_putR (q := 312) C eg180 dX12_init_309 mf_X12_118 mp_X12_13_50 (Or.inr ⟨_, rfl⟩) rfl (by decide) rfl k179 rfl ?_
  refine me_aload_n (q := 313) C dX12_init_312 rfl rfl rfl ?_
  refine me_sipush (v := (300 : Int32)) (q := 316) C dX12_init_313 (by decide) rfl ?_
  obtain ⟨g181, eg181, hf⟩ := mm_lt_some hf
  obtain ⟨u182, eu182, hf⟩ := mm_lt_some hf
  refine me_newaI (q := 318) (B := 300) (c2 := 37) (s2 := 29964) C eg181 dX12_init_316 ma_int ⟨by decide, Nat.le_of_ble_eq_true rfl⟩ (Nat.le_of_ble_eq_true rfl) rfl (Nat.le_of_ble_eq_true rfl) rfl (Nat.le_of_ble_eq_true rfl) rfl ?_
  refine me_topR (congrArg some eu182) ?_
  have k183 : mm_kd g181 u182 = 14 := by rw [eu182]; exact mm_kN eg181
  obtain ⟨k184, hf⟩ := mm_ck_some hf
  obtain ⟨g185, eg185, hf⟩ := mm_lt_some hf
  refine me_putR (q := 321) C eg185 dX12_init_318 mf_X12_121 mp_X12_13_51 (Or.inr ⟨_, rfl⟩) rfl (by decide) rfl k184 rfl ?_
  refine me_aload_n (q := 322) C dX12_init_321 rfl rfl rfl ?_
  refine me_sipush (v := (300 : Int32)) (q := 325) C dX12_init_322 (by decide) rfl ?_
  obtain ⟨g186, eg186, hf⟩ := mm_lt_some hf
  obtain ⟨u187, eu187, hf⟩ := mm_lt_some hf
  refine me_newaI (q := 327) (B := 300) (c2 := 38) (s2 := 30264) C eg186 dX12_init_325 ma_int ⟨by decide, Nat.le_of_ble_eq_true rfl⟩ (Nat.le_of_ble_eq_true rfl) rfl (Nat.le_of_ble_eq_true rfl) rfl (Nat.le_of_ble_eq_true rfl) rfl ?_
  refine me_topR (congrArg some eu187) ?_
  have k188 : mm_kd g186 u187 = 14 := by rw [eu187]; exact mm_kN eg186
  obtain ⟨k189, hf⟩ := mm_ck_some hf
  obtain ⟨g190, eg190, hf⟩ := mm_lt_some hf
  refine me_putR (q := 330) C eg190 dX12_init_327 mf_X12_124 mp_X12_13_52 (Or.inr ⟨_, rfl⟩) rfl (by decide) rfl k189 rfl ?_
  refine me_aload_n (q := 331) C dX12_init_330 rfl rfl rfl ?_
  refine me_sipush (v := (300 : Int32)) (q := 334) C dX12_init_331 (by decide) rfl ?_
  obtain ⟨g191, eg191, hf⟩ := mm_lt_some hf
  obtain ⟨u192, eu192, hf⟩ := mm_lt_some hf
  refine me_newaI (q := 336) (B := 300) (c2 := 39) (s2 := 30564) C eg191 dX12_init_334 ma_int ⟨by decide, Nat.le_of_ble_eq_true rfl⟩ (Nat.le_of_ble_eq_true rfl) rfl (Nat.le_of_ble_eq_true rfl) rfl (Nat.le_of_ble_eq_true rfl) rfl ?_
  refine me_topR (congrArg some eu192) ?_
  have k193 : mm_kd g191 u192 = 14 := by rw [eu192]; exact mm_kN eg191
  obtain ⟨k194, hf⟩ := mm_ck_some hf
  obtain ⟨g195, eg195, hf⟩ := mm_lt_some hf
  refine me_putR (q := 339) C eg195 dX12_init_336 mf_X12_127 mp_X12_13_53 (Or.inr ⟨_, rfl⟩) rfl (by decide) rfl k194 rfl ?_
  refine me_aload_n (q := 340) C dX12_init_339 rfl rfl rfl ?_
  refine me_sipush (v := (300 : Int32)) (q := 343) C dX12_init_340 (by decide) rfl ?_
  obtain ⟨g196, eg196, hf⟩ := mm_lt_some hf
  obtain ⟨u197, eu197, hf⟩ := mm_lt_some hf
  refine me_newaI (q := 345) (B := 300) (c2 := 40) (s2 := 30864) C eg196 dX12_init_343 ma_int ⟨by decide, Nat.le_of_ble_eq_true rfl⟩ (Nat.le_of_ble_eq_true rfl) rfl (Nat.le_of_ble_eq_true rfl) rfl (Nat.le_of_ble_eq_true rfl) rfl ?_
  refine me_topR (congrArg some eu197) ?_
  have k198 : mm_kd g196 u197 = 14 := by rw [eu197]; exact mm_kN eg196
  obtain ⟨k199, hf⟩ := mm_ck_some hf
  obtain ⟨g200, eg200, hf⟩ := mm_lt_some hf
  refine me_putR (q := 348) C eg200 dX12_init_345 mf_X12_130 mp_X12_13_54 (Or.inr ⟨_, rfl⟩) rfl (by decide) rfl k199 rfl ?_
  refine me_aload_n (q := 349) C dX12_init_348 rfl rfl rfl ?_
  refine me_sipush (v := (900 : Int32)) (q := 352) C dX12_init_349 (by decide) rfl ?_
  obtain ⟨g201, eg201, hf⟩ := mm_lt_some hf
  obtain ⟨u202, eu202, hf⟩ := mm_lt_some hf
  refine me_newaI (q := 354) (B := 900) (c2 := 41) (s2 := 31764) C eg201 dX12_init_352 ma_int ⟨by decide, Nat.le_of_ble_eq_true rfl⟩ (Nat.le_of_ble_eq_true rfl) rfl (Nat.le_of_ble_eq_true rfl) rfl (Nat.le_of_ble_eq_true rfl) rfl ?_
  refine me_topR (congrArg some eu202) ?_
  have k203 : mm_kd g201 u202 = 14 := by rw [eu202]; exact mm_kN eg201
  obtain ⟨k204, hf⟩ := mm_ck_some hf
  obtain ⟨g205, eg205, hf⟩ := mm_lt_some hf
  refine me_putR (q := 357) C eg205 dX12_init_354 mf_X12_133 mp_X12_13_55 (Or.inr ⟨_, rfl⟩) rfl (by decide) rfl k204 rfl ?_
  refine me_aload_n (q := 358) C dX12_init_357 rfl rfl rfl ?_
  refine me_sipush (v := (900 : Int32)) (q := 361) C dX12_init_358 (by decide) rfl ?_
  obtain ⟨g206, eg206, hf⟩ := mm_lt_some hf
  obtain ⟨u207, eu207, hf⟩ := mm_lt_some hf
  refine me_newaI (q := 363) (B := 900) (c2 := 42) (s2 := 32664) C eg206 dX12_init_361 ma_int ⟨by decide, Nat.le_of_ble_eq_true rfl⟩ (Nat.le_of_ble_eq_true rfl) rfl (Nat.le_of_ble_eq_true rfl) rfl (Nat.le_of_ble_eq_true rfl) rfl ?_
  refine me_topR (congrArg some eu207) ?_
  have k208 : mm_kd g206 u207 = 14 := by rw [eu207]; exact mm_kN eg206
  obtain ⟨k209, hf⟩ := mm_ck_some hf
  obtain ⟨g210, eg210, hf⟩ := mm_lt_some hf
  refine me_putR (q := 366) C eg210 dX12_init_363 mf_X12_136 mp_X12_13_56 (Or.inr ⟨_, rfl⟩) rfl (by decide) rfl k209 rfl ?_
  refine me_aload_n (q := 367) C dX12_init_366 rfl rfl rfl ?_
  refine me_sipush (v := (900 : Int32)) (q := 370) C dX12_init_367 (by decide) rfl ?_
  obtain ⟨g211, eg211, hf⟩ := mm_lt_some hf
  obtain ⟨u212, eu212, hf⟩ := mm_lt_some hf
  refine me_newaI (q := 372) (B := 900) (c2 := 43) (s2 := 33564) C eg211 dX12_init_370 ma_int ⟨by decide, Nat.le_of_ble_eq_true rfl⟩ (Nat.le_of_ble_eq_true rfl) rfl (Nat.le_of_ble_eq_true rfl) rfl (Nat.le_of_ble_eq_true rfl) rfl ?_
  refine me_topR (congrArg some eu212) ?_
  have k213 : mm_kd g211 u212 = 14 := by rw [eu212]; exact mm_kN eg211
  obtain ⟨k214, hf⟩ := mm_ck_some hf
  obtain ⟨g215, eg215, hf⟩ := mm_lt_some hf
  refine me_putR (q := 375) C eg215 dX12_init_372 mf_X12_139 mp_X12_13_57 (Or.inr ⟨_, rfl⟩) rfl (by decide) rfl k214 rfl ?_
  refine me_aload_n (q := 376) C dX12_init_375 rfl rfl rfl ?_
  refine me_sipush (v := (900 : Int32)) (q := 379) C dX12_init_376 (by decide) rfl ?_
  obtain ⟨g216, eg216, hf⟩ := mm_lt_some hf
  obtain ⟨u217, eu217, hf⟩ := mm_lt_some hf
  refine me_newaI (q := 381) (B := 900) (c2 := 44) (s2 := 34464) C eg216 dX12_init_379 ma_int ⟨by decide, Nat.le_of_ble_eq_true rfl⟩ (Nat.le_of_ble_eq_true rfl) rfl (Nat.le_of_ble_eq_true rfl) rfl (Nat.le_of_ble_eq_true rfl) rfl ?_
  refine me_topR (congrArg some eu217) ?_
  have k218 : mm_kd g216 u217 = 14 := by rw [eu217]; exact mm_kN eg216
  obtain ⟨k219, hf⟩ := mm_ck_some hf
  obtain ⟨g220, eg220, hf⟩ := mm_lt_some hf
  refine me_putR (q := 384) C eg220 dX12_init_381 mf_X12_142 mp_X12_13_58 (Or.inr ⟨_, rfl⟩) rfl (by decide) rfl k219 rfl ?_
  refine me_aload_n (q := 385) C dX12_init_384 rfl rfl rfl ?_
  refine me_iconst (v := (-1 : Int32)) (q := 386) C dX12_init_385 (by decide) rfl ?_
  obtain ⟨g221, eg221, hf⟩ := mm_lt_some hf
  refine me_putI (q := 389) C eg221 dX12_init_386 mf_X12_145 mp_X12_13_59 rfl (by decide) rfl (mm_kR eg220 k219) rfl ?_
  refine me_aload_n (q := 390) C dX12_init_389 rfl rfl rfl ?_
  refine me_iconst (v := (-1 : Int32)) (q := 391) C dX12_init_390 (by decide) rfl ?_
  obtain ⟨g222, eg222, hf⟩ := mm_lt_some hf
  refine me_putI (q := 394) C eg222 dX12_init_391 mf_X12_149 mp_X12_13_60 rfl (by decide) rfl (mm_kI eg221 (mm_kR eg220 k219)) rfl ?_
  refine me_aload_n (q := 395) C dX12_init_394 rfl rfl rfl ?_
  refine me_bipush (v := (100 : Int32)) (q := 397) C dX12_init_395 (by decide) rfl ?_
  obtain ⟨g223, eg223, hf⟩ := mm_lt_some hf
  obtain ⟨u224, eu224, hf⟩ := mm_lt_some hf
  refine me_newaI (q := 399) (B := 100) (c2 := 45) (s2 := 34564) C eg223 dX12_init_397 ma_int ⟨by decide, Nat.le_of_ble_eq_true rfl⟩ (Nat.le_of_ble_eq_true rfl) rfl (Nat.le_of_ble_eq_true rfl) rfl (Nat.le_of_ble_eq_true rfl) rfl ?_
  refine me_topR (congrArg some eu224) ?_
  have k225 : mm_kd g223 u224 = 14 := by rw [eu224]; exact mm_kN eg223
  obtain ⟨k226, hf⟩ := mm_ck_some hf
  obtain ⟨g227, eg227, hf⟩ := mm_lt_some hf
  refine me_putR (q := 402) C eg227 dX12_init_399 mf_X12_152 mp_X12_13_62 (Or.inr ⟨_, rfl⟩) rfl (by decide) rfl k226 rfl ?_
  refine me_aload_n (q := 403) C dX12_init_402 rfl rfl rfl ?_
  refine me_bipush (v := (100 : Int32)) (q := 405) C dX12_init_403 (by decide) rfl ?_
  obtain ⟨g228, eg228, hf⟩ := mm_lt_some hf
  obtain ⟨u229, eu229, hf⟩ := mm_lt_some hf
  refine me_newaI (q := 407) (B := 100) (c2 := 46) (s2 := 34664) C eg228 dX12_init_405 ma_int ⟨by decide, Nat.le_of_ble_eq_true rfl⟩ (Nat.le_of_ble_eq_true rfl) rfl (Nat.le_of_ble_eq_true rfl) rfl (Nat.le_of_ble_eq_true rfl) rfl ?_
  refine me_topR (congrArg some eu229) ?_
  have k230 : mm_kd g228 u229 = 14 := by rw [eu229]; exact mm_kN eg228
  obtain ⟨k231, hf⟩ := mm_ck_some hf
  obtain ⟨g232, eg232, hf⟩ := mm_lt_some hf
  refine me_putR (q := 410) C eg232 dX12_init_407 mf_X12_155 mp_X12_13_63 (Or.inr ⟨_, rfl⟩) rfl (by decide) rfl k231 rfl ?_
  refine me_aload_n (q := 411) C dX12_init_410 rfl rfl rfl ?_
  refine me_bipush (v := (100 : Int32)) (q := 413) C dX12_init_411 (by decide) rfl ?_
  obtain ⟨g233, eg233, hf⟩ := mm_lt_some hf
  obtain ⟨u234, eu234, hf⟩ := mm_lt_some hf
  refine me_newaI (q := 415) (B := 100) (c2 := 47) (s2 := 34764) C eg233 dX12_init_413 ma_int ⟨by decide, Nat.le_of_ble_eq_true rfl⟩ (Nat.le_of_ble_eq_true rfl) rfl (Nat.le_of_ble_eq_true rfl) rfl (Nat.le_of_ble_eq_true rfl) rfl ?_
  refine me_topR (congrArg some eu234) ?_
  have k235 : mm_kd g233 u234 = 14 := by rw [eu234]; exact mm_kN eg233
  obtain ⟨k236, hf⟩ := mm_ck_some hf
  obtain ⟨g237, eg237, hf⟩ := mm_lt_some hf
  refine me_putR (q := 418) C eg237 dX12_init_415 mf_X12_158 mp_X12_13_64 (Or.inr ⟨_, rfl⟩) rfl (by decide) rfl k236 rfl ?_
  refine me_aload_n (q := 419) C dX12_init_418 rfl rfl rfl ?_
  refine me_bipush (v := (100 : Int32)) (q := 421) C dX12_init_419 (by decide) rfl ?_
  obtain ⟨g238, eg238, hf⟩ := mm_lt_some hf
  obtain ⟨u239, eu239, hf⟩ := mm_lt_some hf
  refine me_newaI (q := 423) (B := 100) (c2 := 48) (s2 := 34864) C eg238 dX12_init_421 ma_int ⟨by decide, Nat.le_of_ble_eq_true rfl⟩ (Nat.le_of_ble_eq_true rfl) rfl (Nat.le_of_ble_eq_true rfl) rfl (Nat.le_of_ble_eq_true rfl) rfl ?_
  refine me_topR (congrArg some eu239) ?_
  have k240 : mm_kd g238 u239 = 14 := by rw [eu239]; exact mm_kN eg238
  obtain ⟨k241, hf⟩ := mm_ck_some hf
  obtain ⟨g242, eg242, hf⟩ := mm_lt_some hf
  refine me_putR (q := 426) C eg242 dX12_init_423 mf_X12_161 mp_X12_13_65 (Or.inr ⟨_, rfl⟩) rfl (by decide) rfl k241 rfl ?_
  refine me_aload_n (q := 427) C dX12_init_426 rfl rfl rfl ?_
  refine me_bipush (v := (100 : Int32)) (q := 429) C dX12_init_427 (by decide) rfl ?_
  obtain ⟨g243, eg243, hf⟩ := mm_lt_some hf
  obtain ⟨u244, eu244, hf⟩ := mm_lt_some hf
  refine me_newaI (q := 431) (B := 100) (c2 := 49) (s2 := 34964) C eg243 dX12_init_429 ma_int ⟨by decide, Nat.le_of_ble_eq_true rfl⟩ (Nat.le_of_ble_eq_true rfl) rfl (Nat.le_of_ble_eq_true rfl) rfl (Nat.le_of_ble_eq_true rfl) rfl ?_
  refine me_topR (congrArg some eu244) ?_
  have k245 : mm_kd g243 u244 = 14 := by rw [eu244]; exact mm_kN eg243
  obtain ⟨k246, hf⟩ := mm_ck_some hf
  obtain ⟨g247, eg247, hf⟩ := mm_lt_some hf
  refine me_putR (q := 434) C eg247 dX12_init_431 mf_X12_164 mp_X12_13_66 (Or.inr ⟨_, rfl⟩) rfl (by decide) rfl k246 rfl ?_
  refine me_aload_n (q := 435) C dX12_init_434 rfl rfl rfl ?_
  refine me_iconst (v := (1 : Int32)) (q := 436) C dX12_init_435 (by decide) rfl ?_
  obtain ⟨g248, eg248, hf⟩ := mm_lt_some hf
  refine me_putI (q := 439) C eg248 dX12_init_436 mf_X12_167 mp_X12_13_73 rfl (by decide) rfl (mm_kR eg247 k246) rfl ?_
  refine me_aload_n (q := 440) C dX12_init_439 rfl rfl rfl ?_
  refine me_bipush (v := (90 : Int32)) (q := 442) C dX12_init_440 (by decide) rfl ?_
  obtain ⟨g249, eg249, hf⟩ := mm_lt_some hf
  refine me_putI (q := 445) C eg249 dX12_init_442 mf_X12_170 mp_X12_13_74 rfl (by decide) rfl (mm_kI eg248 (mm_kR eg247 k246)) rfl ?_
  refine me_aload_n (q := 446) C dX12_init_445 rfl rfl rfl ?_
  refine me_bipush (v := (8 : Int32)) (q := 448) C dX12_init_446 (by decide) rfl ?_
  obtain ⟨g250, eg250, hf⟩ := mm_lt_some hf
  obtain ⟨u251, eu251, hf⟩ := mm_lt_some hf
  refine me_newaI (q := 450) (B := 8) (c2 := 50) (s2 := 34972) C eg250 dX12_init_448 ma_int ⟨by decide, Nat.le_of_ble_eq_true rfl⟩ (Nat.le_of_ble_eq_true rfl) rfl (Nat.le_of_ble_eq_true rfl) rfl (Nat.le_of_ble_eq_true rfl) rfl ?_
  refine me_topR (congrArg some eu251) ?_
  have k252 : mm_kd g250 u251 = 14 := by rw [eu251]; exact mm_kN eg250
  obtain ⟨k253, hf⟩ := mm_ck_some hf
  obtain ⟨g254, eg254, hf⟩ := mm_lt_some hf
  refine me_putR (q := 453) C eg254 dX12_init_450 mf_X12_173 mp_X12_13_75 (Or.inr ⟨_, rfl⟩) rfl (by decide) rfl k253 rfl ?_
  refine me_aload_n (q := 454) C dX12_init_453 rfl rfl rfl ?_
  refine me_bipush (v := (20 : Int32)) (q := 456) C dX12_init_454 (by decide) rfl ?_
  obtain ⟨g255, eg255, hf⟩ := mm_lt_some hf
  obtain ⟨u256, eu256, hf⟩ := mm_lt_some hf
  refine me_newaI (q := 458) (B := 20) (c2 := 51) (s2 := 34992) C eg255 dX12_init_456 ma_int ⟨by decide, Nat.le_of_ble_eq_true rfl⟩ (Nat.le_of_ble_eq_true rfl) rfl (Nat.le_of_ble_eq_true rfl) rfl (Nat.le_of_ble_eq_true rfl) rfl ?_
  refine me_topR (congrArg some eu256) ?_
  have k257 : mm_kd g255 u256 = 14 := by rw [eu256]; exact mm_kN eg255
  obtain ⟨k258, hf⟩ := mm_ck_some hf
  obtain ⟨g259, eg259, hf⟩ := mm_lt_some hf
  refine me_putR (q := 461) C eg259 dX12_init_458 mf_X12_176 mp_X12_13_78 (Or.inr ⟨_, rfl⟩) rfl (by decide) rfl k258 rfl ?_
  refine me_aload_n (q := 462) C dX12_init_461 rfl rfl rfl ?_
  refine me_bipush (v := (20 : Int32)) (q := 464) C dX12_init_462 (by decide) rfl ?_
  obtain ⟨g260, eg260, hf⟩ := mm_lt_some hf
  obtain ⟨u261, eu261, hf⟩ := mm_lt_some hf
  refine me_newaI (q := 466) (B := 20) (c2 := 52) (s2 := 35012) C eg260 dX12_init_464 ma_int ⟨by decide, Nat.le_of_ble_eq_true rfl⟩ (Nat.le_of_ble_eq_true rfl) rfl (Nat.le_of_ble_eq_true rfl) rfl (Nat.le_of_ble_eq_true rfl) rfl ?_
  refine me_topR (congrArg some eu261) ?_
  have k262 : mm_kd g260 u261 = 14 := by rw [eu261]; exact mm_kN eg260
  obtain ⟨k263, hf⟩ := mm_ck_some hf
  obtain ⟨g264, eg264, hf⟩ := mm_lt_some hf
  refine me_putR (q := 469) C eg264 dX12_init_466 mf_X12_179 mp_X12_13_79 (Or.inr ⟨_, rfl⟩) rfl (by decide) rfl k263 rfl ?_
  refine me_aload_n (q := 470) C dX12_init_469 rfl rfl rfl ?_
  refine me_bipush (v := (20 : Int32)) (q := 472) C dX12_init_470 (by decide) rfl ?_
  obtain ⟨g265, eg265, hf⟩ := mm_lt_some hf
  obtain ⟨u266, eu266, hf⟩ := mm_lt_some hf
  refine me_newaI (q := 474) (B := 20) (c2 := 53) (s2 := 35032) C eg265 dX12_init_472 ma_int ⟨by decide, Nat.le_of_ble_eq_true rfl⟩ (Nat.le_of_ble_eq_true rfl) rfl (Nat.le_of_ble_eq_true rfl) rfl (Nat.le_of_ble_eq_true rfl) rfl ?_
  refine me_topR (congrArg some eu266) ?_
  have k267 : mm_kd g265 u266 = 14 := by rw [eu266]; exact mm_kN eg265
  obtain ⟨k268, hf⟩ := mm_ck_some hf
  obtain ⟨g269, eg269, hf⟩ := mm_lt_some hf
  refine me_putR (q := 477) C eg269 dX12_init_474 mf_X12_182 mp_X12_13_80 (Or.inr ⟨_, rfl⟩) rfl (by decide) rfl k268 rfl ?_
  refine me_aload_n (q := 478) C dX12_init_477 rfl rfl rfl ?_
  refine me_bipush (v := (20 : Int32)) (q := 480) C dX12_init_478 (by decide) rfl ?_
  obtain ⟨g270, eg270, hf⟩ := mm_lt_some hf
  obtain ⟨u271, eu271, hf⟩ := mm_lt_some hf
  refine me_newaI (q := 482) (B := 20) (c2 := 54) (s2 := 35052) C eg270 dX12_init_480 ma_int ⟨by decide, Nat.le_of_ble_eq_true rfl⟩ (Nat.le_of_ble_eq_true rfl) rfl (Nat.le_of_ble_eq_true rfl) rfl (Nat.le_of_ble_eq_true rfl) rfl ?_
  refine me_topR (congrArg some eu271) ?_
  have k272 : mm_kd g270 u271 = 14 := by rw [eu271]; exact mm_kN eg270
  obtain ⟨k273, hf⟩ := mm_ck_some hf
  obtain ⟨g274, eg274, hf⟩ := mm_lt_some hf
  refine me_putR (q := 485) C eg274 dX12_init_482 mf_X12_185 mp_X12_13_81 (Or.inr ⟨_, rfl⟩) rfl (by decide) rfl k273 rfl ?_
  refine me_aload_n (q := 486) C dX12_init_485 rfl rfl rfl ?_
  refine me_sipush (v := (200 : Int32)) (q := 489) C dX12_init_486 (by decide) rfl ?_
  obtain ⟨g275, eg275, hf⟩ := mm_lt_some hf
  obtain ⟨u276, eu276, hf⟩ := mm_lt_some hf
  refine me_newaI (q := 491) (B := 200) (c2 := 55) (s2 := 35252) C eg275 dX12_init_489 ma_int ⟨by decide, Nat.le_of_ble_eq_true rfl⟩ (Nat.le_of_ble_eq_true rfl) rfl (Nat.le_of_ble_eq_true rfl) rfl (Nat.le_of_ble_eq_true rfl) rfl ?_
  refine me_topR (congrArg some eu276) ?_
  have k277 : mm_kd g275 u276 = 14 := by rw [eu276]; exact mm_kN eg275
  obtain ⟨k278, hf⟩ := mm_ck_some hf
  obtain ⟨g279, eg279, hf⟩ := mm_lt_some hf
  refine me_putR (q := 494) C eg279 dX12_init_491 mf_X12_188 mp_X12_13_82 (Or.inr ⟨_, rfl⟩) rfl (by decide) rfl k278 rfl ?_
  refine me_aload_n (q := 495) C dX12_init_494 rfl rfl rfl ?_
  refine me_sipush (v := (200 : Int32)) (q := 498) C dX12_init_495 (by decide) rfl ?_
  obtain ⟨g280, eg280, hf⟩ := mm_lt_some hf
  obtain ⟨u281, eu281, hf⟩ := mm_lt_some hf
  refine me_newaI (q := 500) (B := 200) (c2 := 56) (s2 := 35452) C eg280 dX12_init_498 ma_int ⟨by decide, Nat.le_of_ble_eq_true rfl⟩ (Nat.le_of_ble_eq_true rfl) rfl (Nat.le_of_ble_eq_true rfl) rfl (Nat.le_of_ble_eq_true rfl) rfl ?_
  refine me_topR (congrArg some eu281) ?_
  have k282 : mm_kd g280 u281 = 14 := by rw [eu281]; exact mm_kN eg280
  obtain ⟨k283, hf⟩ := mm_ck_some hf
  obtain ⟨g284, eg284, hf⟩ := mm_lt_some hf
  refine me_putR (q := 503) C eg284 dX12_init_500 mf_X12_191 mp_X12_13_83 (Or.inr ⟨_, rfl⟩) rfl (by decide) rfl k283 rfl ?_
  refine me_aload_n (q := 504) C dX12_init_503 rfl rfl rfl ?_
  refine me_sipush (v := (200 : Int32)) (q := 507) C dX12_init_504 (by decide) rfl ?_
  obtain ⟨g285, eg285, hf⟩ := mm_lt_some hf
  obtain ⟨u286, eu286, hf⟩ := mm_lt_some hf
  refine me_newaI (q := 509) (B := 200) (c2 := 57) (s2 := 35652) C eg285 dX12_init_507 ma_int ⟨by decide, Nat.le_of_ble_eq_true rfl⟩ (Nat.le_of_ble_eq_true rfl) rfl (Nat.le_of_ble_eq_true rfl) rfl (Nat.le_of_ble_eq_true rfl) rfl ?_
  refine me_topR (congrArg some eu286) ?_
  have k287 : mm_kd g285 u286 = 14 := by rw [eu286]; exact mm_kN eg285
  obtain ⟨k288, hf⟩ := mm_ck_some hf
  obtain ⟨g289, eg289, hf⟩ := mm_lt_some hf
  refine me_putR (q := 512) C eg289 dX12_init_509 mf_X12_194 mp_X12_13_84 (Or.inr ⟨_, rfl⟩) rfl (by decide) rfl k288 rfl ?_
  refine me_aload_n (q := 513) C dX12_init_512 rfl rfl rfl ?_
  refine me_sipush (v := (200 : Int32)) (q := 516) C dX12_init_513 (by decide) rfl ?_
  obtain ⟨g290, eg290, hf⟩ := mm_lt_some hf
  obtain ⟨u291, eu291, hf⟩ := mm_lt_some hf
  refine me_newaI (q := 518) (B := 200) (c2 := 58) (s2 := 35852) C eg290 dX12_init_516 ma_int ⟨by decide, Nat.le_of_ble_eq_true rfl⟩ (Nat.le_of_ble_eq_true rfl) rfl (Nat.le_of_ble_eq_true rfl) rfl (Nat.le_of_ble_eq_true rfl) rfl ?_
  refine me_topR (congrArg some eu291) ?_
  have k292 : mm_kd g290 u291 = 14 := by rw [eu291]; exact mm_kN eg290
  obtain ⟨k293, hf⟩ := mm_ck_some hf
  obtain ⟨g294, eg294, hf⟩ := mm_lt_some hf
  refine me_putR (q := 521) C eg294 dX12_init_518 mf_X12_197 mp_X12_13_85 (Or.inr ⟨_, rfl⟩) rfl (by decide) rfl k293 rfl ?_
  refine me_aload_n (q := 522) C dX12_init_521 rfl rfl rfl ?_
  refine me_sipush (v := (200 : Int32)) (q := 525) C dX12_init_522 (by decide) rfl ?_
  obtain ⟨g295, eg295, hf⟩ := mm_lt_some hf
  obtain ⟨u296, eu296, hf⟩ := mm_lt_some hf
  refine me_newaI (q := 527) (B := 200) (c2 := 59) (s2 := 36052) C eg295 dX12_init_525 ma_int ⟨by decide, Nat.le_of_ble_eq_true rfl⟩ (Nat.le_of_ble_eq_true rfl) rfl (Nat.le_of_ble_eq_true rfl) rfl (Nat.le_of_ble_eq_true rfl) rfl ?_
  refine me_topR (congrArg some eu296) ?_
  have k297 : mm_kd g295 u296 = 14 := by rw [eu296]; exact mm_kN eg295
  obtain ⟨k298, hf⟩ := mm_ck_some hf
  obtain ⟨g299, eg299, hf⟩ := mm_lt_some hf
  refine me_putR (q := 530) C eg299 dX12_init_527 mf_X12_200 mp_X12_13_86 (Or.inr ⟨_, rfl⟩) rfl (by decide) rfl k298 rfl ?_
  refine me_aload_n (q := 531) C dX12_init_530 rfl rfl rfl ?_
  refine me_sipush (v := (800 : Int32)) (q := 534) C dX12_init_531 (by decide) rfl ?_
  obtain ⟨g300, eg300, hf⟩ := mm_lt_some hf
  obtain ⟨u301, eu301, hf⟩ := mm_lt_some hf
  refine me_newaZ (q := 536) (B := 800) (c2 := 60) (s2 := 36852) C eg300 dX12_init_534 ma_boolean ⟨by decide, Nat.le_of_ble_eq_true rfl⟩ (Nat.le_of_ble_eq_true rfl) rfl (Nat.le_of_ble_eq_true rfl) rfl (Nat.le_of_ble_eq_true rfl) rfl ?_
  refine me_topR (congrArg some eu301) ?_
  have k302 : mm_kd g300 u301 = 17 := by rw [eu301]; exact mm_kN eg300
  obtain ⟨k303, hf⟩ := mm_ck_some hf
  obtain ⟨g304, eg304, hf⟩ := mm_lt_some hf
  refine me_putR (q := 539) C eg304 dX12_init_536 mf_X12_203 mp_X12_13_87 (Or.inr ⟨_, rfl⟩) rfl (by decide) rfl k303 rfl ?_
  refine me_aload_n (q := 540) C dX12_init_539 rfl rfl rfl ?_
  refine me_iconst (v := (5 : Int32)) (q := 541) C dX12_init_540 (by decide) rfl ?_
  obtain ⟨g305, eg305, hf⟩ := mm_lt_some hf
  obtain ⟨u306, eu306, hf⟩ := mm_lt_some hf
  refine me_newaI (q := 543) (B := 5) (c2 := 61) (s2 := 36857) C eg305 dX12_init_541 ma_int ⟨by decide, Nat.le_of_ble_eq_true rfl⟩ (Nat.le_of_ble_eq_true rfl) rfl (Nat.le_of_ble_eq_true rfl) rfl (Nat.le_of_ble_eq_true rfl) rfl ?_
  refine me_topR (congrArg some eu306) ?_
  have k307 : mm_kd g305 u306 = 14 := by rw [eu306]; exact mm_kN eg305
  obtain ⟨k308, hf⟩ := mm_ck_some hf
  obtain ⟨g309, eg309, hf⟩ := mm_lt_some hf
  refine me_putR (q := 546) C eg309 dX12_init_543 mf_X12_206 mp_X12_13_92 (Or.inr ⟨_, rfl⟩) rfl (by decide) rfl k308 rfl ?_
  refine me_aload_n (q := 547) C dX12_init_546 rfl rfl rfl ?_
  refine me_iconst (v := (5 : Int32)) (q := 548) C dX12_init_547 (by decide) rfl ?_
  obtain ⟨g310, eg310, hf⟩ := mm_lt_some hf
  obtain ⟨u311, eu311, hf⟩ := mm_lt_some hf
  refine me_newaI (q := 550) (B := 5) (c2 := 62) (s2 := 36862) C eg310 dX12_init_548 ma_int ⟨by decide, Nat.le_of_ble_eq_true rfl⟩ (Nat.le_of_ble_eq_true rfl) rfl (Nat.le_of_ble_eq_true rfl) rfl (Nat.le_of_ble_eq_true rfl) rfl ?_
  refine me_topR (congrArg some eu311) ?_
  have k312 : mm_kd g310 u311 = 14 := by rw [eu311]; exact mm_kN eg310
  obtain ⟨k313, hf⟩ := mm_ck_some hf
  obtain ⟨g314, eg314, hf⟩ := mm_lt_some hf
  refine me_putR (q := 553) C eg314 dX12_init_550 mf_X12_209 mp_X12_13_93 (Or.inr ⟨_, rfl⟩) rfl (by decide) rfl k313 rfl ?_
  refine me_aload_n (q := 554) C dX12_init_553 rfl rfl rfl ?_
  refine me_iconst (v := (4 : Int32)) (q := 555) C dX12_init_554 (by decide) rfl ?_
  obtain ⟨g315, eg315, hf⟩ := mm_lt_some hf
  obtain ⟨u316, eu316, hf⟩ := mm_lt_some hf
  refine me_newaI (q := 557) (B := 4) (c2 := 63) (s2 := 36866) C eg315 dX12_init_555 ma_int ⟨by decide, Nat.le_of_ble_eq_true rfl⟩ (Nat.le_of_ble_eq_true rfl) rfl (Nat.le_of_ble_eq_true rfl) rfl (Nat.le_of_ble_eq_true rfl) rfl ?_
  refine me_topR (congrArg some eu316) ?_
  have k317 : mm_kd g315 u316 = 14 := by rw [eu316]; exact mm_kN eg315
  obtain ⟨k318, hf⟩ := mm_ck_some hf
  obtain ⟨g319, eg319, hf⟩ := mm_lt_some hf
  refine me_putR (q := 560) C eg319 dX12_init_557 mf_X12_212 mp_X12_13_94 (Or.inr ⟨_, rfl⟩) rfl (by decide) rfl k318 rfl ?_
  refine me_aload_n (q := 561) C dX12_init_560 rfl rfl rfl ?_
  refine me_iconst (v := (5 : Int32)) (q := 562) C dX12_init_561 (by decide) rfl ?_
  obtain ⟨g320, eg320, hf⟩ := mm_lt_some hf
  obtain ⟨u321, eu321, hf⟩ := mm_lt_some hf
  refine me_newaI (q := 564) (B := 5) (c2 := 64) (s2 := 36871) C eg320 dX12_init_562 ma_int ⟨by decide, Nat.le_of_ble_eq_true rfl⟩ (Nat.le_of_ble_eq_true rfl) rfl (Nat.le_of_ble_eq_true rfl) rfl (Nat.le_of_ble_eq_true rfl) rfl ?_
  refine me_topR (congrArg some eu321) ?_
  have k322 : mm_kd g320 u321 = 14 := by rw [eu321]; exact mm_kN eg320
  obtain ⟨k323, hf⟩ := mm_ck_some hf
  obtain ⟨g324, eg324, hf⟩ := mm_lt_some hf
  refine me_putR (q := 567) C eg324 dX12_init_564 mf_X12_215 mp_X12_13_95 (Or.inr ⟨_, rfl⟩) rfl (by decide) rfl k323 rfl ?_
  refine me_aload_n (q := 568) C dX12_init_567 rfl rfl rfl ?_
  refine me_iconst (v := (5 : Int32)) (q := 569) C dX12_init_568 (by decide) rfl ?_
  obtain ⟨g325, eg325, hf⟩ := mm_lt_some hf
  obtain ⟨u326, eu326, hf⟩ := mm_lt_some hf
  refine me_newaI (q := 571) (B := 5) (c2 := 65) (s2 := 36876) C eg325 dX12_init_569 ma_int ⟨by decide, Nat.le_of_ble_eq_true rfl⟩ (Nat.le_of_ble_eq_true rfl) rfl (Nat.le_of_ble_eq_true rfl) rfl (Nat.le_of_ble_eq_true rfl) rfl ?_
  refine me_topR (congrArg some eu326) ?_
  have k327 : mm_kd g325 u326 = 14 := by rw [eu326]; exact mm_kN eg325
  obtain ⟨k328, hf⟩ := mm_ck_some hf
  obtain ⟨g329, eg329, hf⟩ := mm_lt_some hf
  refine me_putR (q := 574) C eg329 dX12_init_571 mf_X12_218 mp_X12_13_96 (Or.inr ⟨_, rfl⟩) rfl (by decide) rfl k328 rfl ?_
  refine me_aload_n (q := 575) C dX12_init_574 rfl rfl rfl ?_
  refine me_bipush (v := (20 : Int32)) (q := 577) C dX12_init_575 (by decide) rfl ?_
  obtain ⟨g330, eg330, hf⟩ := mm_lt_some hf
  obtain ⟨u331, eu331, hf⟩ := mm_lt_some hf
  refine me_newaZ (q := 579) (B := 20) (c2 := 66) (s2 := 36896) C eg330 dX12_init_577 ma_boolean ⟨by decide, Nat.le_of_ble_eq_true rfl⟩ (Nat.le_of_ble_eq_true rfl) rfl (Nat.le_of_ble_eq_true rfl) rfl (Nat.le_of_ble_eq_true rfl) rfl ?_
  refine me_topR (congrArg some eu331) ?_
  have k332 : mm_kd g330 u331 = 17 := by rw [eu331]; exact mm_kN eg330
  obtain ⟨k333, hf⟩ := mm_ck_some hf
  obtain ⟨g334, eg334, hf⟩ := mm_lt_some hf
  refine me_putR (q := 582) C eg334 dX12_init_579 mf_X12_221 mp_X12_13_97 (Or.inr ⟨_, rfl⟩) rfl (by decide) rfl k333 rfl ?_
  refine me_aload_n (q := 583) C dX12_init_582 rfl rfl rfl ?_
  refine me_sipush (v := (300 : Int32)) (q := 586) C dX12_init_583 (by decide) rfl ?_
  obtain ⟨g335, eg335, hf⟩ := mm_lt_some hf
  obtain ⟨u336, eu336, hf⟩ := mm_lt_some hf
  refine me_newaZ (q := 588) (B := 300) (c2 := 67) (s2 := 37196) C eg335 dX12_init_586 ma_boolean ⟨by decide, Nat.le_of_ble_eq_true rfl⟩ (Nat.le_of_ble_eq_true rfl) rfl (Nat.le_of_ble_eq_true rfl) rfl (Nat.le_of_ble_eq_true rfl) rfl ?_
  refine me_topR (congrArg some eu336) ?_
  have k337 : mm_kd g335 u336 = 17 := by rw [eu336]; exact mm_kN eg335
  obtain ⟨k338, hf⟩ := mm_ck_some hf
  obtain ⟨g339, eg339, hf⟩ := mm_lt_some hf
  refine me_putR (q := 591) C eg339 dX12_init_588 mf_X12_224 mp_X12_13_98 (Or.inr ⟨_, rfl⟩) rfl (by decide) rfl k338 rfl ?_
  refine me_aload_n (q := 592) C dX12_init_591 rfl rfl rfl ?_
  refine me_bipush (v := (25 : Int32)) (q := 594) C dX12_init_592 (by decide) rfl ?_
  obtain ⟨g340, eg340, hf⟩ := mm_lt_some hf
  obtain ⟨u341, eu341, hf⟩ := mm_lt_some hf
  refine me_newaJ (q := 596) (B := 25) (c2 := 68) (s2 := 37221) C eg340 dX12_init_594 ma_long ⟨by decide, Nat.le_of_ble_eq_true rfl⟩ (Nat.le_of_ble_eq_true rfl) rfl (Nat.le_of_ble_eq_true rfl) rfl (Nat.le_of_ble_eq_true rfl) rfl ?_
  refine me_topR (congrArg some eu341) ?_
  have k342 : mm_kd g340 u341 = 15 := by rw [eu341]; exact mm_kN eg340
  obtain ⟨k343, hf⟩ := mm_ck_some hf
  obtain ⟨g344, eg344, hf⟩ := mm_lt_some hf
  refine me_putR (q := 599) C eg344 dX12_init_596 mf_X12_227 mp_X12_13_99 (Or.inr ⟨_, rfl⟩) rfl (by decide) rfl k343 rfl ?_
  refine me_aload_n (q := 600) C dX12_init_599 rfl rfl rfl ?_
  refine me_bipush (v := (25 : Int32)) (q := 602) C dX12_init_600 (by decide) rfl ?_
  obtain ⟨g345, eg345, hf⟩ := mm_lt_some hf
  obtain ⟨u346, eu346, hf⟩ := mm_lt_some hf
  refine me_newaJ (q := 604) (B := 25) (c2 := 69) (s2 := 37246) C eg345 dX12_init_602 ma_long ⟨by decide, Nat.le_of_ble_eq_true rfl⟩ (Nat.le_of_ble_eq_true rfl) rfl (Nat.le_of_ble_eq_true rfl) rfl (Nat.le_of_ble_eq_true rfl) rfl ?_
  refine me_topR (congrArg some eu346) ?_
  have k347 : mm_kd g345 u346 = 15 := by rw [eu346]; exact mm_kN eg345
  obtain ⟨k348, hf⟩ := mm_ck_some hf
  obtain ⟨g349, eg349, hf⟩ := mm_lt_some hf
  refine me_putR (q := 607) C eg349 dX12_init_604 mf_X12_230 mp_X12_13_100 (Or.inr ⟨_, rfl⟩) rfl (by decide) rfl k348 rfl ?_
  refine me_aload_n (q := 608) C dX12_init_607 rfl rfl rfl ?_
  refine me_iconst (v := (5 : Int32)) (q := 609) C dX12_init_608 (by decide) rfl ?_
  obtain ⟨g350, eg350, hf⟩ := mm_lt_some hf
  obtain ⟨u351, eu351, hf⟩ := mm_lt_some hf
  refine me_newaJ (q := 611) (B := 5) (c2 := 70) (s2 := 37251) C eg350 dX12_init_609 ma_long ⟨by decide, Nat.le_of_ble_eq_true rfl⟩ (Nat.le_of_ble_eq_true rfl) rfl (Nat.le_of_ble_eq_true rfl) rfl (Nat.le_of_ble_eq_true rfl) rfl ?_
  refine me_topR (congrArg some eu351) ?_
  have k352 : mm_kd g350 u351 = 15 := by rw [eu351]; exact mm_kN eg350
  obtain ⟨k353, hf⟩ := mm_ck_some hf
  obtain ⟨g354, eg354, hf⟩ := mm_lt_some hf
  refine me_putR (q := 614) C eg354 dX12_init_611 mf_X12_233 mp_X12_13_101 (Or.inr ⟨_, rfl⟩) rfl (by decide) rfl k353 rfl ?_
  refine me_aload_n (q := 615) C dX12_init_614 rfl rfl rfl ?_
  refine me_bipush (v := (8 : Int32)) (q := 617) C dX12_init_615 (by decide) rfl ?_
  obtain ⟨g355, eg355, hf⟩ := mm_lt_some hf
  obtain ⟨u356, eu356, hf⟩ := mm_lt_some hf
  refine me_newaI (q := 619) (B := 8) (c2 := 71) (s2 := 37259) C eg355 dX12_init_617 ma_int ⟨by decide, Nat.le_of_ble_eq_true rfl⟩ (Nat.le_of_ble_eq_true rfl) rfl (Nat.le_of_ble_eq_true rfl) rfl (Nat.le_of_ble_eq_true rfl) rfl ?_
  refine me_topR (congrArg some eu356) ?_
  have k357 : mm_kd g355 u356 = 14 := by rw [eu356]; exact mm_kN eg355
  obtain ⟨k358, hf⟩ := mm_ck_some hf
  obtain ⟨g359, eg359, hf⟩ := mm_lt_some hf
  refine me_putR (q := 622) C eg359 dX12_init_619 mf_X12_236 mp_X12_13_104 (Or.inr ⟨_, rfl⟩) rfl (by decide) rfl k358 rfl ?_
  refine me_aload_n (q := 623) C dX12_init_622 rfl rfl rfl ?_
  refine me_bipush (v := (8 : Int32)) (q := 625) C dX12_init_623 (by decide) rfl ?_
  obtain ⟨g360, eg360, hf⟩ := mm_lt_some hf
  obtain ⟨u361, eu361, hf⟩ := mm_lt_some hf
  refine me_newaI (q := 627) (B := 8) (c2 := 72) (s2 := 37267) C eg360 dX12_init_625 ma_int ⟨by decide, Nat.le_of_ble_eq_true rfl⟩ (Nat.le_of_ble_eq_true rfl) rfl (Nat.le_of_ble_eq_true rfl) rfl (Nat.le_of_ble_eq_true rfl) rfl ?_
  refine me_topR (congrArg some eu361) ?_
  have k362 : mm_kd g360 u361 = 14 := by rw [eu361]; exact mm_kN eg360
  obtain ⟨k363, hf⟩ := mm_ck_some hf
  obtain ⟨g364, eg364, hf⟩ := mm_lt_some hf
  refine me_putR (q := 630) C eg364 dX12_init_627 mf_X12_239 mp_X12_13_105 (Or.inr ⟨_, rfl⟩) rfl (by decide) rfl k363 rfl ?_
  refine me_aload_n (q := 631) C dX12_init_630 rfl rfl rfl ?_
  refine me_bipush (v := (8 : Int32)) (q := 633) C dX12_init_631 (by decide) rfl ?_
  obtain ⟨g365, eg365, hf⟩ := mm_lt_some hf
  obtain ⟨u366, eu366, hf⟩ := mm_lt_some hf
  refine me_newaI (q := 635) (B := 8) (c2 := 73) (s2 := 37275) C eg365 dX12_init_633 ma_int ⟨by decide, Nat.le_of_ble_eq_true rfl⟩ (Nat.le_of_ble_eq_true rfl) rfl (Nat.le_of_ble_eq_true rfl) rfl (Nat.le_of_ble_eq_true rfl) rfl ?_
  refine me_topR (congrArg some eu366) ?_
  have k367 : mm_kd g365 u366 = 14 := by rw [eu366]; exact mm_kN eg365
  obtain ⟨k368, hf⟩ := mm_ck_some hf
  obtain ⟨g369, eg369, hf⟩ := mm_lt_some hf
  refine me_putR (q := 638) C eg369 dX12_init_635 mf_X12_242 mp_X12_13_106 (Or.inr ⟨_, rfl⟩) rfl (by decide) rfl k368 rfl ?_
  refine me_aload_n (q := 639) C dX12_init_638 rfl rfl rfl ?_
  refine me_sipush (v := (256 : Int32)) (q := 642) C dX12_init_639 (by decide) rfl ?_
  obtain ⟨g370, eg370, hf⟩ := mm_lt_some hf
  obtain ⟨u371, eu371, hf⟩ := mm_lt_some hf
  refine me_newaI (q := 644) (B := 256) (c2 := 74) (s2 := 37531) C eg370 dX12_init_642 ma_int ⟨by decide, Nat.le_of_ble_eq_true rfl⟩ (Nat.le_of_ble_eq_true rfl) rfl (Nat.le_of_ble_eq_true rfl) rfl (Nat.le_of_ble_eq_true rfl) rfl ?_
  refine me_topR (congrArg some eu371) ?_
  have k372 : mm_kd g370 u371 = 14 := by rw [eu371]; exact mm_kN eg370
  obtain ⟨k373, hf⟩ := mm_ck_some hf
  obtain ⟨g374, eg374, hf⟩ := mm_lt_some hf
  refine me_putR (q := 647) C eg374 dX12_init_644 mf_X12_245 mp_X12_13_107 (Or.inr ⟨_, rfl⟩) rfl (by decide) rfl k373 rfl ?_
  refine me_aload_n (q := 648) C dX12_init_647 rfl rfl rfl ?_
  refine me_iconst (v := (2 : Int32)) (q := 649) C dX12_init_648 (by decide) rfl ?_
  obtain ⟨g375, eg375, hf⟩ := mm_lt_some hf
  obtain ⟨u376, eu376, hf⟩ := mm_lt_some hf
  refine me_newaI (q := 651) (B := 2) (c2 := 75) (s2 := 37533) C eg375 dX12_init_649 ma_int ⟨by decide, Nat.le_of_ble_eq_true rfl⟩ (Nat.le_of_ble_eq_true rfl) rfl (Nat.le_of_ble_eq_true rfl) rfl (Nat.le_of_ble_eq_true rfl) rfl ?_
  refine me_topR (congrArg some eu376) ?_
  have k377 : mm_kd g375 u376 = 14 := by rw [eu376]; exact mm_kN eg375
  obtain ⟨k378, hf⟩ := mm_ck_some hf
  obtain ⟨g379, eg379, hf⟩ := mm_lt_some hf
  refine me_putR (q := 654) C eg379 dX12_init_651 mf_X12_248 mp_X12_13_109 (Or.inr ⟨_, rfl⟩) rfl (by decide) rfl k378 rfl ?_
  refine me_aload_n (q := 655) C dX12_init_654 rfl rfl rfl ?_
  refine me_bipush (v := (20 : Int32)) (q := 657) C dX12_init_655 (by decide) rfl ?_
  obtain ⟨g380, eg380, hf⟩ := mm_lt_some hf
  obtain ⟨u381, eu381, hf⟩ := mm_lt_some hf
  refine me_newaI (q := 659) (B := 20) (c2 := 76) (s2 := 37553) C eg380 dX12_init_657 ma_int ⟨by decide, Nat.le_of_ble_eq_true rfl⟩ (Nat.le_of_ble_eq_true rfl) rfl (Nat.le_of_ble_eq_true rfl) rfl (Nat.le_of_ble_eq_true rfl) rfl ?_
  refine me_topR (congrArg some eu381) ?_
  have k382 : mm_kd g380 u381 = 14 := by rw [eu381]; exact mm_kN eg380
  obtain ⟨k383, hf⟩ := mm_ck_some hf
  obtain ⟨g384, eg384, hf⟩ := mm_lt_some hf
  refine me_putR (q := 662) C eg384 dX12_init_659 mf_X12_251 mp_X12_13_110 (Or.inr ⟨_, rfl⟩) rfl (by decide) rfl k383 rfl ?_
  refine me_aload_n (q := 663) C dX12_init_662 rfl rfl rfl ?_
  refine me_bipush (v := (20 : Int32)) (q := 665) C dX12_init_663 (by decide) rfl ?_
  obtain ⟨g385, eg385, hf⟩ := mm_lt_some hf
  obtain ⟨u386, eu386, hf⟩ := mm_lt_some hf
  refine me_newaI (q := 667) (B := 20) (c2 := 77) (s2 := 37573) C eg385 dX12_init_665 ma_int ⟨by decide, Nat.le_of_ble_eq_true rfl⟩ (Nat.le_of_ble_eq_true rfl) rfl (Nat.le_of_ble_eq_true rfl) rfl (Nat.le_of_ble_eq_true rfl) rfl ?_
  refine me_topR (congrArg some eu386) ?_
  have k387 : mm_kd g385 u386 = 14 := by rw [eu386]; exact mm_kN eg385
  obtain ⟨k388, hf⟩ := mm_ck_some hf
  obtain ⟨g389, eg389, hf⟩ := mm_lt_some hf
  refine me_putR (q := 670) C eg389 dX12_init_667 mf_X12_254 mp_X12_13_111 (Or.inr ⟨_, rfl⟩) rfl (by decide) rfl k388 rfl ?_
  refine me_aload_n (q := 671) C dX12_init_670 rfl rfl rfl ?_
  refine me_bipush (v := (20 : Int32)) (q := 673) C dX12_init_671 (by decide) rfl ?_
  obtain ⟨g390, eg390, hf⟩ := mm_lt_some hf
  obtain ⟨u391, eu391, hf⟩ := mm_lt_some hf
  refine me_newaI (q := 675) (B := 20) (c2 := 78) (s2 := 37593) C eg390 dX12_init_673 ma_int ⟨by decide, Nat.le_of_ble_eq_true rfl⟩ (Nat.le_of_ble_eq_true rfl) rfl (Nat.le_of_ble_eq_true rfl) rfl (Nat.le_of_ble_eq_true rfl) rfl ?_
  refine me_topR (congrArg some eu391) ?_
  have k392 : mm_kd g390 u391 = 14 := by rw [eu391]; exact mm_kN eg390
  obtain ⟨k393, hf⟩ := mm_ck_some hf
  obtain ⟨g394, eg394, hf⟩ := mm_lt_some hf
  refine me_putR (q := 678) C eg394 dX12_init_675 mf_X12_257 mp_X12_13_112 (Or.inr ⟨_, rfl⟩) rfl (by decide) rfl k393 rfl ?_
  refine me_aload_n (q := 679) C dX12_init_678 rfl rfl rfl ?_
  refine me_bipush (v := (10 : Int32)) (q := 681) C dX12_init_679 (by decide) rfl ?_
  obtain ⟨g395, eg395, hf⟩ := mm_lt_some hf
  obtain ⟨u396, eu396, hf⟩ := mm_lt_some hf
  refine me_newaI (q := 683) (B := 10) (c2 := 79) (s2 := 37603) C eg395 dX12_init_681 ma_int ⟨by decide, Nat.le_of_ble_eq_true rfl⟩ (Nat.le_of_ble_eq_true rfl) rfl (Nat.le_of_ble_eq_true rfl) rfl (Nat.le_of_ble_eq_true rfl) rfl ?_
  refine me_topR (congrArg some eu396) ?_
  have k397 : mm_kd g395 u396 = 14 := by rw [eu396]; exact mm_kN eg395
  obtain ⟨k398, hf⟩ := mm_ck_some hf
  obtain ⟨g399, eg399, hf⟩ := mm_lt_some hf
  refine me_putR (q := 686) C eg399 dX12_init_683 mf_X12_260 mp_X12_13_113 (Or.inr ⟨_, rfl⟩) rfl (by decide) rfl k398 rfl ?_
  refine me_aload_n (q := 687) C dX12_init_686 rfl rfl rfl ?_
  refine me_sipush (v := (11264 : Int32)) (q := 690) C dX12_init_687 (by decide) rfl ?_
  obtain ⟨g400, eg400, hf⟩ := mm_lt_some hf
  obtain ⟨u401, eu401, hf⟩ := mm_lt_some hf
  refine me_newaJ (q := 692) (B := 11264) (c2 := 80) (s2 := 48867) C eg400 dX12_init_690 ma_long ⟨by decide, Nat.le_of_ble_eq_true rfl⟩ (Nat.le_of_ble_eq_true rfl) rfl (Nat.le_of_ble_eq_true rfl) rfl (Nat.le_of_ble_eq_true rfl) rfl ?_
  refine me_topR (congrArg some eu401) ?_
  have k402 : mm_kd g400 u401 = 15 := by rw [eu401]; exact mm_kN eg400
  obtain ⟨k403, hf⟩ := mm_ck_some hf
  obtain ⟨g404, eg404, hf⟩ := mm_lt_some hf
  refine me_putR (q := 695) C eg404 dX12_init_692 mf_X12_263 mp_X12_13_116 (Or.inr ⟨_, rfl⟩) rfl (by decide) rfl k403 rfl ?_
  exact me_vret C hE (Nat.le_of_ble_eq_true rfl) (Nat.le_of_ble_eq_true rfl) rfl dX12_init_695 (mm_ru hf)
set_option maxRecDepth 100000 in
set_option maxHeartbeats 4000000 in
theorem cX12_in_ok (l : Launch) {a0 : Int32} {a1 : Int32} {a2 : Int32} {h : mm_H} {r : Int32} {h1 : mm_H} (hf : fX12_in a0 a1 a2 h = some (r, h1)) : mm_M l yX12_in cX12_in 3 (some .boolean) 2 0 0 [vI a0, vI a1, vI a2] h (some (vI r)) h1 := by
  refine mm_enter (lv := [some (vI a0), some (vI a1), some (vI a2)]) (by decide) rfl (Nat.le_of_ble_eq_true rfl) ?_
  intro X hl C hE
  subst hl
  unfold fX12_in at hf
  refine me_iload_n (q := 1) C dX12_in_0 rfl rfl rfl ?_
  refine me_iload_n (q := 2) C dX12_in_1 rfl rfl rfl ?_
  refine me_icmp_lt (q2 := 14) (q := 5) C dX12_in_2 (by decide) rfl (fun c1 => ?_) (fun c1 => ?_)
  · have hf := mm_if_t c1 hf
    refine me_iconst (v := (0 : Int32)) (q := 15) C dX12_in_14 (by decide) rfl ?_
    exact me_zret C hE (Nat.le_of_ble_eq_true rfl) (Nat.le_of_ble_eq_true rfl) rfl (Or.inl rfl) dX12_in_15 (mm_ri hf)
  · have hf := mm_if_f c1 hf
    refine me_iload_n (q := 6) C dX12_in_5 rfl rfl rfl ?_
    refine me_iload_n (q := 7) C dX12_in_6 rfl rfl rfl ?_
    refine me_icmp_gt (q2 := 14) (q := 10) C dX12_in_7 (by decide) rfl (fun c2 => ?_) (fun c2 => ?_)
    · have hf := mm_if_t c2 hf
      refine me_iconst (v := (0 : Int32)) (q := 15) C dX12_in_14 (by decide) rfl ?_
      exact me_zret C hE (Nat.le_of_ble_eq_true rfl) (Nat.le_of_ble_eq_true rfl) rfl (Or.inl rfl) dX12_in_15 (mm_ri hf)
    · have hf := mm_if_f c2 hf
      refine me_iconst (v := (1 : Int32)) (q := 11) C dX12_in_10 (by decide) rfl ?_
      refine me_goto (q := 15) C dX12_in_11 (by decide) ?_
      exact me_zret C hE (Nat.le_of_ble_eq_true rfl) (Nat.le_of_ble_eq_true rfl) rfl (Or.inr rfl) dX12_in_15 (mm_ri hf)
set_option maxRecDepth 100000 in
set_option maxHeartbeats 4000000 in
theorem cX12_isDay_ok (l : Launch) {a0 : Int32} {h : mm_H} {r : Int32} {h1 : mm_H} (hf : fX12_isDay a0 h = some (r, h1)) : mm_M l yX12_isDay cX12_isDay 1 (some .boolean) 4 0 0 [vI a0] h (some (vI r)) h1 := by
  refine mm_enter (lv := [some (vI a0)]) (by decide) rfl (Nat.le_of_ble_eq_true rfl) ?_
  intro X hl C hE
  subst hl
  unfold fX12_isDay at hf
  refine me_iload_n (q := 1) C dX12_isDay_0 rfl rfl rfl ?_
  refine me_iconst (v := (0 : Int32)) (q := 2) C dX12_isDay_1 (by decide) rfl ?_
  refine me_sipush (v := (3999 : Int32)) (q := 5) C dX12_isDay_2 (by decide) rfl ?_
  obtain ⟨v1, g2, e3, hf⟩ := mm_cl_some hf
  refine me_callS (q := 8) (c2 := 0) (s2 := 0) (st := []) C (cX12_in_ok _ e3) mt_X12_269 ms_X12_in dX12_isDay_5 rfl rfl rfl (Nat.le_of_ble_eq_true rfl) rfl (Nat.le_of_ble_eq_true rfl) rfl (Nat.le_of_ble_eq_true rfl) rfl rfl ?_
  obtain ⟨k4, hf⟩ := mm_ck_some hf
  exact me_zret C hE (Nat.le_of_ble_eq_true rfl) (Nat.le_of_ble_eq_true rfl) rfl k4 dX12_isDay_8 (mm_ri hf)
set_option maxRecDepth 100000 in
set_option maxHeartbeats 4000000 in
theorem cX12_clock_ok (l : Launch) {a0 : Nat} {a1 : Int32} {h : mm_H} {r : Int32} {h1 : mm_H} (hf : fX12_clock a0 a1 h = some (r, h1)) : mm_M l yX12_clock cX12_clock 2 (some .boolean) 4 0 0 [vR (some a0), vI a1] h (some (vI r)) h1 := by
  refine mm_enter (lv := [some (vR (some a0)), some (vI a1)]) (by decide) rfl (Nat.le_of_ble_eq_true rfl) ?_
  intro X hl C hE
  subst hl
  unfold fX12_clock at hf
  refine me_iload_n (q := 1) C dX12_clock_0 rfl rfl rfl ?_
  refine me_aload_n (q := 2) C dX12_clock_1 rfl rfl rfl ?_
  obtain ⟨k1, hf⟩ := mm_ck_some hf
  refine me_getI (q := 5) C dX12_clock_2 mf_X12_273 rfl rfl k1 rfl ?_
  refine me_sipush (v := (3999 : Int32)) (q := 8) C dX12_clock_5 (by decide) rfl ?_
  obtain ⟨v2, g3, e4, hf⟩ := mm_cl_some hf
  refine me_callS (q := 11) (c2 := 0) (s2 := 0) (st := []) C (cX12_in_ok _ e4) mt_X12_269 ms_X12_in dX12_clock_8 rfl rfl rfl (Nat.le_of_ble_eq_true rfl) rfl (Nat.le_of_ble_eq_true rfl) rfl (Nat.le_of_ble_eq_true rfl) rfl rfl ?_
  refine me_if_ne (q2 := 16) (q := 14) C dX12_clock_11 (by decide) rfl (fun c5 => ?_) (fun c5 => ?_)
  · have hf := mm_if_t c5 hf
    refine me_aload_n (q := 17) C dX12_clock_16 rfl rfl rfl ?_
    refine me_iload_n (q := 18) C dX12_clock_17 rfl rfl rfl ?_
    obtain ⟨k6, hf⟩ := mm_ck_some hf
    obtain ⟨g7, eg7, hf⟩ := mm_lt_some hf
    refine me_putI (q := 21) C eg7 dX12_clock_18 mf_X12_273 mp_X12_13_1 rfl (by decide) rfl k6 rfl ?_
    refine me_iconst (v := (1 : Int32)) (q := 22) C dX12_clock_21 (by decide) rfl ?_
    exact me_zret C hE (Nat.le_of_ble_eq_true rfl) (Nat.le_of_ble_eq_true rfl) rfl (Or.inr rfl) dX12_clock_22 (mm_ri hf)
  · have hf := mm_if_f c5 hf
    refine me_iconst (v := (0 : Int32)) (q := 15) C dX12_clock_14 (by decide) rfl ?_
    exact me_zret C hE (Nat.le_of_ble_eq_true rfl) (Nat.le_of_ble_eq_true rfl) rfl (Or.inl rfl) dX12_clock_15 (mm_ri hf)
set_option maxRecDepth 100000 in
set_option maxHeartbeats 4000000 in
theorem cX12_man_ok (l : Launch) {a0 : Nat} {a1 : Int32} {a2 : Int32} {a3 : Int32} {h : mm_H} {r : Int32} {h1 : mm_H} (hf : fX12_man a0 a1 a2 a3 h = some (r, h1)) : mm_M l yX12_man cX12_man 4 (some .int) 4 0 0 [vR (some a0), vI a1, vI a2, vI a3] h (some (vI r)) h1 := by
  refine mm_enter (lv := [some (vR (some a0)), some (vI a1), some (vI a2), some (vI a3)]) (by decide) rfl (Nat.le_of_ble_eq_true rfl) ?_
  intro X hl C hE
  subst hl
  unfold fX12_man at hf
  refine me_aload_n (q := 1) C dX12_man_0 rfl rfl rfl ?_
  obtain ⟨k1, hf⟩ := mm_ck_some hf
  refine me_getI (q := 4) C dX12_man_1 mf_X12_276 rfl rfl k1 rfl ?_
  refine me_bipush (v := (40 : Int32)) (q := 6) C dX12_man_4 (by decide) rfl ?_
  refine me_icmp_eq (q2 := 30) (q := 9) C dX12_man_6 (by decide) rfl (fun c2 => ?_) (fun c2 => ?_)
  · have hf := mm_if_t c2 hf
    refine me_iconst (v := (-1 : Int32)) (q := 31) C dX12_man_30 (by decide) rfl ?_
    exact me_iret C hE (Nat.le_of_ble_eq_true rfl) (Nat.le_of_ble_eq_true rfl) rfl dX12_man_31 (mm_ri hf)
  · have hf := mm_if_f c2 hf
    refine me_iload_n (q := 10) C dX12_man_9 rfl rfl rfl ?_
    refine me_iconst (v := (0 : Int32)) (q := 11) C dX12_man_10 (by decide) rfl ?_
    refine me_bipush (v := (8 : Int32)) (q := 13) C dX12_man_11 (by decide) rfl ?_
    obtain ⟨v3, g4, e5, hf⟩ := mm_cl_some hf
    refine me_callS (q := 16) (c2 := 0) (s2 := 0) (st := []) C (cX12_in_ok _ e5) mt_X12_269 ms_X12_in dX12_man_13 rfl rfl rfl (Nat.le_of_ble_eq_true rfl) rfl (Nat.le_of_ble_eq_true rfl) rfl (Nat.le_of_ble_eq_true rfl) rfl rfl ?_
    refine me_if_eq (q2 := 30) (q := 19) C dX12_man_16 (by decide) rfl (fun c6 => ?_) (fun c6 => ?_)
    · have hf := mm_if_t c6 hf
      refine me_iconst (v := (-1 : Int32)) (q := 31) C dX12_man_30 (by decide) rfl ?_
      exact me_iret C hE (Nat.le_of_ble_eq_true rfl) (Nat.le_of_ble_eq_true rfl) rfl dX12_man_31 (mm_ri hf)
    · have hf := mm_if_f c6 hf
      refine me_iload_n (q := 20) C dX12_man_19 rfl rfl rfl ?_
      refine me_iconst (v := (0 : Int32)) (q := 21) C dX12_man_20 (by decide) rfl ?_
      refine me_ldc_w (v := (1000000 : Int32)) (q := 24) C dX12_man_21 mc_X12_279 rfl ?_
      obtain ⟨v7, g8, e9, hf⟩ := mm_cl_some hf
      refine me_callS (q := 27) (c2 := 0) (s2 := 0) (st := []) C (cX12_in_ok _ e9) mt_X12_269 ms_X12_in dX12_man_24 rfl rfl rfl (Nat.le_of_ble_eq_true rfl) rfl (Nat.le_of_ble_eq_true rfl) rfl (Nat.le_of_ble_eq_true rfl) rfl rfl ?_
      refine me_if_ne (q2 := 32) (q := 30) C dX12_man_27 (by decide) rfl (fun c10 => ?_) (fun c10 => ?_)
      · have hf := mm_if_t c10 hf
        refine me_aload_n (q := 33) C dX12_man_32 rfl rfl rfl ?_
        obtain ⟨k11, hf⟩ := mm_ck_some hf
        refine me_getR (q := 36) C dX12_man_33 mf_X12_9 rfl rfl k11 rfl ?_
        refine me_aload_n (q := 37) C dX12_man_36 rfl rfl rfl ?_
        refine me_getI (q := 40) C dX12_man_37 mf_X12_276 rfl rfl k11 rfl ?_
        refine me_iload_n (q := 41) C dX12_man_40 rfl rfl rfl ?_
        obtain ⟨u12, eu12, hf⟩ := mm_rf_some hf
        obtain ⟨k13, hf⟩ := mm_ck_some hf
        obtain ⟨k14, hf⟩ := mm_ck_some hf
        obtain ⟨g15, eg15, hf⟩ := mm_lt_some hf
        refine me_iastH (q := 42) C eg15 dX12_man_41 eu12 k13 k14 rfl ?_
        refine me_aload_n (q := 43) C dX12_man_42 rfl rfl rfl ?_
        refine me_getR (q := 46) C dX12_man_43 mf_X12_28 rfl rfl (mm_kI eg15 k11) rfl ?_
        refine me_aload_n (q := 47) C dX12_man_46 rfl rfl rfl ?_
        refine me_getI (q := 50) C dX12_man_47 mf_X12_276 rfl rfl (mm_kI eg15 k11) rfl ?_
        refine me_iload_n (q := 51) C dX12_man_50 rfl rfl rfl ?_
        obtain ⟨u16, eu16, hf⟩ := mm_rf_some hf
        obtain ⟨k17, hf⟩ := mm_ck_some hf
        obtain ⟨k18, hf⟩ := mm_ck_some hf
        obtain ⟨g19, eg19, hf⟩ := mm_lt_some hf
        refine me_zastH (q := 52) C eg19 dX12_man_51 eu16 k17 k18 rfl ?_
        refine me_aload_n (q := 53) C dX12_man_52 rfl rfl rfl ?_
        refine me_getR (q := 56) C dX12_man_53 mf_X12_13 rfl rfl (mm_kI eg19 (mm_kI eg15 k11)) rfl ?_
        refine me_aload_n (q := 57) C dX12_man_56 rfl rfl rfl ?_
        refine me_getI (q := 60) C dX12_man_57 mf_X12_276 rfl rfl (mm_kI eg19 (mm_kI eg15 k11)) rfl ?_
        refine me_iload_n (q := 61) C dX12_man_60 rfl rfl rfl ?_
        obtain ⟨u20, eu20, hf⟩ := mm_rf_some hf
        obtain ⟨k21, hf⟩ := mm_ck_some hf
        obtain ⟨k22, hf⟩ := mm_ck_some hf
        obtain ⟨g23, eg23, hf⟩ := mm_lt_some hf
        refine me_iastH (q := 62) C eg23 dX12_man_61 eu20 k21 k22 rfl ?_
        refine me_aload_n (q := 63) C dX12_man_62 rfl rfl rfl ?_
        refine me_getR (q := 66) C dX12_man_63 mf_X12_16 rfl rfl (mm_kI eg23 (mm_kI eg19 (mm_kI eg15 k11))) rfl ?_
        refine me_aload_n (q := 67) C dX12_man_66 rfl rfl rfl ?_
        refine me_getI (q := 70) C dX12_man_67 mf_X12_276 rfl rfl (mm_kI eg23 (mm_kI eg19 (mm_kI eg15 k11))) rfl ?_
        refine me_aload_n (q := 71) C dX12_man_70 rfl rfl rfl ?_
        refine me_getI (q := 74) C dX12_man_71 mf_X12_273 rfl rfl (mm_kI eg23 (mm_kI eg19 (mm_kI eg15 k11))) rfl ?_
        obtain ⟨u24, eu24, hf⟩ := mm_rf_some hf
        obtain ⟨k25, hf⟩ := mm_ck_some hf
        obtain ⟨k26, hf⟩ := mm_ck_some hf
        obtain ⟨g27, eg27, hf⟩ := mm_lt_some hf
        refine me_iastH (q := 75) C eg27 dX12_man_74 eu24 k25 k26 rfl ?_
        refine me_aload_n (q := 76) C dX12_man_75 rfl rfl rfl ?_
        refine me_getR (q := 79) C dX12_man_76 mf_X12_19 rfl rfl (mm_kI eg27 (mm_kI eg23 (mm_kI eg19 (mm_kI eg15 k11)))) rfl ?_
        refine me_aload_n (q := 80) C dX12_man_79 rfl rfl rfl ?_
        refine me_getI (q := 83) C dX12_man_80 mf_X12_276 rfl rfl (mm_kI eg27 (mm_kI eg23 (mm_kI eg19 (mm_kI eg15 k11)))) rfl ?_
        refine me_ldc_w (v := (100000 : Int32)) (q := 86) C dX12_man_83 mc_X12_280 rfl ?_
        obtain ⟨u28, eu28, hf⟩ := mm_rf_some hf
        obtain ⟨k29, hf⟩ := mm_ck_some hf
        obtain ⟨k30, hf⟩ := mm_ck_some hf
        obtain ⟨g31, eg31, hf⟩ := mm_lt_some hf
        refine me_iastH (q := 87) C eg31 dX12_man_86 eu28 k29 k30 rfl ?_
        refine me_aload_n (q := 88) C dX12_man_87 rfl rfl rfl ?_
        refine me_dup (q := 89) C dX12_man_88 rfl rfl ?_
        refine me_getI (q := 92) C dX12_man_89 mf_X12_276 rfl rfl (mm_kI eg31 (mm_kI eg27 (mm_kI eg23 (mm_kI eg19 (mm_kI eg15 k11))))) rfl ?_
        refine me_iconst (v := (1 : Int32)) (q := 93) C dX12_man_92 (by decide) rfl ?_
        refine me_iadd (q := 94) C dX12_man_93 rfl ?_
        obtain ⟨g32, eg32, hf⟩ := mm_lt_some hf
        refine me_putI (q := 97) C eg32 dX12_man_94 mf_X12_276 mp_X12_13_2 rfl (by decide) rfl (mm_kI eg31 (mm_kI eg27 (mm_kI eg23 (mm_kI eg19 (mm_kI eg15 k11))))) rfl ?_
        refine me_aload_n (q := 98) C dX12_man_97 rfl rfl rfl ?_
        refine me_getI (q := 101) C dX12_man_98 mf_X12_276 rfl rfl (mm_kI eg32 (mm_kI eg31 (mm_kI eg27 (mm_kI eg23 (mm_kI eg19 (mm_kI eg15 k11)))))) rfl ?_
        refine me_iconst (v := (1 : Int32)) (q := 102) C dX12_man_101 (by decide) rfl ?_
        refine me_isub (q := 103) C dX12_man_102 rfl ?_
        exact me_iret C hE (Nat.le_of_ble_eq_true rfl) (Nat.le_of_ble_eq_true rfl) rfl dX12_man_103 (mm_ri hf)
      · have hf := mm_if_f c10 hf
        refine me_iconst (v := (-1 : Int32)) (q := 31) C dX12_man_30 (by decide) rfl ?_
        exact me_iret C hE (Nat.le_of_ble_eq_true rfl) (Nat.le_of_ble_eq_true rfl) rfl dX12_man_31 (mm_ri hf)
