set_option maxRecDepth 100000 in
set_option maxHeartbeats 4000000 in
theorem cX10_init_ok (l : Launch) {a0 : Nat} {h : mm_H} {r : Unit} {h1 : mm_H} (hf : fX10_init a0 h = some (r, h1)) : mm_M l yX10_init cX10_init 1 none 2 13 1160 [vR (some a0)] h none h1 := by
  refine mm_enter (lv := [some (vR (some a0))]) (by decide) rfl (Nat.le_of_ble_eq_true rfl) ?_
  intro X hl C hE
  subst hl
  unfold fX10_init at hf
  refine me_aload_n (q := 1) C dX10_init_0 rfl rfl rfl ?_
  refine me_objInit (q := 4) C dX10_init_1 mo_X10_3 rfl rfl (Nat.le_of_ble_eq_true rfl) rfl ?_
  refine me_aload_n (q := 5) C dX10_init_4 rfl rfl rfl ?_
  refine me_bipush (v := (20 : Int32)) (q := 7) C dX10_init_5 (by decide) rfl ?_
  obtain ⟨g1, eg1, hf⟩ := mm_lt_some hf
  obtain ⟨u2, eu2, hf⟩ := mm_lt_some hf
  refine me_newaI (q := 9) (B := 20) (c2 := 1) (s2 := 20) C eg1 dX10_init_7 ma_int ⟨by decide, Nat.le_of_ble_eq_true rfl⟩ (Nat.le_of_ble_eq_true rfl) rfl (Nat.le_of_ble_eq_true rfl) rfl (Nat.le_of_ble_eq_true rfl) rfl ?_
  refine me_topR (congrArg some eu2) ?_
  have k3 : mm_kd g1 u2 = 14 := by rw [eu2]; exact mm_kN eg1
  obtain ⟨k4, hf⟩ := mm_ck_some hf
  obtain ⟨g5, eg5, hf⟩ := mm_lt_some hf
  refine me_putR (q := 12) C eg5 dX10_init_9 mf_X10_11 mp_X10_11_0 (Or.inr ⟨_, rfl⟩) rfl (by decide) rfl k4 rfl ?_
  refine me_aload_n (q := 13) C dX10_init_12 rfl rfl rfl ?_
  refine me_bipush (v := (20 : Int32)) (q := 15) C dX10_init_13 (by decide) rfl ?_
  obtain ⟨g6, eg6, hf⟩ := mm_lt_some hf
  obtain ⟨u7, eu7, hf⟩ := mm_lt_some hf
  refine me_newaI (q := 17) (B := 20) (c2 := 2) (s2 := 40) C eg6 dX10_init_15 ma_int ⟨by decide, Nat.le_of_ble_eq_true rfl⟩ (Nat.le_of_ble_eq_true rfl) rfl (Nat.le_of_ble_eq_true rfl) rfl (Nat.le_of_ble_eq_true rfl) rfl ?_
  refine me_topR (congrArg some eu7) ?_
  have k8 : mm_kd g6 u7 = 14 := by rw [eu7]; exact mm_kN eg6
  obtain ⟨k9, hf⟩ := mm_ck_some hf
  obtain ⟨g10, eg10, hf⟩ := mm_lt_some hf
  refine me_putR (q := 20) C eg10 dX10_init_17 mf_X10_15 mp_X10_11_1 (Or.inr ⟨_, rfl⟩) rfl (by decide) rfl k9 rfl ?_
  refine me_aload_n (q := 21) C dX10_init_20 rfl rfl rfl ?_
  refine me_bipush (v := (20 : Int32)) (q := 23) C dX10_init_21 (by decide) rfl ?_
  obtain ⟨g11, eg11, hf⟩ := mm_lt_some hf
  obtain ⟨u12, eu12, hf⟩ := mm_lt_some hf
  refine me_newaI (q := 25) (B := 20) (c2 := 3) (s2 := 60) C eg11 dX10_init_23 ma_int ⟨by decide, Nat.le_of_ble_eq_true rfl⟩ (Nat.le_of_ble_eq_true rfl) rfl (Nat.le_of_ble_eq_true rfl) rfl (Nat.le_of_ble_eq_true rfl) rfl ?_
  refine me_topR (congrArg some eu12) ?_
  have k13 : mm_kd g11 u12 = 14 := by rw [eu12]; exact mm_kN eg11
  obtain ⟨k14, hf⟩ := mm_ck_some hf
  obtain ⟨g15, eg15, hf⟩ := mm_lt_some hf
  refine me_putR (q := 28) C eg15 dX10_init_25 mf_X10_18 mp_X10_11_2 (Or.inr ⟨_, rfl⟩) rfl (by decide) rfl k14 rfl ?_
  refine me_aload_n (q := 29) C dX10_init_28 rfl rfl rfl ?_
  refine me_bipush (v := (20 : Int32)) (q := 31) C dX10_init_29 (by decide) rfl ?_
  obtain ⟨g16, eg16, hf⟩ := mm_lt_some hf
  obtain ⟨u17, eu17, hf⟩ := mm_lt_some hf
  refine me_newaI (q := 33) (B := 20) (c2 := 4) (s2 := 80) C eg16 dX10_init_31 ma_int ⟨by decide, Nat.le_of_ble_eq_true rfl⟩ (Nat.le_of_ble_eq_true rfl) rfl (Nat.le_of_ble_eq_true rfl) rfl (Nat.le_of_ble_eq_true rfl) rfl ?_
  refine me_topR (congrArg some eu17) ?_
  have k18 : mm_kd g16 u17 = 14 := by rw [eu17]; exact mm_kN eg16
  obtain ⟨k19, hf⟩ := mm_ck_some hf
  obtain ⟨g20, eg20, hf⟩ := mm_lt_some hf
  refine me_putR (q := 36) C eg20 dX10_init_33 mf_X10_21 mp_X10_11_3 (Or.inr ⟨_, rfl⟩) rfl (by decide) rfl k19 rfl ?_
  refine me_aload_n (q := 37) C dX10_init_36 rfl rfl rfl ?_
  refine me_sipush (v := (200 : Int32)) (q := 40) C dX10_init_37 (by decide) rfl ?_
  obtain ⟨g21, eg21, hf⟩ := mm_lt_some hf
  obtain ⟨u22, eu22, hf⟩ := mm_lt_some hf
  refine me_newaI (q := 42) (B := 200) (c2 := 5) (s2 := 280) C eg21 dX10_init_40 ma_int ⟨by decide, Nat.le_of_ble_eq_true rfl⟩ (Nat.le_of_ble_eq_true rfl) rfl (Nat.le_of_ble_eq_true rfl) rfl (Nat.le_of_ble_eq_true rfl) rfl ?_
  refine me_topR (congrArg some eu22) ?_
  have k23 : mm_kd g21 u22 = 14 := by rw [eu22]; exact mm_kN eg21
  obtain ⟨k24, hf⟩ := mm_ck_some hf
  obtain ⟨g25, eg25, hf⟩ := mm_lt_some hf
  refine me_putR (q := 45) C eg25 dX10_init_42 mf_X10_24 mp_X10_11_5 (Or.inr ⟨_, rfl⟩) rfl (by decide) rfl k24 rfl ?_
  refine me_aload_n (q := 46) C dX10_init_45 rfl rfl rfl ?_
  refine me_sipush (v := (200 : Int32)) (q := 49) C dX10_init_46 (by decide) rfl ?_
  obtain ⟨g26, eg26, hf⟩ := mm_lt_some hf
  obtain ⟨u27, eu27, hf⟩ := mm_lt_some hf
  refine me_newaI (q := 51) (B := 200) (c2 := 6) (s2 := 480) C eg26 dX10_init_49 ma_int ⟨by decide, Nat.le_of_ble_eq_true rfl⟩ (Nat.le_of_ble_eq_true rfl) rfl (Nat.le_of_ble_eq_true rfl) rfl (Nat.le_of_ble_eq_true rfl) rfl ?_
  refine me_topR (congrArg some eu27) ?_
  have k28 : mm_kd g26 u27 = 14 := by rw [eu27]; exact mm_kN eg26
  obtain ⟨k29, hf⟩ := mm_ck_some hf
  obtain ⟨g30, eg30, hf⟩ := mm_lt_some hf
  refine me_putR (q := 54) C eg30 dX10_init_51 mf_X10_27 mp_X10_11_6 (Or.inr ⟨_, rfl⟩) rfl (by decide) rfl k29 rfl ?_
  refine me_aload_n (q := 55) C dX10_init_54 rfl rfl rfl ?_
  refine me_sipush (v := (200 : Int32)) (q := 58) C dX10_init_55 (by decide) rfl ?_
  obtain ⟨g31, eg31, hf⟩ := mm_lt_some hf
  obtain ⟨u32, eu32, hf⟩ := mm_lt_some hf
  refine me_newaI (q := 60) (B := 200) (c2 := 7) (s2 := 680) C eg31 dX10_init_58 ma_int ⟨by decide, Nat.le_of_ble_eq_true rfl⟩ (Nat.le_of_ble_eq_true rfl) rfl (Nat.le_of_ble_eq_true rfl) rfl (Nat.le_of_ble_eq_true rfl) rfl ?_
  refine me_topR (congrArg some eu32) ?_
  have k33 : mm_kd g31 u32 = 14 := by rw [eu32]; exact mm_kN eg31
  obtain ⟨k34, hf⟩ := mm_ck_some hf
  obtain ⟨g35, eg35, hf⟩ := mm_lt_some hf
  refine me_putR (q := 63) C eg35 dX10_init_60 mf_X10_30 mp_X10_11_7 (Or.inr ⟨_, rfl⟩) rfl (by decide) rfl k34 rfl ?_
  refine me_aload_n (q := 64) C dX10_init_63 rfl rfl rfl ?_
  refine me_sipush (v := (200 : Int32)) (q := 67) C dX10_init_64 (by decide) rfl ?_
  obtain ⟨g36, eg36, hf⟩ := mm_lt_some hf
  obtain ⟨u37, eu37, hf⟩ := mm_lt_some hf
  refine me_newaI (q := 69) (B := 200) (c2 := 8) (s2 := 880) C eg36 dX10_init_67 ma_int ⟨by decide, Nat.le_of_ble_eq_true rfl⟩ (Nat.le_of_ble_eq_true rfl) rfl (Nat.le_of_ble_eq_true rfl) rfl (Nat.le_of_ble_eq_true rfl) rfl ?_
  refine me_topR (congrArg some eu37) ?_
  have k38 : mm_kd g36 u37 = 14 := by rw [eu37]; exact mm_kN eg36
  obtain ⟨k39, hf⟩ := mm_ck_some hf
  obtain ⟨g40, eg40, hf⟩ := mm_lt_some hf
  refine me_putR (q := 72) C eg40 dX10_init_69 mf_X10_33 mp_X10_11_8 (Or.inr ⟨_, rfl⟩) rfl (by decide) rfl k39 rfl ?_
  refine me_aload_n (q := 73) C dX10_init_72 rfl rfl rfl ?_
  refine me_sipush (v := (200 : Int32)) (q := 76) C dX10_init_73 (by decide) rfl ?_
  obtain ⟨g41, eg41, hf⟩ := mm_lt_some hf
  obtain ⟨u42, eu42, hf⟩ := mm_lt_some hf
  refine me_newaI (q := 78) (B := 200) (c2 := 9) (s2 := 1080) C eg41 dX10_init_76 ma_int ⟨by decide, Nat.le_of_ble_eq_true rfl⟩ (Nat.le_of_ble_eq_true rfl) rfl (Nat.le_of_ble_eq_true rfl) rfl (Nat.le_of_ble_eq_true rfl) rfl ?_
  refine me_topR (congrArg some eu42) ?_
  have k43 : mm_kd g41 u42 = 14 := by rw [eu42]; exact mm_kN eg41
  obtain ⟨k44, hf⟩ := mm_ck_some hf
  obtain ⟨g45, eg45, hf⟩ := mm_lt_some hf
  refine me_putR (q := 81) C eg45 dX10_init_78 mf_X10_36 mp_X10_11_9 (Or.inr ⟨_, rfl⟩) rfl (by decide) rfl k44 rfl ?_
  refine me_aload_n (q := 82) C dX10_init_81 rfl rfl rfl ?_
  refine me_bipush (v := (20 : Int32)) (q := 84) C dX10_init_82 (by decide) rfl ?_
  obtain ⟨g46, eg46, hf⟩ := mm_lt_some hf
  obtain ⟨u47, eu47, hf⟩ := mm_lt_some hf
  refine me_newaI (q := 86) (B := 20) (c2 := 10) (s2 := 1100) C eg46 dX10_init_84 ma_int ⟨by decide, Nat.le_of_ble_eq_true rfl⟩ (Nat.le_of_ble_eq_true rfl) rfl (Nat.le_of_ble_eq_true rfl) rfl (Nat.le_of_ble_eq_true rfl) rfl ?_
  refine me_topR (congrArg some eu47) ?_
  have k48 : mm_kd g46 u47 = 14 := by rw [eu47]; exact mm_kN eg46
  obtain ⟨k49, hf⟩ := mm_ck_some hf
  obtain ⟨g50, eg50, hf⟩ := mm_lt_some hf
  refine me_putR (q := 89) C eg50 dX10_init_86 mf_X10_39 mp_X10_11_11 (Or.inr ⟨_, rfl⟩) rfl (by decide) rfl k49 rfl ?_
  refine me_aload_n (q := 90) C dX10_init_89 rfl rfl rfl ?_
  refine me_bipush (v := (20 : Int32)) (q := 92) C dX10_init_90 (by decide) rfl ?_
  obtain ⟨g51, eg51, hf⟩ := mm_lt_some hf
  obtain ⟨u52, eu52, hf⟩ := mm_lt_some hf
  refine me_newaI (q := 94) (B := 20) (c2 := 11) (s2 := 1120) C eg51 dX10_init_92 ma_int ⟨by decide, Nat.le_of_ble_eq_true rfl⟩ (Nat.le_of_ble_eq_true rfl) rfl (Nat.le_of_ble_eq_true rfl) rfl (Nat.le_of_ble_eq_true rfl) rfl ?_
  refine me_topR (congrArg some eu52) ?_
  have k53 : mm_kd g51 u52 = 14 := by rw [eu52]; exact mm_kN eg51
  obtain ⟨k54, hf⟩ := mm_ck_some hf
  obtain ⟨g55, eg55, hf⟩ := mm_lt_some hf
  refine me_putR (q := 97) C eg55 dX10_init_94 mf_X10_42 mp_X10_11_12 (Or.inr ⟨_, rfl⟩) rfl (by decide) rfl k54 rfl ?_
  refine me_aload_n (q := 98) C dX10_init_97 rfl rfl rfl ?_
  refine me_bipush (v := (20 : Int32)) (q := 100) C dX10_init_98 (by decide) rfl ?_
  obtain ⟨g56, eg56, hf⟩ := mm_lt_some hf
  obtain ⟨u57, eu57, hf⟩ := mm_lt_some hf
  refine me_newaI (q := 102) (B := 20) (c2 := 12) (s2 := 1140) C eg56 dX10_init_100 ma_int ⟨by decide, Nat.le_of_ble_eq_true rfl⟩ (Nat.le_of_ble_eq_true rfl) rfl (Nat.le_of_ble_eq_true rfl) rfl (Nat.le_of_ble_eq_true rfl) rfl ?_
  refine me_topR (congrArg some eu57) ?_
  have k58 : mm_kd g56 u57 = 14 := by rw [eu57]; exact mm_kN eg56
  obtain ⟨k59, hf⟩ := mm_ck_some hf
  obtain ⟨g60, eg60, hf⟩ := mm_lt_some hf
  refine me_putR (q := 105) C eg60 dX10_init_102 mf_X10_45 mp_X10_11_13 (Or.inr ⟨_, rfl⟩) rfl (by decide) rfl k59 rfl ?_
  refine me_aload_n (q := 106) C dX10_init_105 rfl rfl rfl ?_
  refine me_bipush (v := (20 : Int32)) (q := 108) C dX10_init_106 (by decide) rfl ?_
  obtain ⟨g61, eg61, hf⟩ := mm_lt_some hf
  obtain ⟨u62, eu62, hf⟩ := mm_lt_some hf
  refine me_newaI (q := 110) (B := 20) (c2 := 13) (s2 := 1160) C eg61 dX10_init_108 ma_int ⟨by decide, Nat.le_of_ble_eq_true rfl⟩ (Nat.le_of_ble_eq_true rfl) rfl (Nat.le_of_ble_eq_true rfl) rfl (Nat.le_of_ble_eq_true rfl) rfl ?_
  refine me_topR (congrArg some eu62) ?_
  have k63 : mm_kd g61 u62 = 14 := by rw [eu62]; exact mm_kN eg61
  obtain ⟨k64, hf⟩ := mm_ck_some hf
  obtain ⟨g65, eg65, hf⟩ := mm_lt_some hf
  refine me_putR (q := 113) C eg65 dX10_init_110 mf_X10_48 mp_X10_11_14 (Or.inr ⟨_, rfl⟩) rfl (by decide) rfl k64 rfl ?_
  exact me_vret C hE (Nat.le_of_ble_eq_true rfl) (Nat.le_of_ble_eq_true rfl) rfl dX10_init_113 (mm_ru hf)
set_option maxRecDepth 100000 in
set_option maxHeartbeats 4000000 in
theorem cX10_addShip_ok (l : Launch) {a0 : Nat} {a1 : Int32} {a2 : Int32} {a3 : Int32} {a4 : Int32} {h : mm_H} {r : Int32} {h1 : mm_H} (hf : fX10_addShip a0 a1 a2 a3 a4 h = some (r, h1)) : mm_M l yX10_addShip cX10_addShip 5 (some .int) 2 0 0 [vR (some a0), vI a1, vI a2, vI a3, vI a4] h (some (vI r)) h1 := by
  refine mm_enter (lv := [some (vR (some a0)), some (vI a1), some (vI a2), some (vI a3), some (vI a4)]) (by decide) rfl (Nat.le_of_ble_eq_true rfl) ?_
  intro X hl C hE
  subst hl
  unfold fX10_addShip at hf
  refine me_aload_n (q := 1) C dX10_addShip_0 rfl rfl rfl ?_
  obtain ⟨k1, hf⟩ := mm_ck_some hf
  refine me_getI (q := 4) C dX10_addShip_1 mf_X10_51 rfl rfl k1 rfl ?_
  refine me_bipush (v := (20 : Int32)) (q := 6) C dX10_addShip_4 (by decide) rfl ?_
  refine me_icmp_lt (q2 := 11) (q := 9) C dX10_addShip_6 (by decide) rfl (fun c2 => ?_) (fun c2 => ?_)
  · have hf := mm_if_t c2 hf
    refine me_aload_n (q := 12) C dX10_addShip_11 rfl rfl rfl ?_
    refine me_getR (q := 15) C dX10_addShip_12 mf_X10_11 rfl rfl k1 rfl ?_
    refine me_aload_n (q := 16) C dX10_addShip_15 rfl rfl rfl ?_
    refine me_getI (q := 19) C dX10_addShip_16 mf_X10_51 rfl rfl k1 rfl ?_
    refine me_iload_n (q := 20) C dX10_addShip_19 rfl rfl rfl ?_
    obtain ⟨u3, eu3, hf⟩ := mm_rf_some hf
    obtain ⟨k4, hf⟩ := mm_ck_some hf
    obtain ⟨k5, hf⟩ := mm_ck_some hf
    obtain ⟨g6, eg6, hf⟩ := mm_lt_some hf
    refine me_iastH (q := 21) C eg6 dX10_addShip_20 eu3 k4 k5 rfl ?_
    refine me_aload_n (q := 22) C dX10_addShip_21 rfl rfl rfl ?_
    refine me_getR (q := 25) C dX10_addShip_22 mf_X10_15 rfl rfl (mm_kI eg6 k1) rfl ?_
    refine me_aload_n (q := 26) C dX10_addShip_25 rfl rfl rfl ?_
    refine me_getI (q := 29) C dX10_addShip_26 mf_X10_51 rfl rfl (mm_kI eg6 k1) rfl ?_
    refine me_iload_n (q := 30) C dX10_addShip_29 rfl rfl rfl ?_
    obtain ⟨u7, eu7, hf⟩ := mm_rf_some hf
    obtain ⟨k8, hf⟩ := mm_ck_some hf
    obtain ⟨k9, hf⟩ := mm_ck_some hf
    obtain ⟨g10, eg10, hf⟩ := mm_lt_some hf
    refine me_iastH (q := 31) C eg10 dX10_addShip_30 eu7 k8 k9 rfl ?_
    refine me_aload_n (q := 32) C dX10_addShip_31 rfl rfl rfl ?_
    refine me_getR (q := 35) C dX10_addShip_32 mf_X10_18 rfl rfl (mm_kI eg10 (mm_kI eg6 k1)) rfl ?_
    refine me_aload_n (q := 36) C dX10_addShip_35 rfl rfl rfl ?_
    refine me_getI (q := 39) C dX10_addShip_36 mf_X10_51 rfl rfl (mm_kI eg10 (mm_kI eg6 k1)) rfl ?_
    refine me_iload_n (q := 40) C dX10_addShip_39 rfl rfl rfl ?_
    obtain ⟨u11, eu11, hf⟩ := mm_rf_some hf
    obtain ⟨k12, hf⟩ := mm_ck_some hf
    obtain ⟨k13, hf⟩ := mm_ck_some hf
    obtain ⟨g14, eg14, hf⟩ := mm_lt_some hf
    refine me_iastH (q := 41) C eg14 dX10_addShip_40 eu11 k12 k13 rfl ?_
    refine me_aload_n (q := 42) C dX10_addShip_41 rfl rfl rfl ?_
    refine me_getR (q := 45) C dX10_addShip_42 mf_X10_21 rfl rfl (mm_kI eg14 (mm_kI eg10 (mm_kI eg6 k1))) rfl ?_
    refine me_aload_n (q := 46) C dX10_addShip_45 rfl rfl rfl ?_
    refine me_getI (q := 49) C dX10_addShip_46 mf_X10_51 rfl rfl (mm_kI eg14 (mm_kI eg10 (mm_kI eg6 k1))) rfl ?_
    refine me_iload (q := 51) C dX10_addShip_49 rfl rfl ?_
    obtain ⟨u15, eu15, hf⟩ := mm_rf_some hf
    obtain ⟨k16, hf⟩ := mm_ck_some hf
    obtain ⟨k17, hf⟩ := mm_ck_some hf
    obtain ⟨g18, eg18, hf⟩ := mm_lt_some hf
    refine me_iastH (q := 52) C eg18 dX10_addShip_51 eu15 k16 k17 rfl ?_
    refine me_aload_n (q := 53) C dX10_addShip_52 rfl rfl rfl ?_
    refine me_dup (q := 54) C dX10_addShip_53 rfl rfl ?_
    refine me_getI (q := 57) C dX10_addShip_54 mf_X10_51 rfl rfl (mm_kI eg18 (mm_kI eg14 (mm_kI eg10 (mm_kI eg6 k1)))) rfl ?_
    refine me_iconst (v := (1 : Int32)) (q := 58) C dX10_addShip_57 (by decide) rfl ?_
    refine me_iadd (q := 59) C dX10_addShip_58 rfl ?_
    obtain ⟨g19, eg19, hf⟩ := mm_lt_some hf
    refine me_putI (q := 62) C eg19 dX10_addShip_59 mf_X10_51 mp_X10_11_4 rfl (by decide) rfl (mm_kI eg18 (mm_kI eg14 (mm_kI eg10 (mm_kI eg6 k1)))) rfl ?_
    refine me_aload_n (q := 63) C dX10_addShip_62 rfl rfl rfl ?_
    refine me_getI (q := 66) C dX10_addShip_63 mf_X10_51 rfl rfl (mm_kI eg19 (mm_kI eg18 (mm_kI eg14 (mm_kI eg10 (mm_kI eg6 k1))))) rfl ?_
    refine me_iconst (v := (1 : Int32)) (q := 67) C dX10_addShip_66 (by decide) rfl ?_
    refine me_isub (q := 68) C dX10_addShip_67 rfl ?_
    exact me_iret C hE (Nat.le_of_ble_eq_true rfl) (Nat.le_of_ble_eq_true rfl) rfl dX10_addShip_68 (mm_ri hf)
  · have hf := mm_if_f c2 hf
    refine me_iconst (v := (-1 : Int32)) (q := 10) C dX10_addShip_9 (by decide) rfl ?_
    exact me_iret C hE (Nat.le_of_ble_eq_true rfl) (Nat.le_of_ble_eq_true rfl) rfl dX10_addShip_10 (mm_ri hf)
set_option maxRecDepth 100000 in
set_option maxHeartbeats 4000000 in
theorem cX10_comingOf_ok (l : Launch) {a0 : Nat} {a1 : Int32} {h : mm_H} {r : Int32} {h1 : mm_H} (hf : fX10_comingOf a0 a1 h = some (r, h1)) : mm_M l yX10_comingOf cX10_comingOf 2 (some .int) 2 0 0 [vR (some a0), vI a1] h (some (vI r)) h1 := by
  refine mm_enter (lv := [some (vR (some a0)), some (vI a1)]) (by decide) rfl (Nat.le_of_ble_eq_true rfl) ?_
  intro X hl C hE
  subst hl
  unfold fX10_comingOf at hf
  refine me_iload_n (q := 1) C dX10_comingOf_0 rfl rfl rfl ?_
  refine me_if_lt (q2 := 12) (q := 4) C dX10_comingOf_1 (by decide) rfl (fun c1 => ?_) (fun c1 => ?_)
  · have hf := mm_if_t c1 hf
    refine me_iconst (v := (-1 : Int32)) (q := 13) C dX10_comingOf_12 (by decide) rfl ?_
    refine me_goto (q := 29) C dX10_comingOf_13 (by decide) ?_
    exact me_iret C hE (Nat.le_of_ble_eq_true rfl) (Nat.le_of_ble_eq_true rfl) rfl dX10_comingOf_29 (mm_ri hf)
  · have hf := mm_if_f c1 hf
    refine me_iload_n (q := 5) C dX10_comingOf_4 rfl rfl rfl ?_
    refine me_aload_n (q := 6) C dX10_comingOf_5 rfl rfl rfl ?_
    obtain ⟨k2, hf⟩ := mm_ck_some hf
    refine me_getI (q := 9) C dX10_comingOf_6 mf_X10_51 rfl rfl k2 rfl ?_
    refine me_icmp_lt (q2 := 16) (q := 12) C dX10_comingOf_9 (by decide) rfl (fun c3 => ?_) (fun c3 => ?_)
    · have hf := mm_if_t c3 hf
      refine me_aload_n (q := 17) C dX10_comingOf_16 rfl rfl rfl ?_
      refine me_getR (q := 20) C dX10_comingOf_17 mf_X10_15 rfl rfl k2 rfl ?_
      refine me_iload_n (q := 21) C dX10_comingOf_20 rfl rfl rfl ?_
      obtain ⟨u4, eu4, hf⟩ := mm_rf_some hf
      obtain ⟨k5, hf⟩ := mm_ck_some hf
      obtain ⟨k6, hf⟩ := mm_ck_some hf
      refine me_iald (q := 22) C dX10_comingOf_21 eu4 k5 k6 rfl ?_
      refine me_aload_n (q := 23) C dX10_comingOf_22 rfl rfl rfl ?_
      refine me_getR (q := 26) C dX10_comingOf_23 mf_X10_18 rfl rfl k2 rfl ?_
      refine me_iload_n (q := 27) C dX10_comingOf_26 rfl rfl rfl ?_
      obtain ⟨u7, eu7, hf⟩ := mm_rf_some hf
      obtain ⟨k8, hf⟩ := mm_ck_some hf
      obtain ⟨k9, hf⟩ := mm_ck_some hf
      refine me_iald (q := 28) C dX10_comingOf_27 eu7 k8 k9 rfl ?_
      refine me_iadd (q := 29) C dX10_comingOf_28 rfl ?_
      exact me_iret C hE (Nat.le_of_ble_eq_true rfl) (Nat.le_of_ble_eq_true rfl) rfl dX10_comingOf_29 (mm_ri hf)
    · have hf := mm_if_f c3 hf
      refine me_iconst (v := (-1 : Int32)) (q := 13) C dX10_comingOf_12 (by decide) rfl ?_
      refine me_goto (q := 29) C dX10_comingOf_13 (by decide) ?_
      exact me_iret C hE (Nat.le_of_ble_eq_true rfl) (Nat.le_of_ble_eq_true rfl) rfl dX10_comingOf_29 (mm_ri hf)
set_option maxRecDepth 100000 in
set_option maxHeartbeats 4000000 in
theorem cX10_covers_ok (l : Launch) {a0 : Nat} {a1 : Int32} {a2 : Int32} {a3 : Int32} {h : mm_H} {r : Int32} {h1 : mm_H} (hf : fX10_covers a0 a1 a2 a3 h = some (r, h1)) : mm_M l yX10_covers cX10_covers 4 (some .boolean) 2 0 0 [vR (some a0), vI a1, vI a2, vI a3] h (some (vI r)) h1 := by
  refine mm_enter (lv := [some (vR (some a0)), some (vI a1), some (vI a2), some (vI a3)]) (by decide) rfl (Nat.le_of_ble_eq_true rfl) ?_
  intro X hl C hE
  subst hl
  unfold fX10_covers at hf
  refine me_aload_n (q := 1) C dX10_covers_0 rfl rfl rfl ?_
  obtain ⟨k1, hf⟩ := mm_ck_some hf
  refine me_getR (q := 4) C dX10_covers_1 mf_X10_39 rfl rfl k1 rfl ?_
  refine me_iload_n (q := 5) C dX10_covers_4 rfl rfl rfl ?_
  obtain ⟨u2, eu2, hf⟩ := mm_rf_some hf
  obtain ⟨k3, hf⟩ := mm_ck_some hf
  obtain ⟨k4, hf⟩ := mm_ck_some hf
  refine me_iald (q := 6) C dX10_covers_5 eu2 k3 k4 rfl ?_
  refine me_iload_n (q := 7) C dX10_covers_6 rfl rfl rfl ?_
  refine me_icmp_ne (q2 := 34) (q := 10) C dX10_covers_7 (by decide) rfl (fun c5 => ?_) (fun c5 => ?_)
  · have hf := mm_if_t c5 hf
    refine me_iconst (v := (0 : Int32)) (q := 35) C dX10_covers_34 (by decide) rfl ?_
    exact me_zret C hE (Nat.le_of_ble_eq_true rfl) (Nat.le_of_ble_eq_true rfl) rfl (Or.inl rfl) dX10_covers_35 (mm_ri hf)
  · have hf := mm_if_f c5 hf
    refine me_aload_n (q := 11) C dX10_covers_10 rfl rfl rfl ?_
    refine me_getR (q := 14) C dX10_covers_11 mf_X10_42 rfl rfl k1 rfl ?_
    refine me_iload_n (q := 15) C dX10_covers_14 rfl rfl rfl ?_
    obtain ⟨u6, eu6, hf⟩ := mm_rf_some hf
    obtain ⟨k7, hf⟩ := mm_ck_some hf
    obtain ⟨k8, hf⟩ := mm_ck_some hf
    refine me_iald (q := 16) C dX10_covers_15 eu6 k7 k8 rfl ?_
    refine me_iload_n (q := 17) C dX10_covers_16 rfl rfl rfl ?_
    refine me_icmp_gt (q2 := 34) (q := 20) C dX10_covers_17 (by decide) rfl (fun c9 => ?_) (fun c9 => ?_)
    · have hf := mm_if_t c9 hf
      refine me_iconst (v := (0 : Int32)) (q := 35) C dX10_covers_34 (by decide) rfl ?_
      exact me_zret C hE (Nat.le_of_ble_eq_true rfl) (Nat.le_of_ble_eq_true rfl) rfl (Or.inl rfl) dX10_covers_35 (mm_ri hf)
    · have hf := mm_if_f c9 hf
      refine me_iload_n (q := 21) C dX10_covers_20 rfl rfl rfl ?_
      refine me_aload_n (q := 22) C dX10_covers_21 rfl rfl rfl ?_
      refine me_getR (q := 25) C dX10_covers_22 mf_X10_45 rfl rfl k1 rfl ?_
      refine me_iload_n (q := 26) C dX10_covers_25 rfl rfl rfl ?_
      obtain ⟨u10, eu10, hf⟩ := mm_rf_some hf
      obtain ⟨k11, hf⟩ := mm_ck_some hf
      obtain ⟨k12, hf⟩ := mm_ck_some hf
      refine me_iald (q := 27) C dX10_covers_26 eu10 k11 k12 rfl ?_
      refine me_icmp_gt (q2 := 34) (q := 30) C dX10_covers_27 (by decide) rfl (fun c13 => ?_) (fun c13 => ?_)
      · have hf := mm_if_t c13 hf
        refine me_iconst (v := (0 : Int32)) (q := 35) C dX10_covers_34 (by decide) rfl ?_
        exact me_zret C hE (Nat.le_of_ble_eq_true rfl) (Nat.le_of_ble_eq_true rfl) rfl (Or.inl rfl) dX10_covers_35 (mm_ri hf)
      · have hf := mm_if_f c13 hf
        refine me_iconst (v := (1 : Int32)) (q := 31) C dX10_covers_30 (by decide) rfl ?_
        refine me_goto (q := 35) C dX10_covers_31 (by decide) ?_
        exact me_zret C hE (Nat.le_of_ble_eq_true rfl) (Nat.le_of_ble_eq_true rfl) rfl (Or.inr rfl) dX10_covers_35 (mm_ri hf)
set_option maxRecDepth 100000 in
set_option maxHeartbeats 4000000 in
theorem cX10_closedBy_L3 {X : mm_X} (C : mm_C X cX10_closedBy yX10_closedBy 4 0 0) {r : Int32} {h1 : mm_H} (hE : mm_End X 0 0 (some .boolean) (some (vI r)) h1) {b0 : Nat} {b1 : Int32} {b2 : Int32} {b3 : Int32} (K53 : mm_H → Option (Int32 × mm_H)) : ∀ (n : Nat) (x4 : Int32) (h : mm_H), fX10_closedBy_L3 b0 b1 b2 b3 K53 n x4 h = some (r, h1) → (∀ (h : mm_H), K53 h = some (r, h1) → mm_E X h 0 0 53 [none, none, none, none, none] []) → mm_E X h 0 0 3 [some (vR (some b0)), some (vI b1), some (vI b2), some (vI b3), some (vI x4)] [] := by
  intro n
  induction n with
  | zero =>
    intro x4 h hf
    exact absurd (show (none : Option (Int32 × mm_H)) = some (r, h1) from hf) (by simp)
  | succ n ih =>
    intro x4 h hf hk53
    have hf : fX10_closedBy_L3_b b0 b1 b2 b3 K53 (fX10_closedBy_L3 b0 b1 b2 b3 K53 n) x4 h = some (r, h1) := hf
    unfold fX10_closedBy_L3_b at hf
    refine me_iload (q := 5) C dX10_closedBy_3 rfl rfl ?_
    refine me_aload_n (q := 6) C dX10_closedBy_5 rfl rfl rfl ?_
    obtain ⟨k1, hf⟩ := mm_ck_some hf
    refine me_getI (q := 9) C dX10_closedBy_6 mf_X10_70 rfl rfl k1 rfl ?_
    refine me_icmp_ge (q2 := 53) (q := 12) C dX10_closedBy_9 (by decide) rfl (fun c2 => ?_) (fun c2 => ?_)
    · have hf := mm_if_t c2 hf
      refine me_mask [false, false, false, false, false] (lv2 := [none, none, none, none, none]) rfl ?_
      exact hk53 _ hf
    · have hf := mm_if_f c2 hf
      refine me_aload_n (q := 13) C dX10_closedBy_12 rfl rfl rfl ?_
      refine me_iload (q := 15) C dX10_closedBy_13 rfl rfl ?_
      refine me_iload_n (q := 16) C dX10_closedBy_15 rfl rfl rfl ?_
      refine me_iload_n (q := 17) C dX10_closedBy_16 rfl rfl rfl ?_
      obtain ⟨v3, g4, e5, hf⟩ := mm_cl_some hf
      refine me_callV (q := 20) (c2 := 0) (s2 := 0) (st := []) C (cX10_covers_ok _ e5) mt_X10_73 mv_X10_covers rfl (by decide) dX10_closedBy_17 rfl k1 rfl rfl rfl (Nat.le_of_ble_eq_true rfl) rfl (Nat.le_of_ble_eq_true rfl) rfl (Nat.le_of_ble_eq_true rfl) rfl rfl ?_
      obtain ⟨q6, eq6, hf⟩ := mm_jn_some hf
      have Hq6 : ∀ (_u : Unit), q6 _u = some (r, h1) → mm_E X g4 0 0 47 [some (vR (some b0)), some (vI b1), some (vI b2), some (vI b3), some (vI x4)] [] := by
        intro _u hf
        subst eq6
        obtain ⟨v7, ev7, hf⟩ := mm_lt_some hf
        refine me_iinc (q := 50) (v := v7) (lv2 := [some (vR (some b0)), some (vI b1), some (vI b2), some (vI b3), some (vI v7)]) C dX10_closedBy_47 rfl (by rw [ev7]; rfl) (Nat.le_of_ble_eq_true rfl) rfl rfl rfl ?_
        refine me_goto (q := 3) C dX10_closedBy_50 (by decide) ?_
        exact ih _ _ hf hk53
      refine me_if_eq (q2 := 47) (q := 23) C dX10_closedBy_20 (by decide) rfl (fun c8 => ?_) (fun c8 => ?_)
      · have hf := mm_if_t c8 hf
        exact Hq6 () hf
      · have hf := mm_if_f c8 hf
        refine me_aload_n (q := 24) C dX10_closedBy_23 rfl rfl rfl ?_
        obtain ⟨k9, hf⟩ := mm_ck_some hf
        refine me_getR (q := 27) C dX10_closedBy_24 mf_X10_48 rfl rfl k9 rfl ?_
        refine me_iload (q := 29) C dX10_closedBy_27 rfl rfl ?_
        obtain ⟨u10, eu10, hf⟩ := mm_rf_some hf
        obtain ⟨k11, hf⟩ := mm_ck_some hf
        obtain ⟨k12, hf⟩ := mm_ck_some hf
        refine me_iald (q := 30) C dX10_closedBy_29 eu10 k11 k12 rfl ?_
        refine me_iconst (v := (-1 : Int32)) (q := 31) C dX10_closedBy_30 (by decide) rfl ?_
        refine me_icmp_eq (q2 := 47) (q := 34) C dX10_closedBy_31 (by decide) rfl (fun c13 => ?_) (fun c13 => ?_)
        · have hf := mm_if_t c13 hf
          exact Hq6 () hf
        · have hf := mm_if_f c13 hf
          refine me_aload_n (q := 35) C dX10_closedBy_34 rfl rfl rfl ?_
          refine me_getR (q := 38) C dX10_closedBy_35 mf_X10_48 rfl rfl k9 rfl ?_
          refine me_iload (q := 40) C dX10_closedBy_38 rfl rfl ?_
          obtain ⟨k14, hf⟩ := mm_ck_some hf
          refine me_iald (q := 41) C dX10_closedBy_40 eu10 k11 k14 rfl ?_
          refine me_iload_n (q := 42) C dX10_closedBy_41 rfl rfl rfl ?_
          refine me_icmp_gt (q2 := 47) (q := 45) C dX10_closedBy_42 (by decide) rfl (fun c15 => ?_) (fun c15 => ?_)
          · have hf := mm_if_t c15 hf
            exact Hq6 () hf
          · have hf := mm_if_f c15 hf
            refine me_iconst (v := (1 : Int32)) (q := 46) C dX10_closedBy_45 (by decide) rfl ?_
            exact me_zret C hE (Nat.le_of_ble_eq_true rfl) (Nat.le_of_ble_eq_true rfl) rfl (Or.inr rfl) dX10_closedBy_46 (mm_ri hf)
set_option maxRecDepth 100000 in
set_option maxHeartbeats 4000000 in
theorem cX10_closedBy_ok (l : Launch) {a0 : Nat} {a1 : Int32} {a2 : Int32} {a3 : Int32} {h : mm_H} {r : Int32} {h1 : mm_H} (hf : fX10_closedBy a0 a1 a2 a3 h = some (r, h1)) : mm_M l yX10_closedBy cX10_closedBy 5 (some .boolean) 4 0 0 [vR (some a0), vI a1, vI a2, vI a3] h (some (vI r)) h1 := by
  refine mm_enter (lv := [some (vR (some a0)), some (vI a1), some (vI a2), some (vI a3), none]) (by decide) rfl (Nat.le_of_ble_eq_true rfl) ?_
  intro X hl C hE
  subst hl
  unfold fX10_closedBy at hf
  refine me_iconst (v := (0 : Int32)) (q := 1) C dX10_closedBy_0 (by decide) rfl ?_
  refine me_istore (q := 3) (lv2 := [some (vR (some a0)), some (vI a1), some (vI a2), some (vI a3), some (vI (0 : Int32))]) C dX10_closedBy_1 (Nat.le_of_ble_eq_true rfl) rfl rfl rfl ?_
  refine cX10_closedBy_L3 C hE _ _ _ _ hf ?_
  · intro g16 hf
    refine me_iconst (v := (0 : Int32)) (q := 54) C dX10_closedBy_53 (by decide) rfl ?_
    exact me_zret C hE (Nat.le_of_ble_eq_true rfl) (Nat.le_of_ble_eq_true rfl) rfl (Or.inl rfl) dX10_closedBy_54 (mm_ri hf)
set_option maxRecDepth 100000 in
set_option maxHeartbeats 4000000 in
theorem cX10_nextOpenShip_L29 {X : mm_X} (C : mm_C X cX10_nextOpenShip yX10_nextOpenShip 6 0 0) {r : Int32} {h1 : mm_H} (hE : mm_End X 0 0 (some .int) (some (vI r)) h1) {b0 : Nat} {b1 : Int32} {b2 : Int32} {b3 : Int32} (K155 : Int32 → mm_H → Option (Int32 × mm_H)) : ∀ (n : Nat) (x4 : Int32) (x5 : Int32) (h : mm_H), fX10_nextOpenShip_L29 b0 b1 b2 b3 K155 n x4 x5 h = some (r, h1) → (∀ (y4 : Int32) (h : mm_H), K155 y4 h = some (r, h1) → mm_E X h 0 0 155 [none, none, none, none, some (vI y4), none, none, none] []) → mm_E X h 0 0 29 [some (vR (some b0)), some (vI b1), some (vI b2), some (vI b3), some (vI x4), some (vI x5), none, none] [] := by
  intro n
  induction n with
  | zero =>
    intro x4 x5 h hf
    exact absurd (show (none : Option (Int32 × mm_H)) = some (r, h1) from hf) (by simp)
  | succ n ih =>
    intro x4 x5 h hf hk155
    have hf : fX10_nextOpenShip_L29_b b0 b1 b2 b3 K155 (fX10_nextOpenShip_L29 b0 b1 b2 b3 K155 n) x4 x5 h = some (r, h1) := hf
    unfold fX10_nextOpenShip_L29_b at hf
    refine me_iload (q := 31) C dX10_nextOpenShip_29 rfl rfl ?_
    refine me_aload_n (q := 32) C dX10_nextOpenShip_31 rfl rfl rfl ?_
    obtain ⟨k3, hf⟩ := mm_ck_some hf
    refine me_getI (q := 35) C dX10_nextOpenShip_32 mf_X10_51 rfl rfl k3 rfl ?_
    refine me_icmp_ge (q2 := 155) (q := 38) C dX10_nextOpenShip_35 (by decide) rfl (fun c4 => ?_) (fun c4 => ?_)
    · have hf := mm_if_t c4 hf
      refine me_mask [false, false, false, false, true, false, false, false] (lv2 := [none, none, none, none, some (vI x4), none, none, none]) rfl ?_
      exact hk155 _ _ hf
    · have hf := mm_if_f c4 hf
      refine me_aload_n (q := 39) C dX10_nextOpenShip_38 rfl rfl rfl ?_
      refine me_getR (q := 42) C dX10_nextOpenShip_39 mf_X10_15 rfl rfl k3 rfl ?_
      refine me_iload (q := 44) C dX10_nextOpenShip_42 rfl rfl ?_
      obtain ⟨u5, eu5, hf⟩ := mm_rf_some hf
      obtain ⟨k6, hf⟩ := mm_ck_some hf
      obtain ⟨k7, hf⟩ := mm_ck_some hf
      refine me_iald (q := 45) C dX10_nextOpenShip_44 eu5 k6 k7 rfl ?_
      refine me_iload_n (q := 46) C dX10_nextOpenShip_45 rfl rfl rfl ?_
      obtain ⟨q9, eq9, hf⟩ := mm_jn_some hf
      have Hq9 : ∀ (v8 : Int32), q9 v8 = some (r, h1) → mm_E X h 0 0 71 [some (vR (some b0)), some (vI b1), some (vI b2), some (vI b3), some (vI x4), some (vI x5), none, none] [vI v8] := by
        intro v8 hf
        subst eq9
        refine me_istore (q := 73) (lv2 := [some (vR (some b0)), some (vI b1), some (vI b2), some (vI b3), some (vI x4), some (vI x5), some (vI v8), none]) C dX10_nextOpenShip_71 (Nat.le_of_ble_eq_true rfl) rfl rfl rfl ?_
        refine me_aload_n (q := 74) C dX10_nextOpenShip_73 rfl rfl rfl ?_
        refine me_getR (q := 77) C dX10_nextOpenShip_74 mf_X10_15 rfl rfl k3 rfl ?_
        refine me_iload (q := 79) C dX10_nextOpenShip_77 rfl rfl ?_
        obtain ⟨k10, hf⟩ := mm_ck_some hf
        refine me_iald (q := 80) C dX10_nextOpenShip_79 eu5 k6 k10 rfl ?_
        refine me_iload_n (q := 81) C dX10_nextOpenShip_80 rfl rfl rfl ?_
        obtain ⟨q13, eq13, hf⟩ := mm_jn_some hf
        have Hq13 : ∀ (v11 : Int32) (g12 : mm_H), q13 v11 g12 = some (r, h1) → mm_E X g12 0 0 110 [some (vR (some b0)), some (vI b1), some (vI b2), some (vI b3), some (vI x4), some (vI x5), some (vI v8), none] [vI v11] := by
          intro v11 g12 hf
          subst eq13
          refine me_istore (q := 112) (lv2 := [some (vR (some b0)), some (vI b1), some (vI b2), some (vI b3), some (vI x4), some (vI x5), some (vI v8), some (vI v11)]) C dX10_nextOpenShip_110 (Nat.le_of_ble_eq_true rfl) rfl rfl rfl ?_
          refine me_iload (q := 114) C dX10_nextOpenShip_112 rfl rfl ?_
          obtain ⟨q15, eq15, hf⟩ := mm_jn_some hf
          have Hq15 : ∀ (v14 : Int32), q15 v14 = some (r, h1) → mm_E X g12 0 0 149 [some (vR (some b0)), some (vI b1), some (vI b2), some (vI b3), some (vI v14), some (vI x5), none, none] [] := by
            intro v14 hf
            subst eq15
            obtain ⟨v16, ev16, hf⟩ := mm_lt_some hf
            refine me_iinc (q := 152) (v := v16) (lv2 := [some (vR (some b0)), some (vI b1), some (vI b2), some (vI b3), some (vI v14), some (vI v16), none, none]) C dX10_nextOpenShip_149 rfl (by rw [ev16]; rfl) (Nat.le_of_ble_eq_true rfl) rfl rfl rfl ?_
            refine me_goto (q := 29) C dX10_nextOpenShip_152 (by decide) ?_
            exact ih _ _ _ hf hk155
          refine me_if_eq (q2 := 149) (q := 117) C dX10_nextOpenShip_114 (by decide) rfl (fun c17 => ?_) (fun c17 => ?_)
          · have hf := mm_if_t c17 hf
            refine me_mask [true, true, true, true, true, true, false, false] (lv2 := [some (vR (some b0)), some (vI b1), some (vI b2), some (vI b3), some (vI x4), some (vI x5), none, none]) rfl ?_
            exact Hq15 _ hf
          · have hf := mm_if_f c17 hf
            refine me_iload (q := 119) C dX10_nextOpenShip_117 rfl rfl ?_
            refine me_if_eq (q2 := 149) (q := 122) C dX10_nextOpenShip_119 (by decide) rfl (fun c18 => ?_) (fun c18 => ?_)
            · have hf := mm_if_t c18 hf
              refine me_mask [true, true, true, true, true, true, false, false] (lv2 := [some (vR (some b0)), some (vI b1), some (vI b2), some (vI b3), some (vI x4), some (vI x5), none, none]) rfl ?_
              exact Hq15 _ hf
            · have hf := mm_if_f c18 hf
              refine me_iload (q := 124) C dX10_nextOpenShip_122 rfl rfl ?_
              refine me_iconst (v := (-1 : Int32)) (q := 125) C dX10_nextOpenShip_124 (by decide) rfl ?_
              obtain ⟨q19, eq19, hf⟩ := mm_jn_some hf
              have Hq19 : ∀ (_u : Unit), q19 _u = some (r, h1) → mm_E X g12 0 0 145 [some (vR (some b0)), some (vI b1), some (vI b2), some (vI b3), none, some (vI x5), none, none] [] := by
                intro _u hf
                subst eq19
                refine me_iload (q := 147) C dX10_nextOpenShip_145 rfl rfl ?_
                refine me_istore (q := 149) (lv2 := [some (vR (some b0)), some (vI b1), some (vI b2), some (vI b3), some (vI x5), some (vI x5), none, none]) C dX10_nextOpenShip_147 (Nat.le_of_ble_eq_true rfl) rfl rfl rfl ?_
                exact Hq15 _ hf
              refine me_icmp_eq (q2 := 145) (q := 128) C dX10_nextOpenShip_125 (by decide) rfl (fun c20 => ?_) (fun c20 => ?_)
              · have hf := mm_if_t c20 hf
                refine me_mask [true, true, true, true, false, true, false, false] (lv2 := [some (vR (some b0)), some (vI b1), some (vI b2), some (vI b3), none, some (vI x5), none, none]) rfl ?_
                exact Hq19 () hf
              · have hf := mm_if_f c20 hf
                refine me_aload_n (q := 129) C dX10_nextOpenShip_128 rfl rfl rfl ?_
                obtain ⟨k21, hf⟩ := mm_ck_some hf
                refine me_getR (q := 132) C dX10_nextOpenShip_129 mf_X10_15 rfl rfl k21 rfl ?_
                refine me_iload (q := 134) C dX10_nextOpenShip_132 rfl rfl ?_
                obtain ⟨u22, eu22, hf⟩ := mm_rf_some hf
                obtain ⟨k23, hf⟩ := mm_ck_some hf
                obtain ⟨k24, hf⟩ := mm_ck_some hf
                refine me_iald (q := 135) C dX10_nextOpenShip_134 eu22 k23 k24 rfl ?_
                refine me_aload_n (q := 136) C dX10_nextOpenShip_135 rfl rfl rfl ?_
                refine me_getR (q := 139) C dX10_nextOpenShip_136 mf_X10_15 rfl rfl k21 rfl ?_
                refine me_iload (q := 141) C dX10_nextOpenShip_139 rfl rfl ?_
                obtain ⟨k25, hf⟩ := mm_ck_some hf
                refine me_iald (q := 142) C dX10_nextOpenShip_141 eu22 k23 k25 rfl ?_
                refine me_icmp_ge (q2 := 149) (q := 145) C dX10_nextOpenShip_142 (by decide) rfl (fun c26 => ?_) (fun c26 => ?_)
                · have hf := mm_if_t c26 hf
                  refine me_mask [true, true, true, true, true, true, false, false] (lv2 := [some (vR (some b0)), some (vI b1), some (vI b2), some (vI b3), some (vI x4), some (vI x5), none, none]) rfl ?_
                  exact Hq15 _ hf
                · have hf := mm_if_f c26 hf
                  refine me_mask [true, true, true, true, false, true, false, false] (lv2 := [some (vR (some b0)), some (vI b1), some (vI b2), some (vI b3), none, some (vI x5), none, none]) rfl ?_
                  exact Hq19 () hf
        obtain ⟨q28, eq28, hf⟩ := mm_jn_some hf
        have Hq28 : ∀ (g27 : mm_H), q28 g27 = some (r, h1) → mm_E X g27 0 0 109 [some (vR (some b0)), some (vI b1), some (vI b2), some (vI b3), some (vI x4), some (vI x5), some (vI v8), none] [] := by
          intro g27 hf
          subst eq28
          refine me_iconst (v := (0 : Int32)) (q := 110) C dX10_nextOpenShip_109 (by decide) rfl ?_
          exact Hq13 _ _ hf
        refine me_icmp_lt (q2 := 109) (q := 84) C dX10_nextOpenShip_81 (by decide) rfl (fun c29 => ?_) (fun c29 => ?_)
        · have hf := mm_if_t c29 hf
          exact Hq28 _ hf
        · have hf := mm_if_f c29 hf
          refine me_aload_n (q := 85) C dX10_nextOpenShip_84 rfl rfl rfl ?_
          refine me_aload_n (q := 86) C dX10_nextOpenShip_85 rfl rfl rfl ?_
          refine me_getR (q := 89) C dX10_nextOpenShip_86 mf_X10_11 rfl rfl k3 rfl ?_
          refine me_iload (q := 91) C dX10_nextOpenShip_89 rfl rfl ?_
          obtain ⟨u30, eu30, hf⟩ := mm_rf_some hf
          obtain ⟨k31, hf⟩ := mm_ck_some hf
          obtain ⟨k32, hf⟩ := mm_ck_some hf
          refine me_iald (q := 92) C dX10_nextOpenShip_91 eu30 k31 k32 rfl ?_
          refine me_aload_n (q := 93) C dX10_nextOpenShip_92 rfl rfl rfl ?_
          refine me_iload (q := 95) C dX10_nextOpenShip_93 rfl rfl ?_
          obtain ⟨v33, g34, e35, hf⟩ := mm_cl_some hf
          refine me_callV (q := 98) (c2 := 0) (s2 := 0) (st := [vI (mm_i h u30 x5.toNatClampNeg), vR (some b0)]) C (cX10_comingOf_ok _ e35) mt_X10_55 mv_X10_comingOf rfl (by decide) dX10_nextOpenShip_95 rfl k3 rfl rfl rfl (Nat.le_of_ble_eq_true rfl) rfl (Nat.le_of_ble_eq_true rfl) rfl (Nat.le_of_ble_eq_true rfl) rfl rfl ?_
          refine me_iload_n (q := 99) C dX10_nextOpenShip_98 rfl rfl rfl ?_
          obtain ⟨k36, hf⟩ := mm_ck_some hf
          obtain ⟨v37, g38, e39, hf⟩ := mm_cl_some hf
          refine me_callV (q := 102) (c2 := 0) (s2 := 0) (st := []) C (cX10_closedBy_ok _ e39) mt_X10_59 mv_X10_closedBy rfl (by decide) dX10_nextOpenShip_99 rfl k36 rfl rfl rfl (Nat.le_of_ble_eq_true rfl) rfl (Nat.le_of_ble_eq_true rfl) rfl (Nat.le_of_ble_eq_true rfl) rfl rfl ?_
          refine me_if_ne (q2 := 109) (q := 105) C dX10_nextOpenShip_102 (by decide) rfl (fun c40 => ?_) (fun c40 => ?_)
          · have hf := mm_if_t c40 hf
            exact Hq28 _ hf
          · have hf := mm_if_f c40 hf
            refine me_iconst (v := (1 : Int32)) (q := 106) C dX10_nextOpenShip_105 (by decide) rfl ?_
            refine me_goto (q := 110) C dX10_nextOpenShip_106 (by decide) ?_
            exact Hq13 _ _ hf
      obtain ⟨q41, eq41, hf⟩ := mm_jn_some hf
      have Hq41 : ∀ (_u : Unit), q41 _u = some (r, h1) → mm_E X h 0 0 66 [some (vR (some b0)), some (vI b1), some (vI b2), some (vI b3), some (vI x4), some (vI x5), none, none] [] := by
        intro _u hf
        subst eq41
        refine me_iconst (v := (1 : Int32)) (q := 67) C dX10_nextOpenShip_66 (by decide) rfl ?_
        refine me_goto (q := 71) C dX10_nextOpenShip_67 (by decide) ?_
        exact Hq9 _ hf
      refine me_icmp_gt (q2 := 66) (q := 49) C dX10_nextOpenShip_46 (by decide) rfl (fun c42 => ?_) (fun c42 => ?_)
      · have hf := mm_if_t c42 hf
        exact Hq41 () hf
      · have hf := mm_if_f c42 hf
        refine me_aload_n (q := 50) C dX10_nextOpenShip_49 rfl rfl rfl ?_
        refine me_getR (q := 53) C dX10_nextOpenShip_50 mf_X10_15 rfl rfl k3 rfl ?_
        refine me_iload (q := 55) C dX10_nextOpenShip_53 rfl rfl ?_
        obtain ⟨k43, hf⟩ := mm_ck_some hf
        refine me_iald (q := 56) C dX10_nextOpenShip_55 eu5 k6 k43 rfl ?_
        refine me_iload_n (q := 57) C dX10_nextOpenShip_56 rfl rfl rfl ?_
        obtain ⟨q44, eq44, hf⟩ := mm_jn_some hf
        have Hq44 : ∀ (_u : Unit), q44 _u = some (r, h1) → mm_E X h 0 0 70 [some (vR (some b0)), some (vI b1), some (vI b2), some (vI b3), some (vI x4), some (vI x5), none, none] [] := by
          intro _u hf
          subst eq44
          refine me_iconst (v := (0 : Int32)) (q := 71) C dX10_nextOpenShip_70 (by decide) rfl ?_
          exact Hq9 _ hf
        refine me_icmp_ne (q2 := 70) (q := 60) C dX10_nextOpenShip_57 (by decide) rfl (fun c45 => ?_) (fun c45 => ?_)
        · have hf := mm_if_t c45 hf
          exact Hq44 () hf
        · have hf := mm_if_f c45 hf
          refine me_iload (q := 62) C dX10_nextOpenShip_60 rfl rfl ?_
          refine me_iload_n (q := 63) C dX10_nextOpenShip_62 rfl rfl rfl ?_
          refine me_icmp_le (q2 := 70) (q := 66) C dX10_nextOpenShip_63 (by decide) rfl (fun c46 => ?_) (fun c46 => ?_)
          · have hf := mm_if_t c46 hf
            exact Hq44 () hf
          · have hf := mm_if_f c46 hf
            exact Hq41 () hf
set_option maxRecDepth 100000 in
set_option maxHeartbeats 4000000 in
theorem cX10_nextOpenShip_ok (l : Launch) {a0 : Nat} {a1 : Int32} {a2 : Int32} {h : mm_H} {r : Int32} {h1 : mm_H} (hf : fX10_nextOpenShip a0 a1 a2 h = some (r, h1)) : mm_M l yX10_nextOpenShip cX10_nextOpenShip 8 (some .int) 6 0 0 [vR (some a0), vI a1, vI a2] h (some (vI r)) h1 := by
  refine mm_enter (lv := [some (vR (some a0)), some (vI a1), some (vI a2), none, none, none, none, none]) (by decide) rfl (Nat.le_of_ble_eq_true rfl) ?_
  intro X hl C hE
  subst hl
  unfold fX10_nextOpenShip at hf
  refine me_iload_n (q := 1) C dX10_nextOpenShip_0 rfl rfl rfl ?_
  obtain ⟨q2, eq2, hf⟩ := mm_jn_some hf
  have Hq2 : ∀ (v1 : Int32), q2 v1 = some (r, h1) → mm_E X h 0 0 22 [some (vR (some a0)), some (vI a1), some (vI a2), none, none, none, none, none] [vI v1] := by
    intro v1 hf
    subst eq2
    refine me_istore_n (q := 23) (lv2 := [some (vR (some a0)), some (vI a1), some (vI a2), some (vI v1), none, none, none, none]) C dX10_nextOpenShip_22 rfl (Nat.le_of_ble_eq_true rfl) rfl rfl rfl ?_
    refine me_iconst (v := (-1 : Int32)) (q := 24) C dX10_nextOpenShip_23 (by decide) rfl ?_
    refine me_istore (q := 26) (lv2 := [some (vR (some a0)), some (vI a1), some (vI a2), some (vI v1), some (vI (-1 : Int32)), none, none, none]) C dX10_nextOpenShip_24 (Nat.le_of_ble_eq_true rfl) rfl rfl rfl ?_
    refine me_iconst (v := (0 : Int32)) (q := 27) C dX10_nextOpenShip_26 (by decide) rfl ?_
    refine me_istore (q := 29) (lv2 := [some (vR (some a0)), some (vI a1), some (vI a2), some (vI v1), some (vI (-1 : Int32)), some (vI (0 : Int32)), none, none]) C dX10_nextOpenShip_27 (Nat.le_of_ble_eq_true rfl) rfl rfl rfl ?_
    refine cX10_nextOpenShip_L29 C hE _ _ _ _ _ hf ?_
    · intro z47 g48 hf
      refine me_iload (q := 157) C dX10_nextOpenShip_155 rfl rfl ?_
      exact me_iret C hE (Nat.le_of_ble_eq_true rfl) (Nat.le_of_ble_eq_true rfl) rfl dX10_nextOpenShip_157 (mm_ri hf)
  obtain ⟨q49, eq49, hf⟩ := mm_jn_some hf
  have Hq49 : ∀ (_u : Unit), q49 _u = some (r, h1) → mm_E X h 0 0 12 [some (vR (some a0)), some (vI a1), some (vI a2), none, none, none, none, none] [] := by
    intro _u hf
    subst eq49
    refine me_iconst (v := (-1 : Int32)) (q := 13) C dX10_nextOpenShip_12 (by decide) rfl ?_
    refine me_goto (q := 22) C dX10_nextOpenShip_13 (by decide) ?_
    exact Hq2 _ hf
  refine me_if_lt (q2 := 12) (q := 4) C dX10_nextOpenShip_1 (by decide) rfl (fun c50 => ?_) (fun c50 => ?_)
  · have hf := mm_if_t c50 hf
    exact Hq49 () hf
  · have hf := mm_if_f c50 hf
    refine me_iload_n (q := 5) C dX10_nextOpenShip_4 rfl rfl rfl ?_
    refine me_aload_n (q := 6) C dX10_nextOpenShip_5 rfl rfl rfl ?_
    obtain ⟨k51, hf⟩ := mm_ck_some hf
    refine me_getI (q := 9) C dX10_nextOpenShip_6 mf_X10_51 rfl rfl k51 rfl ?_
    refine me_icmp_lt (q2 := 16) (q := 12) C dX10_nextOpenShip_9 (by decide) rfl (fun c52 => ?_) (fun c52 => ?_)
    · have hf := mm_if_t c52 hf
      refine me_aload_n (q := 17) C dX10_nextOpenShip_16 rfl rfl rfl ?_
      refine me_getR (q := 20) C dX10_nextOpenShip_17 mf_X10_15 rfl rfl k51 rfl ?_
      refine me_iload_n (q := 21) C dX10_nextOpenShip_20 rfl rfl rfl ?_
      obtain ⟨u53, eu53, hf⟩ := mm_rf_some hf
      obtain ⟨k54, hf⟩ := mm_ck_some hf
      obtain ⟨k55, hf⟩ := mm_ck_some hf
      refine me_iald (q := 22) C dX10_nextOpenShip_21 eu53 k54 k55 rfl ?_
      exact Hq2 _ hf
    · have hf := mm_if_f c52 hf
      exact Hq49 () hf
set_option maxRecDepth 100000 in
set_option maxHeartbeats 4000000 in
theorem cX10_addNews_ok (l : Launch) {a0 : Nat} {a1 : Int32} {a2 : Int32} {a3 : Int32} {a4 : Int32} {a5 : Int32} {h : mm_H} {r : Int32} {h1 : mm_H} (hf : fX10_addNews a0 a1 a2 a3 a4 a5 h = some (r, h1)) : mm_M l yX10_addNews cX10_addNews 6 (some .int) 2 0 0 [vR (some a0), vI a1, vI a2, vI a3, vI a4, vI a5] h (some (vI r)) h1 := by
  refine mm_enter (lv := [some (vR (some a0)), some (vI a1), some (vI a2), some (vI a3), some (vI a4), some (vI a5)]) (by decide) rfl (Nat.le_of_ble_eq_true rfl) ?_
  intro X hl C hE
  subst hl
  unfold fX10_addNews at hf
  refine me_aload_n (q := 1) C dX10_addNews_0 rfl rfl rfl ?_
  obtain ⟨k1, hf⟩ := mm_ck_some hf
  refine me_getI (q := 4) C dX10_addNews_1 mf_X10_63 rfl rfl k1 rfl ?_
  refine me_sipush (v := (200 : Int32)) (q := 7) C dX10_addNews_4 (by decide) rfl ?_
  refine me_icmp_lt (q2 := 12) (q := 10) C dX10_addNews_7 (by decide) rfl (fun c2 => ?_) (fun c2 => ?_)
  · have hf := mm_if_t c2 hf
    refine me_aload_n (q := 13) C dX10_addNews_12 rfl rfl rfl ?_
    refine me_getR (q := 16) C dX10_addNews_13 mf_X10_24 rfl rfl k1 rfl ?_
    refine me_aload_n (q := 17) C dX10_addNews_16 rfl rfl rfl ?_
    refine me_getI (q := 20) C dX10_addNews_17 mf_X10_63 rfl rfl k1 rfl ?_
    refine me_iload_n (q := 21) C dX10_addNews_20 rfl rfl rfl ?_
    obtain ⟨u3, eu3, hf⟩ := mm_rf_some hf
    obtain ⟨k4, hf⟩ := mm_ck_some hf
    obtain ⟨k5, hf⟩ := mm_ck_some hf
    obtain ⟨g6, eg6, hf⟩ := mm_lt_some hf
    refine me_iastH (q := 22) C eg6 dX10_addNews_21 eu3 k4 k5 rfl ?_
    refine me_aload_n (q := 23) C dX10_addNews_22 rfl rfl rfl ?_
    refine me_getR (q := 26) C dX10_addNews_23 mf_X10_27 rfl rfl (mm_kI eg6 k1) rfl ?_
    refine me_aload_n (q := 27) C dX10_addNews_26 rfl rfl rfl ?_
    refine me_getI (q := 30) C dX10_addNews_27 mf_X10_63 rfl rfl (mm_kI eg6 k1) rfl ?_
    refine me_iload_n (q := 31) C dX10_addNews_30 rfl rfl rfl ?_
    obtain ⟨u7, eu7, hf⟩ := mm_rf_some hf
    obtain ⟨k8, hf⟩ := mm_ck_some hf
    obtain ⟨k9, hf⟩ := mm_ck_some hf
    obtain ⟨g10, eg10, hf⟩ := mm_lt_some hf
    refine me_iastH (q := 32) C eg10 dX10_addNews_31 eu7 k8 k9 rfl ?_
    refine me_aload_n (q := 33) C dX10_addNews_32 rfl rfl rfl ?_
    refine me_getR (q := 36) C dX10_addNews_33 mf_X10_30 rfl rfl (mm_kI eg10 (mm_kI eg6 k1)) rfl ?_
    refine me_aload_n (q := 37) C dX10_addNews_36 rfl rfl rfl ?_
    refine me_getI (q := 40) C dX10_addNews_37 mf_X10_63 rfl rfl (mm_kI eg10 (mm_kI eg6 k1)) rfl ?_
    refine me_iload_n (q := 41) C dX10_addNews_40 rfl rfl rfl ?_
    obtain ⟨u11, eu11, hf⟩ := mm_rf_some hf
    obtain ⟨k12, hf⟩ := mm_ck_some hf
    obtain ⟨k13, hf⟩ := mm_ck_some hf
    obtain ⟨g14, eg14, hf⟩ := mm_lt_some hf
    refine me_iastH (q := 42) C eg14 dX10_addNews_41 eu11 k12 k13 rfl ?_
    refine me_aload_n (q := 43) C dX10_addNews_42 rfl rfl rfl ?_
    refine me_getR (q := 46) C dX10_addNews_43 mf_X10_33 rfl rfl (mm_kI eg14 (mm_kI eg10 (mm_kI eg6 k1))) rfl ?_
    refine me_aload_n (q := 47) C dX10_addNews_46 rfl rfl rfl ?_
    refine me_getI (q := 50) C dX10_addNews_47 mf_X10_63 rfl rfl (mm_kI eg14 (mm_kI eg10 (mm_kI eg6 k1))) rfl ?_
    refine me_iload (q := 52) C dX10_addNews_50 rfl rfl ?_
    obtain ⟨u15, eu15, hf⟩ := mm_rf_some hf
    obtain ⟨k16, hf⟩ := mm_ck_some hf
    obtain ⟨k17, hf⟩ := mm_ck_some hf
    obtain ⟨g18, eg18, hf⟩ := mm_lt_some hf
    refine me_iastH (q := 53) C eg18 dX10_addNews_52 eu15 k16 k17 rfl ?_
    refine me_aload_n (q := 54) C dX10_addNews_53 rfl rfl rfl ?_
    refine me_getR (q := 57) C dX10_addNews_54 mf_X10_36 rfl rfl (mm_kI eg18 (mm_kI eg14 (mm_kI eg10 (mm_kI eg6 k1)))) rfl ?_
    refine me_aload_n (q := 58) C dX10_addNews_57 rfl rfl rfl ?_
    refine me_getI (q := 61) C dX10_addNews_58 mf_X10_63 rfl rfl (mm_kI eg18 (mm_kI eg14 (mm_kI eg10 (mm_kI eg6 k1)))) rfl ?_
    refine me_iload (q := 63) C dX10_addNews_61 rfl rfl ?_
    obtain ⟨u19, eu19, hf⟩ := mm_rf_some hf
    obtain ⟨k20, hf⟩ := mm_ck_some hf
    obtain ⟨k21, hf⟩ := mm_ck_some hf
    obtain ⟨g22, eg22, hf⟩ := mm_lt_some hf
    refine me_iastH (q := 64) C eg22 dX10_addNews_63 eu19 k20 k21 rfl ?_
    refine me_aload_n (q := 65) C dX10_addNews_64 rfl rfl rfl ?_
    refine me_dup (q := 66) C dX10_addNews_65 rfl rfl ?_
    refine me_getI (q := 69) C dX10_addNews_66 mf_X10_63 rfl rfl (mm_kI eg22 (mm_kI eg18 (mm_kI eg14 (mm_kI eg10 (mm_kI eg6 k1))))) rfl ?_
    refine me_iconst (v := (1 : Int32)) (q := 70) C dX10_addNews_69 (by decide) rfl ?_
    refine me_iadd (q := 71) C dX10_addNews_70 rfl ?_
    obtain ⟨g23, eg23, hf⟩ := mm_lt_some hf
    refine me_putI (q := 74) C eg23 dX10_addNews_71 mf_X10_63 mp_X10_11_10 rfl (by decide) rfl (mm_kI eg22 (mm_kI eg18 (mm_kI eg14 (mm_kI eg10 (mm_kI eg6 k1))))) rfl ?_
    refine me_aload_n (q := 75) C dX10_addNews_74 rfl rfl rfl ?_
    refine me_getI (q := 78) C dX10_addNews_75 mf_X10_63 rfl rfl (mm_kI eg23 (mm_kI eg22 (mm_kI eg18 (mm_kI eg14 (mm_kI eg10 (mm_kI eg6 k1)))))) rfl ?_
    exact me_iret C hE (Nat.le_of_ble_eq_true rfl) (Nat.le_of_ble_eq_true rfl) rfl dX10_addNews_78 (mm_ri hf)
  · have hf := mm_if_f c2 hf
    refine me_iconst (v := (-1 : Int32)) (q := 11) C dX10_addNews_10 (by decide) rfl ?_
    exact me_iret C hE (Nat.le_of_ble_eq_true rfl) (Nat.le_of_ble_eq_true rfl) rfl dX10_addNews_11 (mm_ri hf)
set_option maxRecDepth 100000 in
set_option maxHeartbeats 4000000 in
theorem cX10_latestNews_L8 {X : mm_X} (C : mm_C X cX10_latestNews yX10_latestNews 2 0 0) {r : Int32} {h1 : mm_H} (hE : mm_End X 0 0 (some .int) (some (vI r)) h1) {b0 : Nat} {b1 : Int32} {b2 : Int32} {b3 : Int32} (K55 : mm_H → Option (Int32 × mm_H)) : ∀ (n : Nat) (x4 : Int32) (h : mm_H), fX10_latestNews_L8 b0 b1 b2 b3 K55 n x4 h = some (r, h1) → (∀ (h : mm_H), K55 h = some (r, h1) → mm_E X h 0 0 55 [none, none, none, none, none] []) → mm_E X h 0 0 8 [some (vR (some b0)), some (vI b1), some (vI b2), some (vI b3), some (vI x4)] [] := by
  intro n
  induction n with
  | zero =>
    intro x4 h hf
    exact absurd (show (none : Option (Int32 × mm_H)) = some (r, h1) from hf) (by simp)
  | succ n ih =>
    intro x4 h hf hk55
    have hf : fX10_latestNews_L8_b b0 b1 b2 b3 K55 (fX10_latestNews_L8 b0 b1 b2 b3 K55 n) x4 h = some (r, h1) := hf
    unfold fX10_latestNews_L8_b at hf
    refine me_iload (q := 10) C dX10_latestNews_8 rfl rfl ?_
    refine me_if_lt (q2 := 55) (q := 13) C dX10_latestNews_10 (by decide) rfl (fun c3 => ?_) (fun c3 => ?_)
    · have hf := mm_if_t c3 hf
      refine me_mask [false, false, false, false, false] (lv2 := [none, none, none, none, none]) rfl ?_
      exact hk55 _ hf
    · have hf := mm_if_f c3 hf
      refine me_aload_n (q := 14) C dX10_latestNews_13 rfl rfl rfl ?_
      obtain ⟨k4, hf⟩ := mm_ck_some hf
      refine me_getR (q := 17) C dX10_latestNews_14 mf_X10_24 rfl rfl k4 rfl ?_
      refine me_iload (q := 19) C dX10_latestNews_17 rfl rfl ?_
      obtain ⟨u5, eu5, hf⟩ := mm_rf_some hf
      obtain ⟨k6, hf⟩ := mm_ck_some hf
      obtain ⟨k7, hf⟩ := mm_ck_some hf
      refine me_iald (q := 20) C dX10_latestNews_19 eu5 k6 k7 rfl ?_
      refine me_iload_n (q := 21) C dX10_latestNews_20 rfl rfl rfl ?_
      obtain ⟨q8, eq8, hf⟩ := mm_jn_some hf
      have Hq8 : ∀ (_u : Unit), q8 _u = some (r, h1) → mm_E X h 0 0 49 [some (vR (some b0)), some (vI b1), some (vI b2), some (vI b3), some (vI x4)] [] := by
        intro _u hf
        subst eq8
        obtain ⟨v9, ev9, hf⟩ := mm_lt_some hf
        refine me_iinc (q := 52) (v := v9) (lv2 := [some (vR (some b0)), some (vI b1), some (vI b2), some (vI b3), some (vI v9)]) C dX10_latestNews_49 rfl (by rw [ev9]; rfl) (Nat.le_of_ble_eq_true rfl) rfl rfl rfl ?_
        refine me_goto (q := 8) C dX10_latestNews_52 (by decide) ?_
        exact ih _ _ hf hk55
      refine me_icmp_ne (q2 := 49) (q := 24) C dX10_latestNews_21 (by decide) rfl (fun c10 => ?_) (fun c10 => ?_)
      · have hf := mm_if_t c10 hf
        exact Hq8 () hf
      · have hf := mm_if_f c10 hf
        refine me_aload_n (q := 25) C dX10_latestNews_24 rfl rfl rfl ?_
        refine me_getR (q := 28) C dX10_latestNews_25 mf_X10_27 rfl rfl k4 rfl ?_
        refine me_iload (q := 30) C dX10_latestNews_28 rfl rfl ?_
        obtain ⟨u11, eu11, hf⟩ := mm_rf_some hf
        obtain ⟨k12, hf⟩ := mm_ck_some hf
        obtain ⟨k13, hf⟩ := mm_ck_some hf
        refine me_iald (q := 31) C dX10_latestNews_30 eu11 k12 k13 rfl ?_
        refine me_iload_n (q := 32) C dX10_latestNews_31 rfl rfl rfl ?_
        refine me_icmp_ne (q2 := 49) (q := 35) C dX10_latestNews_32 (by decide) rfl (fun c14 => ?_) (fun c14 => ?_)
        · have hf := mm_if_t c14 hf
          exact Hq8 () hf
        · have hf := mm_if_f c14 hf
          refine me_aload_n (q := 36) C dX10_latestNews_35 rfl rfl rfl ?_
          refine me_getR (q := 39) C dX10_latestNews_36 mf_X10_36 rfl rfl k4 rfl ?_
          refine me_iload (q := 41) C dX10_latestNews_39 rfl rfl ?_
          obtain ⟨u15, eu15, hf⟩ := mm_rf_some hf
          obtain ⟨k16, hf⟩ := mm_ck_some hf
          obtain ⟨k17, hf⟩ := mm_ck_some hf
          refine me_iald (q := 42) C dX10_latestNews_41 eu15 k16 k17 rfl ?_
          refine me_iload_n (q := 43) C dX10_latestNews_42 rfl rfl rfl ?_
          refine me_icmp_gt (q2 := 49) (q := 46) C dX10_latestNews_43 (by decide) rfl (fun c18 => ?_) (fun c18 => ?_)
          · have hf := mm_if_t c18 hf
            exact Hq8 () hf
          · have hf := mm_if_f c18 hf
            refine me_iload (q := 48) C dX10_latestNews_46 rfl rfl ?_
            exact me_iret C hE (Nat.le_of_ble_eq_true rfl) (Nat.le_of_ble_eq_true rfl) rfl dX10_latestNews_48 (mm_ri hf)
set_option maxRecDepth 100000 in
set_option maxHeartbeats 4000000 in
theorem cX10_latestNews_ok (l : Launch) {a0 : Nat} {a1 : Int32} {a2 : Int32} {a3 : Int32} {h : mm_H} {r : Int32} {h1 : mm_H} (hf : fX10_latestNews a0 a1 a2 a3 h = some (r, h1)) : mm_M l yX10_latestNews cX10_latestNews 5 (some .int) 2 0 0 [vR (some a0), vI a1, vI a2, vI a3] h (some (vI r)) h1 := by
  refine mm_enter (lv := [some (vR (some a0)), some (vI a1), some (vI a2), some (vI a3), none]) (by decide) rfl (Nat.le_of_ble_eq_true rfl) ?_
  intro X hl C hE
  subst hl
  unfold fX10_latestNews at hf
  refine me_aload_n (q := 1) C dX10_latestNews_0 rfl rfl rfl ?_
  obtain ⟨k1, hf⟩ := mm_ck_some hf
  refine me_getI (q := 4) C dX10_latestNews_1 mf_X10_63 rfl rfl k1 rfl ?_
  refine me_iconst (v := (1 : Int32)) (q := 5) C dX10_latestNews_4 (by decide) rfl ?_
  refine me_isub (q := 6) C dX10_latestNews_5 rfl ?_
  obtain ⟨v2, ev2, hf⟩ := mm_lt_some hf
  refine me_topI ev2 ?_
  refine me_istore (q := 8) (lv2 := [some (vR (some a0)), some (vI a1), some (vI a2), some (vI a3), some (vI v2)]) C dX10_latestNews_6 (Nat.le_of_ble_eq_true rfl) rfl rfl rfl ?_
  refine cX10_latestNews_L8 C hE _ _ _ _ hf ?_
  · intro g19 hf
    refine me_iconst (v := (-1 : Int32)) (q := 56) C dX10_latestNews_55 (by decide) rfl ?_
    exact me_iret C hE (Nat.le_of_ble_eq_true rfl) (Nat.le_of_ble_eq_true rfl) rfl dX10_latestNews_56 (mm_ri hf)
set_option maxRecDepth 100000 in
set_option maxHeartbeats 4000000 in
theorem cX10_lowPrice_ok (l : Launch) {a0 : Nat} {a1 : Int32} {a2 : Int32} {a3 : Int32} {h : mm_H} {r : Int32} {h1 : mm_H} (hf : fX10_lowPrice a0 a1 a2 a3 h = some (r, h1)) : mm_M l yX10_lowPrice cX10_lowPrice 5 (some .int) 4 0 0 [vR (some a0), vI a1, vI a2, vI a3] h (some (vI r)) h1 := by
  refine mm_enter (lv := [some (vR (some a0)), some (vI a1), some (vI a2), some (vI a3), none]) (by decide) rfl (Nat.le_of_ble_eq_true rfl) ?_
  intro X hl C hE
  subst hl
  unfold fX10_lowPrice at hf
  refine me_aload_n (q := 1) C dX10_lowPrice_0 rfl rfl rfl ?_
  refine me_iload_n (q := 2) C dX10_lowPrice_1 rfl rfl rfl ?_
  refine me_iload_n (q := 3) C dX10_lowPrice_2 rfl rfl rfl ?_
  refine me_iload_n (q := 4) C dX10_lowPrice_3 rfl rfl rfl ?_
  obtain ⟨k1, hf⟩ := mm_ck_some hf
  obtain ⟨v2, g3, e4, hf⟩ := mm_cl_some hf
  refine me_callV (q := 7) (c2 := 0) (s2 := 0) (st := []) C (cX10_latestNews_ok _ e4) mt_X10_66 mv_X10_latestNews rfl (by decide) dX10_lowPrice_4 rfl k1 rfl rfl rfl (Nat.le_of_ble_eq_true rfl) rfl (Nat.le_of_ble_eq_true rfl) rfl (Nat.le_of_ble_eq_true rfl) rfl rfl ?_
  refine me_istore (q := 9) (lv2 := [some (vR (some a0)), some (vI a1), some (vI a2), some (vI a3), some (vI v2)]) C dX10_lowPrice_7 (Nat.le_of_ble_eq_true rfl) rfl rfl rfl ?_
  refine me_iload (q := 11) C dX10_lowPrice_9 rfl rfl ?_
  refine me_iconst (v := (-1 : Int32)) (q := 12) C dX10_lowPrice_11 (by decide) rfl ?_
  refine me_icmp_ne (q2 := 19) (q := 15) C dX10_lowPrice_12 (by decide) rfl (fun c5 => ?_) (fun c5 => ?_)
  · have hf := mm_if_t c5 hf
    refine me_aload_n (q := 20) C dX10_lowPrice_19 rfl rfl rfl ?_
    obtain ⟨k6, hf⟩ := mm_ck_some hf
    refine me_getR (q := 23) C dX10_lowPrice_20 mf_X10_30 rfl rfl k6 rfl ?_
    refine me_iload (q := 25) C dX10_lowPrice_23 rfl rfl ?_
    obtain ⟨u7, eu7, hf⟩ := mm_rf_some hf
    obtain ⟨k8, hf⟩ := mm_ck_some hf
    obtain ⟨k9, hf⟩ := mm_ck_some hf
    refine me_iald (q := 26) C dX10_lowPrice_25 eu7 k8 k9 rfl ?_
    exact me_iret C hE (Nat.le_of_ble_eq_true rfl) (Nat.le_of_ble_eq_true rfl) rfl dX10_lowPrice_26 (mm_ri hf)
  · have hf := mm_if_f c5 hf
    refine me_iconst (v := (0 : Int32)) (q := 16) C dX10_lowPrice_15 (by decide) rfl ?_
    refine me_goto (q := 26) C dX10_lowPrice_16 (by decide) ?_
    exact me_iret C hE (Nat.le_of_ble_eq_true rfl) (Nat.le_of_ble_eq_true rfl) rfl dX10_lowPrice_26 (mm_ri hf)
set_option maxRecDepth 100000 in
set_option maxHeartbeats 4000000 in
theorem cX10_highPrice_ok (l : Launch) {a0 : Nat} {a1 : Int32} {a2 : Int32} {a3 : Int32} {h : mm_H} {r : Int32} {h1 : mm_H} (hf : fX10_highPrice a0 a1 a2 a3 h = some (r, h1)) : mm_M l yX10_highPrice cX10_highPrice 5 (some .int) 4 0 0 [vR (some a0), vI a1, vI a2, vI a3] h (some (vI r)) h1 := by
  refine mm_enter (lv := [some (vR (some a0)), some (vI a1), some (vI a2), some (vI a3), none]) (by decide) rfl (Nat.le_of_ble_eq_true rfl) ?_
  intro X hl C hE
  subst hl
  unfold fX10_highPrice at hf
  refine me_aload_n (q := 1) C dX10_highPrice_0 rfl rfl rfl ?_
  refine me_iload_n (q := 2) C dX10_highPrice_1 rfl rfl rfl ?_
  refine me_iload_n (q := 3) C dX10_highPrice_2 rfl rfl rfl ?_
  refine me_iload_n (q := 4) C dX10_highPrice_3 rfl rfl rfl ?_
  obtain ⟨k1, hf⟩ := mm_ck_some hf
  obtain ⟨v2, g3, e4, hf⟩ := mm_cl_some hf
  refine me_callV (q := 7) (c2 := 0) (s2 := 0) (st := []) C (cX10_latestNews_ok _ e4) mt_X10_66 mv_X10_latestNews rfl (by decide) dX10_highPrice_4 rfl k1 rfl rfl rfl (Nat.le_of_ble_eq_true rfl) rfl (Nat.le_of_ble_eq_true rfl) rfl (Nat.le_of_ble_eq_true rfl) rfl rfl ?_
  refine me_istore (q := 9) (lv2 := [some (vR (some a0)), some (vI a1), some (vI a2), some (vI a3), some (vI v2)]) C dX10_highPrice_7 (Nat.le_of_ble_eq_true rfl) rfl rfl rfl ?_
  refine me_iload (q := 11) C dX10_highPrice_9 rfl rfl ?_
  refine me_iconst (v := (-1 : Int32)) (q := 12) C dX10_highPrice_11 (by decide) rfl ?_
  refine me_icmp_ne (q2 := 19) (q := 15) C dX10_highPrice_12 (by decide) rfl (fun c5 => ?_) (fun c5 => ?_)
  · have hf := mm_if_t c5 hf
    refine me_aload_n (q := 20) C dX10_highPrice_19 rfl rfl rfl ?_
    obtain ⟨k6, hf⟩ := mm_ck_some hf
    refine me_getR (q := 23) C dX10_highPrice_20 mf_X10_33 rfl rfl k6 rfl ?_
    refine me_iload (q := 25) C dX10_highPrice_23 rfl rfl ?_
    obtain ⟨u7, eu7, hf⟩ := mm_rf_some hf
    obtain ⟨k8, hf⟩ := mm_ck_some hf
    obtain ⟨k9, hf⟩ := mm_ck_some hf
    refine me_iald (q := 26) C dX10_highPrice_25 eu7 k8 k9 rfl ?_
    exact me_iret C hE (Nat.le_of_ble_eq_true rfl) (Nat.le_of_ble_eq_true rfl) rfl dX10_highPrice_26 (mm_ri hf)
  · have hf := mm_if_f c5 hf
    refine me_iconst (v := (0 : Int32)) (q := 16) C dX10_highPrice_15 (by decide) rfl ?_
    refine me_goto (q := 26) C dX10_highPrice_16 (by decide) ?_
    exact me_iret C hE (Nat.le_of_ble_eq_true rfl) (Nat.le_of_ble_eq_true rfl) rfl dX10_highPrice_26 (mm_ri hf)
set_option maxRecDepth 100000 in
set_option maxHeartbeats 4000000 in
theorem cX10_addClosing_ok (l : Launch) {a0 : Nat} {a1 : Int32} {a2 : Int32} {a3 : Int32} {h : mm_H} {r : Int32} {h1 : mm_H} (hf : fX10_addClosing a0 a1 a2 a3 h = some (r, h1)) : mm_M l yX10_addClosing cX10_addClosing 4 (some .int) 2 0 0 [vR (some a0), vI a1, vI a2, vI a3] h (some (vI r)) h1 := by
  refine mm_enter (lv := [some (vR (some a0)), some (vI a1), some (vI a2), some (vI a3)]) (by decide) rfl (Nat.le_of_ble_eq_true rfl) ?_
  intro X hl C hE
  subst hl
  unfold fX10_addClosing at hf
  refine me_aload_n (q := 1) C dX10_addClosing_0 rfl rfl rfl ?_
  obtain ⟨k1, hf⟩ := mm_ck_some hf
  refine me_getI (q := 4) C dX10_addClosing_1 mf_X10_70 rfl rfl k1 rfl ?_
  refine me_bipush (v := (20 : Int32)) (q := 6) C dX10_addClosing_4 (by decide) rfl ?_
  refine me_icmp_lt (q2 := 11) (q := 9) C dX10_addClosing_6 (by decide) rfl (fun c2 => ?_) (fun c2 => ?_)
  · have hf := mm_if_t c2 hf
    refine me_aload_n (q := 12) C dX10_addClosing_11 rfl rfl rfl ?_
    refine me_getR (q := 15) C dX10_addClosing_12 mf_X10_39 rfl rfl k1 rfl ?_
    refine me_aload_n (q := 16) C dX10_addClosing_15 rfl rfl rfl ?_
    refine me_getI (q := 19) C dX10_addClosing_16 mf_X10_70 rfl rfl k1 rfl ?_
    refine me_iload_n (q := 20) C dX10_addClosing_19 rfl rfl rfl ?_
    obtain ⟨u3, eu3, hf⟩ := mm_rf_some hf
    obtain ⟨k4, hf⟩ := mm_ck_some hf
    obtain ⟨k5, hf⟩ := mm_ck_some hf
    obtain ⟨g6, eg6, hf⟩ := mm_lt_some hf
    refine me_iastH (q := 21) C eg6 dX10_addClosing_20 eu3 k4 k5 rfl ?_
    refine me_aload_n (q := 22) C dX10_addClosing_21 rfl rfl rfl ?_
    refine me_getR (q := 25) C dX10_addClosing_22 mf_X10_42 rfl rfl (mm_kI eg6 k1) rfl ?_
    refine me_aload_n (q := 26) C dX10_addClosing_25 rfl rfl rfl ?_
    refine me_getI (q := 29) C dX10_addClosing_26 mf_X10_70 rfl rfl (mm_kI eg6 k1) rfl ?_
    refine me_iload_n (q := 30) C dX10_addClosing_29 rfl rfl rfl ?_
    obtain ⟨u7, eu7, hf⟩ := mm_rf_some hf
    obtain ⟨k8, hf⟩ := mm_ck_some hf
    obtain ⟨k9, hf⟩ := mm_ck_some hf
    obtain ⟨g10, eg10, hf⟩ := mm_lt_some hf
    refine me_iastH (q := 31) C eg10 dX10_addClosing_30 eu7 k8 k9 rfl ?_
    refine me_aload_n (q := 32) C dX10_addClosing_31 rfl rfl rfl ?_
    refine me_getR (q := 35) C dX10_addClosing_32 mf_X10_45 rfl rfl (mm_kI eg10 (mm_kI eg6 k1)) rfl ?_
    refine me_aload_n (q := 36) C dX10_addClosing_35 rfl rfl rfl ?_
    refine me_getI (q := 39) C dX10_addClosing_36 mf_X10_70 rfl rfl (mm_kI eg10 (mm_kI eg6 k1)) rfl ?_
    refine me_iload_n (q := 40) C dX10_addClosing_39 rfl rfl rfl ?_
    obtain ⟨u11, eu11, hf⟩ := mm_rf_some hf
    obtain ⟨k12, hf⟩ := mm_ck_some hf
    obtain ⟨k13, hf⟩ := mm_ck_some hf
    obtain ⟨g14, eg14, hf⟩ := mm_lt_some hf
    refine me_iastH (q := 41) C eg14 dX10_addClosing_40 eu11 k12 k13 rfl ?_
    refine me_aload_n (q := 42) C dX10_addClosing_41 rfl rfl rfl ?_
    refine me_getR (q := 45) C dX10_addClosing_42 mf_X10_48 rfl rfl (mm_kI eg14 (mm_kI eg10 (mm_kI eg6 k1))) rfl ?_
    refine me_aload_n (q := 46) C dX10_addClosing_45 rfl rfl rfl ?_
    refine me_getI (q := 49) C dX10_addClosing_46 mf_X10_70 rfl rfl (mm_kI eg14 (mm_kI eg10 (mm_kI eg6 k1))) rfl ?_
    refine me_iconst (v := (-1 : Int32)) (q := 50) C dX10_addClosing_49 (by decide) rfl ?_
    obtain ⟨u15, eu15, hf⟩ := mm_rf_some hf
    obtain ⟨k16, hf⟩ := mm_ck_some hf
    obtain ⟨k17, hf⟩ := mm_ck_some hf
    obtain ⟨g18, eg18, hf⟩ := mm_lt_some hf
    refine me_iastH (q := 51) C eg18 dX10_addClosing_50 eu15 k16 k17 rfl ?_
    refine me_aload_n (q := 52) C dX10_addClosing_51 rfl rfl rfl ?_
    refine me_dup (q := 53) C dX10_addClosing_52 rfl rfl ?_
    refine me_getI (q := 56) C dX10_addClosing_53 mf_X10_70 rfl rfl (mm_kI eg18 (mm_kI eg14 (mm_kI eg10 (mm_kI eg6 k1)))) rfl ?_
    refine me_iconst (v := (1 : Int32)) (q := 57) C dX10_addClosing_56 (by decide) rfl ?_
    refine me_iadd (q := 58) C dX10_addClosing_57 rfl ?_
    obtain ⟨g19, eg19, hf⟩ := mm_lt_some hf
    refine me_putI (q := 61) C eg19 dX10_addClosing_58 mf_X10_70 mp_X10_11_15 rfl (by decide) rfl (mm_kI eg18 (mm_kI eg14 (mm_kI eg10 (mm_kI eg6 k1)))) rfl ?_
    refine me_aload_n (q := 62) C dX10_addClosing_61 rfl rfl rfl ?_
    refine me_getI (q := 65) C dX10_addClosing_62 mf_X10_70 rfl rfl (mm_kI eg19 (mm_kI eg18 (mm_kI eg14 (mm_kI eg10 (mm_kI eg6 k1))))) rfl ?_
    refine me_iconst (v := (1 : Int32)) (q := 66) C dX10_addClosing_65 (by decide) rfl ?_
    refine me_isub (q := 67) C dX10_addClosing_66 rfl ?_
    exact me_iret C hE (Nat.le_of_ble_eq_true rfl) (Nat.le_of_ble_eq_true rfl) rfl dX10_addClosing_67 (mm_ri hf)
  · have hf := mm_if_f c2 hf
    refine me_iconst (v := (-1 : Int32)) (q := 10) C dX10_addClosing_9 (by decide) rfl ?_
    exact me_iret C hE (Nat.le_of_ble_eq_true rfl) (Nat.le_of_ble_eq_true rfl) rfl dX10_addClosing_10 (mm_ri hf)
set_option maxRecDepth 100000 in
set_option maxHeartbeats 4000000 in
theorem cX10_readClosing_ok (l : Launch) {a0 : Nat} {a1 : Int32} {a2 : Int32} {h : mm_H} {r : Int32} {h1 : mm_H} (hf : fX10_readClosing a0 a1 a2 h = some (r, h1)) : mm_M l yX10_readClosing cX10_readClosing 3 (some .boolean) 2 0 0 [vR (some a0), vI a1, vI a2] h (some (vI r)) h1 := by
  refine mm_enter (lv := [some (vR (some a0)), some (vI a1), some (vI a2)]) (by decide) rfl (Nat.le_of_ble_eq_true rfl) ?_
  intro X hl C hE
  subst hl
  unfold fX10_readClosing at hf
  refine me_iload_n (q := 1) C dX10_readClosing_0 rfl rfl rfl ?_
  refine me_if_lt (q2 := 22) (q := 4) C dX10_readClosing_1 (by decide) rfl (fun c1 => ?_) (fun c1 => ?_)
  · have hf := mm_if_t c1 hf
    refine me_iconst (v := (0 : Int32)) (q := 23) C dX10_readClosing_22 (by decide) rfl ?_
    exact me_zret C hE (Nat.le_of_ble_eq_true rfl) (Nat.le_of_ble_eq_true rfl) rfl (Or.inl rfl) dX10_readClosing_23 (mm_ri hf)
  · have hf := mm_if_f c1 hf
    refine me_iload_n (q := 5) C dX10_readClosing_4 rfl rfl rfl ?_
    refine me_aload_n (q := 6) C dX10_readClosing_5 rfl rfl rfl ?_
    obtain ⟨k2, hf⟩ := mm_ck_some hf
    refine me_getI (q := 9) C dX10_readClosing_6 mf_X10_70 rfl rfl k2 rfl ?_
    refine me_icmp_ge (q2 := 22) (q := 12) C dX10_readClosing_9 (by decide) rfl (fun c3 => ?_) (fun c3 => ?_)
    · have hf := mm_if_t c3 hf
      refine me_iconst (v := (0 : Int32)) (q := 23) C dX10_readClosing_22 (by decide) rfl ?_
      exact me_zret C hE (Nat.le_of_ble_eq_true rfl) (Nat.le_of_ble_eq_true rfl) rfl (Or.inl rfl) dX10_readClosing_23 (mm_ri hf)
    · have hf := mm_if_f c3 hf
      refine me_aload_n (q := 13) C dX10_readClosing_12 rfl rfl rfl ?_
      refine me_getR (q := 16) C dX10_readClosing_13 mf_X10_48 rfl rfl k2 rfl ?_
      refine me_iload_n (q := 17) C dX10_readClosing_16 rfl rfl rfl ?_
      obtain ⟨u4, eu4, hf⟩ := mm_rf_some hf
      obtain ⟨k5, hf⟩ := mm_ck_some hf
      obtain ⟨k6, hf⟩ := mm_ck_some hf
      refine me_iald (q := 18) C dX10_readClosing_17 eu4 k5 k6 rfl ?_
      refine me_iconst (v := (-1 : Int32)) (q := 19) C dX10_readClosing_18 (by decide) rfl ?_
      refine me_icmp_eq (q2 := 24) (q := 22) C dX10_readClosing_19 (by decide) rfl (fun c7 => ?_) (fun c7 => ?_)
      · have hf := mm_if_t c7 hf
        refine me_aload_n (q := 25) C dX10_readClosing_24 rfl rfl rfl ?_
        refine me_getR (q := 28) C dX10_readClosing_25 mf_X10_48 rfl rfl k2 rfl ?_
        refine me_iload_n (q := 29) C dX10_readClosing_28 rfl rfl rfl ?_
        refine me_iload_n (q := 30) C dX10_readClosing_29 rfl rfl rfl ?_
        obtain ⟨k8, hf⟩ := mm_ck_some hf
        obtain ⟨g9, eg9, hf⟩ := mm_lt_some hf
        refine me_iastH (q := 31) C eg9 dX10_readClosing_30 eu4 k5 k8 rfl ?_
        refine me_iconst (v := (1 : Int32)) (q := 32) C dX10_readClosing_31 (by decide) rfl ?_
        exact me_zret C hE (Nat.le_of_ble_eq_true rfl) (Nat.le_of_ble_eq_true rfl) rfl (Or.inr rfl) dX10_readClosing_32 (mm_ri hf)
      · have hf := mm_if_f c7 hf
        refine me_iconst (v := (0 : Int32)) (q := 23) C dX10_readClosing_22 (by decide) rfl ?_
        exact me_zret C hE (Nat.le_of_ble_eq_true rfl) (Nat.le_of_ble_eq_true rfl) rfl (Or.inl rfl) dX10_readClosing_23 (mm_ri hf)
set_option maxRecDepth 100000 in
set_option maxHeartbeats 4000000 in
theorem cX10_closureTold_L2 {X : mm_X} (C : mm_C X cX10_closureTold yX10_closureTold 4 0 0) {r : Int32} {h1 : mm_H} (hE : mm_End X 0 0 (some .boolean) (some (vI r)) h1) {b0 : Nat} {b1 : Int32} {b2 : Int32} (K28 : mm_H → Option (Int32 × mm_H)) : ∀ (n : Nat) (x3 : Int32) (h : mm_H), fX10_closureTold_L2 b0 b1 b2 K28 n x3 h = some (r, h1) → (∀ (h : mm_H), K28 h = some (r, h1) → mm_E X h 0 0 28 [none, none, none, none] []) → mm_E X h 0 0 2 [some (vR (some b0)), some (vI b1), some (vI b2), some (vI x3)] [] := by
  intro n
  induction n with
  | zero =>
    intro x3 h hf
    exact absurd (show (none : Option (Int32 × mm_H)) = some (r, h1) from hf) (by simp)
  | succ n ih =>
    intro x3 h hf hk28
    have hf : fX10_closureTold_L2_b b0 b1 b2 K28 (fX10_closureTold_L2 b0 b1 b2 K28 n) x3 h = some (r, h1) := hf
    unfold fX10_closureTold_L2_b at hf
    refine me_iload_n (q := 3) C dX10_closureTold_2 rfl rfl rfl ?_
    refine me_aload_n (q := 4) C dX10_closureTold_3 rfl rfl rfl ?_
    obtain ⟨k1, hf⟩ := mm_ck_some hf
    refine me_getI (q := 7) C dX10_closureTold_4 mf_X10_70 rfl rfl k1 rfl ?_
    refine me_icmp_ge (q2 := 28) (q := 10) C dX10_closureTold_7 (by decide) rfl (fun c2 => ?_) (fun c2 => ?_)
    · have hf := mm_if_t c2 hf
      refine me_mask [false, false, false, false] (lv2 := [none, none, none, none]) rfl ?_
      exact hk28 _ hf
    · have hf := mm_if_f c2 hf
      refine me_aload_n (q := 11) C dX10_closureTold_10 rfl rfl rfl ?_
      refine me_iload_n (q := 12) C dX10_closureTold_11 rfl rfl rfl ?_
      refine me_iload_n (q := 13) C dX10_closureTold_12 rfl rfl rfl ?_
      refine me_iload_n (q := 14) C dX10_closureTold_13 rfl rfl rfl ?_
      obtain ⟨v3, g4, e5, hf⟩ := mm_cl_some hf
      refine me_callV (q := 17) (c2 := 0) (s2 := 0) (st := []) C (cX10_covers_ok _ e5) mt_X10_73 mv_X10_covers rfl (by decide) dX10_closureTold_14 rfl k1 rfl rfl rfl (Nat.le_of_ble_eq_true rfl) rfl (Nat.le_of_ble_eq_true rfl) rfl (Nat.le_of_ble_eq_true rfl) rfl rfl ?_
      refine me_if_eq (q2 := 22) (q := 20) C dX10_closureTold_17 (by decide) rfl (fun c6 => ?_) (fun c6 => ?_)
      · have hf := mm_if_t c6 hf
        obtain ⟨v7, ev7, hf⟩ := mm_lt_some hf
        refine me_iinc (q := 25) (v := v7) (lv2 := [some (vR (some b0)), some (vI b1), some (vI b2), some (vI v7)]) C dX10_closureTold_22 rfl (by rw [ev7]; rfl) (Nat.le_of_ble_eq_true rfl) rfl rfl rfl ?_
        refine me_goto (q := 2) C dX10_closureTold_25 (by decide) ?_
        exact ih _ _ hf hk28
      · have hf := mm_if_f c6 hf
        refine me_iconst (v := (1 : Int32)) (q := 21) C dX10_closureTold_20 (by decide) rfl ?_
        exact me_zret C hE (Nat.le_of_ble_eq_true rfl) (Nat.le_of_ble_eq_true rfl) rfl (Or.inr rfl) dX10_closureTold_21 (mm_ri hf)
set_option maxRecDepth 100000 in
set_option maxHeartbeats 4000000 in
theorem cX10_closureTold_ok (l : Launch) {a0 : Nat} {a1 : Int32} {a2 : Int32} {h : mm_H} {r : Int32} {h1 : mm_H} (hf : fX10_closureTold a0 a1 a2 h = some (r, h1)) : mm_M l yX10_closureTold cX10_closureTold 4 (some .boolean) 4 0 0 [vR (some a0), vI a1, vI a2] h (some (vI r)) h1 := by
  refine mm_enter (lv := [some (vR (some a0)), some (vI a1), some (vI a2), none]) (by decide) rfl (Nat.le_of_ble_eq_true rfl) ?_
  intro X hl C hE
  subst hl
  unfold fX10_closureTold at hf
  refine me_iconst (v := (0 : Int32)) (q := 1) C dX10_closureTold_0 (by decide) rfl ?_
  refine me_istore_n (q := 2) (lv2 := [some (vR (some a0)), some (vI a1), some (vI a2), some (vI (0 : Int32))]) C dX10_closureTold_1 rfl (Nat.le_of_ble_eq_true rfl) rfl rfl rfl ?_
  refine cX10_closureTold_L2 C hE _ _ _ _ hf ?_
  · intro g8 hf
    refine me_iconst (v := (0 : Int32)) (q := 29) C dX10_closureTold_28 (by decide) rfl ?_
    exact me_zret C hE (Nat.le_of_ble_eq_true rfl) (Nat.le_of_ble_eq_true rfl) rfl (Or.inl rfl) dX10_closureTold_29 (mm_ri hf)
set_option maxRecDepth 100000 in
set_option maxHeartbeats 4000000 in
theorem cX11_init_ok (l : Launch) {a0 : Nat} {h : mm_H} {r : Unit} {h1 : mm_H} (hf : fX11_init a0 h = some (r, h1)) : mm_M l yX11_init cX11_init 1 none 10 65 4414 [vR (some a0)] h none h1 := by
  refine mm_enter (lv := [some (vR (some a0))]) (by decide) rfl (Nat.le_of_ble_eq_true rfl) ?_
  intro X hl C hE
  subst hl
  unfold fX11_init at hf
  refine me_aload_n (q := 1) C dX11_init_0 rfl rfl rfl ?_
  refine me_objInit (q := 4) C dX11_init_1 mo_X11_1 rfl rfl (Nat.le_of_ble_eq_true rfl) rfl ?_
  refine me_aload_n (q := 5) C dX11_init_4 rfl rfl rfl ?_
  obtain ⟨g1, eg1, hf⟩ := mm_lt_some hf
  obtain ⟨u2, eu2, hf⟩ := mm_lt_some hf
  refine me_newH (q := 8) (c2 := 1) (s2 := 3) C eg1 dX11_init_5 mn_X11_7 rfl (Nat.le_of_ble_eq_true rfl) rfl (Nat.le_of_ble_eq_true rfl) rfl ?_
  refine me_topR (congrArg some eu2) ?_
  have k3 : mm_kd g1 u2 = 0 := by rw [eu2]; exact mm_kN eg1
  refine me_dup (q := 9) C dX11_init_8 rfl rfl ?_
  obtain ⟨_, g4, e5, hf⟩ := mm_cl_some hf
  refine me_callI (q := 12) (c2 := 1) (s2 := 3) (st := [vR (some u2), vR (some a0)]) C (cJx4a65c_init_da8c8_ok _ e5) mt_X11_9 mi_Jx4a65c_init_da8c8 dX11_init_9 rfl rfl rfl rfl (Nat.le_of_ble_eq_true rfl) rfl (Nat.le_of_ble_eq_true rfl) rfl (Nat.le_of_ble_eq_true rfl) rfl rfl ?_
  obtain ⟨k6, hf⟩ := mm_ck_some hf
  obtain ⟨g7, eg7, hf⟩ := mm_lt_some hf
  refine me_putR (q := 15) C eg7 dX11_init_12 mf_X11_10 mp_X11_12_0 (Or.inl ⟨_, rfl⟩) rfl (by decide) rfl k6 rfl ?_
  refine me_aload_n (q := 16) C dX11_init_15 rfl rfl rfl ?_
  obtain ⟨g8, eg8, hf⟩ := mm_lt_some hf
  obtain ⟨u9, eu9, hf⟩ := mm_lt_some hf
  refine me_newH (q := 19) (c2 := 2) (s2 := 6) C eg8 dX11_init_16 mn_X11_7 rfl (Nat.le_of_ble_eq_true rfl) rfl (Nat.le_of_ble_eq_true rfl) rfl ?_
  refine me_topR (congrArg some eu9) ?_
  have k10 : mm_kd g8 u9 = 0 := by rw [eu9]; exact mm_kN eg8
  refine me_dup (q := 20) C dX11_init_19 rfl rfl ?_
  obtain ⟨_, g11, e12, hf⟩ := mm_cl_some hf
  refine me_callI (q := 23) (c2 := 2) (s2 := 6) (st := [vR (some u9), vR (some a0)]) C (cJx4a65c_init_da8c8_ok _ e12) mt_X11_9 mi_Jx4a65c_init_da8c8 dX11_init_20 rfl rfl rfl rfl (Nat.le_of_ble_eq_true rfl) rfl (Nat.le_of_ble_eq_true rfl) rfl (Nat.le_of_ble_eq_true rfl) rfl rfl ?_
  obtain ⟨k13, hf⟩ := mm_ck_some hf
  obtain ⟨g14, eg14, hf⟩ := mm_lt_some hf
  refine me_putR (q := 26) C eg14 dX11_init_23 mf_X11_16 mp_X11_12_1 (Or.inl ⟨_, rfl⟩) rfl (by decide) rfl k13 rfl ?_
  refine me_aload_n (q := 27) C dX11_init_26 rfl rfl rfl ?_
  obtain ⟨g15, eg15, hf⟩ := mm_lt_some hf
  obtain ⟨u16, eu16, hf⟩ := mm_lt_some hf
  refine me_newH (q := 30) (c2 := 3) (s2 := 9) C eg15 dX11_init_27 mn_X11_7 rfl (Nat.le_of_ble_eq_true rfl) rfl (Nat.le_of_ble_eq_true rfl) rfl ?_
  refine me_topR (congrArg some eu16) ?_
  have k17 : mm_kd g15 u16 = 0 := by rw [eu16]; exact mm_kN eg15
  refine me_dup (q := 31) C dX11_init_30 rfl rfl ?_
  obtain ⟨_, g18, e19, hf⟩ := mm_cl_some hf
  refine me_callI (q := 34) (c2 := 3) (s2 := 9) (st := [vR (some u16), vR (some a0)]) C (cJx4a65c_init_da8c8_ok _ e19) mt_X11_9 mi_Jx4a65c_init_da8c8 dX11_init_31 rfl rfl rfl rfl (Nat.le_of_ble_eq_true rfl) rfl (Nat.le_of_ble_eq_true rfl) rfl (Nat.le_of_ble_eq_true rfl) rfl rfl ?_
  obtain ⟨k20, hf⟩ := mm_ck_some hf
  obtain ⟨g21, eg21, hf⟩ := mm_lt_some hf
  refine me_putR (q := 37) C eg21 dX11_init_34 mf_X11_19 mp_X11_12_2 (Or.inl ⟨_, rfl⟩) rfl (by decide) rfl k20 rfl ?_
  refine me_aload_n (q := 38) C dX11_init_37 rfl rfl rfl ?_
  refine me_bipush (v := (10 : Int32)) (q := 40) C dX11_init_38 (by decide) rfl ?_
  obtain ⟨g22, eg22, hf⟩ := mm_lt_some hf
  obtain ⟨u23, eu23, hf⟩ := mm_lt_some hf
  refine me_newaI (q := 42) (B := 10) (c2 := 4) (s2 := 19) C eg22 dX11_init_40 ma_int ⟨by decide, Nat.le_of_ble_eq_true rfl⟩ (Nat.le_of_ble_eq_true rfl) rfl (Nat.le_of_ble_eq_true rfl) rfl (Nat.le_of_ble_eq_true rfl) rfl ?_
  refine me_topR (congrArg some eu23) ?_
  have k24 : mm_kd g22 u23 = 14 := by rw [eu23]; exact mm_kN eg22
  obtain ⟨k25, hf⟩ := mm_ck_some hf
  obtain ⟨g26, eg26, hf⟩ := mm_lt_some hf
  refine me_putR (q := 45) C eg26 dX11_init_42 mf_X11_22 mp_X11_12_3 (Or.inr ⟨_, rfl⟩) rfl (by decide) rfl k25 rfl ?_
  refine me_aload_n (q := 46) C dX11_init_45 rfl rfl rfl ?_
  obtain ⟨g27, eg27, hf⟩ := mm_lt_some hf
  obtain ⟨u28, eu28, hf⟩ := mm_lt_some hf
  refine me_newH (q := 49) (c2 := 5) (s2 := 33) C eg27 dX11_init_46 mn_X11_26 rfl (Nat.le_of_ble_eq_true rfl) rfl (Nat.le_of_ble_eq_true rfl) rfl ?_
  refine me_topR (congrArg some eu28) ?_
  have k29 : mm_kd g27 u28 = 6 := by rw [eu28]; exact mm_kN eg27
  refine me_dup (q := 50) C dX11_init_49 rfl rfl ?_
  obtain ⟨_, g30, e31, hf⟩ := mm_cl_some hf
  refine me_callI (q := 53) (c2 := 12) (s2 := 2057) (st := [vR (some u28), vR (some a0)]) C (cX5_init_ok _ e31) mt_X11_28 mi_X5_init dX11_init_50 rfl rfl rfl rfl (Nat.le_of_ble_eq_true rfl) rfl (Nat.le_of_ble_eq_true rfl) rfl (Nat.le_of_ble_eq_true rfl) rfl rfl ?_
  obtain ⟨k32, hf⟩ := mm_ck_some hf
  obtain ⟨g33, eg33, hf⟩ := mm_lt_some hf
  refine me_putR (q := 56) C eg33 dX11_init_53 mf_X11_29 mp_X11_12_4 (Or.inl ⟨_, rfl⟩) rfl (by decide) rfl k32 rfl ?_
  refine me_aload_n (q := 57) C dX11_init_56 rfl rfl rfl ?_
  obtain ⟨g34, eg34, hf⟩ := mm_lt_some hf
  obtain ⟨u35, eu35, hf⟩ := mm_lt_some hf
  refine me_newH (q := 60) (c2 := 13) (s2 := 2062) C eg34 dX11_init_57 mn_X11_33 rfl (Nat.le_of_ble_eq_true rfl) rfl (Nat.le_of_ble_eq_true rfl) rfl ?_
  refine me_topR (congrArg some eu35) ?_
  have k36 : mm_kd g34 u35 = 3 := by rw [eu35]; exact mm_kN eg34
  refine me_dup (q := 61) C dX11_init_60 rfl rfl ?_
  obtain ⟨_, g37, e38, hf⟩ := mm_cl_some hf
  refine me_callI (q := 64) (c2 := 16) (s2 := 2159) (st := [vR (some u35), vR (some a0)]) C (cX2_init_ok _ e38) mt_X11_35 mi_X2_init dX11_init_61 rfl rfl rfl rfl (Nat.le_of_ble_eq_true rfl) rfl (Nat.le_of_ble_eq_true rfl) rfl (Nat.le_of_ble_eq_true rfl) rfl rfl ?_
  obtain ⟨k39, hf⟩ := mm_ck_some hf
  obtain ⟨g40, eg40, hf⟩ := mm_lt_some hf
  refine me_putR (q := 67) C eg40 dX11_init_64 mf_X11_36 mp_X11_12_5 (Or.inl ⟨_, rfl⟩) rfl (by decide) rfl k39 rfl ?_
  refine me_aload_n (q := 68) C dX11_init_67 rfl rfl rfl ?_
  obtain ⟨g41, eg41, hf⟩ := mm_lt_some hf
  obtain ⟨u42, eu42, hf⟩ := mm_lt_some hf
  refine me_newH (q := 71) (c2 := 17) (s2 := 2165) C eg41 dX11_init_68 mn_X11_40 rfl (Nat.le_of_ble_eq_true rfl) rfl (Nat.le_of_ble_eq_true rfl) rfl ?_
  refine me_topR (congrArg some eu42) ?_
  have k43 : mm_kd g41 u42 = 9 := by rw [eu42]; exact mm_kN eg41
  refine me_dup (q := 72) C dX11_init_71 rfl rfl ?_
  obtain ⟨_, g44, e45, hf⟩ := mm_cl_some hf
  refine me_callI (q := 75) (c2 := 22) (s2 := 2665) (st := [vR (some u42), vR (some a0)]) C (cX8_init_ok _ e45) mt_X11_42 mi_X8_init dX11_init_72 rfl rfl rfl rfl (Nat.le_of_ble_eq_true rfl) rfl (Nat.le_of_ble_eq_true rfl) rfl (Nat.le_of_ble_eq_true rfl) rfl rfl ?_
  obtain ⟨k46, hf⟩ := mm_ck_some hf
  obtain ⟨g47, eg47, hf⟩ := mm_lt_some hf
  refine me_putR (q := 78) C eg47 dX11_init_75 mf_X11_43 mp_X11_12_6 (Or.inl ⟨_, rfl⟩) rfl (by decide) rfl k46 rfl ?_
  refine me_aload_n (q := 79) C dX11_init_78 rfl rfl rfl ?_
  obtain ⟨g48, eg48, hf⟩ := mm_lt_some hf
  obtain ⟨u49, eu49, hf⟩ := mm_lt_some hf
  refine me_newH (q := 82) (c2 := 23) (s2 := 2681) C eg48 dX11_init_79 mn_X11_47 rfl (Nat.le_of_ble_eq_true rfl) rfl (Nat.le_of_ble_eq_true rfl) rfl ?_
  refine me_topR (congrArg some eu49) ?_
  have k50 : mm_kd g48 u49 = 11 := by rw [eu49]; exact mm_kN eg48
  refine me_dup (q := 83) C dX11_init_82 rfl rfl ?_
  obtain ⟨_, g51, e52, hf⟩ := mm_cl_some hf
  refine me_callI (q := 86) (c2 := 36) (s2 := 3841) (st := [vR (some u49), vR (some a0)]) C (cX10_init_ok _ e52) mt_X11_49 mi_X10_init dX11_init_83 rfl rfl rfl rfl (Nat.le_of_ble_eq_true rfl) rfl (Nat.le_of_ble_eq_true rfl) rfl (Nat.le_of_ble_eq_true rfl) rfl rfl ?_
  obtain ⟨k53, hf⟩ := mm_ck_some hf
  obtain ⟨g54, eg54, hf⟩ := mm_lt_some hf
  refine me_putR (q := 89) C eg54 dX11_init_86 mf_X11_50 mp_X11_12_7 (Or.inl ⟨_, rfl⟩) rfl (by decide) rfl k53 rfl ?_
  refine me_aload_n (q := 90) C dX11_init_89 rfl rfl rfl ?_
  obtain ⟨g55, eg55, hf⟩ := mm_lt_some hf
  obtain ⟨u56, eu56, hf⟩ := mm_lt_some hf
  refine me_newH (q := 93) (c2 := 37) (s2 := 3855) C eg55 dX11_init_90 mn_X11_54 rfl (Nat.le_of_ble_eq_true rfl) rfl (Nat.le_of_ble_eq_true rfl) rfl ?_
  refine me_topR (congrArg some eu56) ?_
  have k57 : mm_kd g55 u56 = 10 := by rw [eu56]; exact mm_kN eg55
  refine me_dup (q := 94) C dX11_init_93 rfl rfl ?_
  obtain ⟨_, g58, e59, hf⟩ := mm_cl_some hf
  refine me_callI (q := 97) (c2 := 46) (s2 := 3939) (st := [vR (some u56), vR (some a0)]) C (cX9_init_ok _ e59) mt_X11_56 mi_X9_init dX11_init_94 rfl rfl rfl rfl (Nat.le_of_ble_eq_true rfl) rfl (Nat.le_of_ble_eq_true rfl) rfl (Nat.le_of_ble_eq_true rfl) rfl rfl ?_
  obtain ⟨k60, hf⟩ := mm_ck_some hf
  obtain ⟨g61, eg61, hf⟩ := mm_lt_some hf
  refine me_putR (q := 100) C eg61 dX11_init_97 mf_X11_57 mp_X11_12_8 (Or.inl ⟨_, rfl⟩) rfl (by decide) rfl k60 rfl ?_
  refine me_aload_n (q := 101) C dX11_init_100 rfl rfl rfl ?_
  obtain ⟨g62, eg62, hf⟩ := mm_lt_some hf
  obtain ⟨u63, eu63, hf⟩ := mm_lt_some hf
  refine me_newH (q := 104) (c2 := 47) (s2 := 3945) C eg62 dX11_init_101 mn_X11_61 rfl (Nat.le_of_ble_eq_true rfl) rfl (Nat.le_of_ble_eq_true rfl) rfl ?_
  refine me_topR (congrArg some eu63) ?_
  have k64 : mm_kd g62 u63 = 4 := by rw [eu63]; exact mm_kN eg62
  refine me_dup (q := 105) C dX11_init_104 rfl rfl ?_
  obtain ⟨_, g65, e66, hf⟩ := mm_cl_some hf
  refine me_callI (q := 108) (c2 := 51) (s2 := 4225) (st := [vR (some u63), vR (some a0)]) C (cX3_init_ok _ e66) mt_X11_63 mi_X3_init dX11_init_105 rfl rfl rfl rfl (Nat.le_of_ble_eq_true rfl) rfl (Nat.le_of_ble_eq_true rfl) rfl (Nat.le_of_ble_eq_true rfl) rfl rfl ?_
  obtain ⟨k67, hf⟩ := mm_ck_some hf
  obtain ⟨g68, eg68, hf⟩ := mm_lt_some hf
  refine me_putR (q := 111) C eg68 dX11_init_108 mf_X11_64 mp_X11_12_9 (Or.inl ⟨_, rfl⟩) rfl (by decide) rfl k67 rfl ?_
  refine me_aload_n (q := 112) C dX11_init_111 rfl rfl rfl ?_
  obtain ⟨g69, eg69, hf⟩ := mm_lt_some hf
  obtain ⟨u70, eu70, hf⟩ := mm_lt_some hf
  refine me_newH (q := 115) (c2 := 52) (s2 := 4235) C eg69 dX11_init_112 mn_X11_68 rfl (Nat.le_of_ble_eq_true rfl) rfl (Nat.le_of_ble_eq_true rfl) rfl ?_
  refine me_topR (congrArg some eu70) ?_
  have k71 : mm_kd g69 u70 = 2 := by rw [eu70]; exact mm_kN eg69
  refine me_dup (q := 116) C dX11_init_115 rfl rfl ?_
  obtain ⟨_, g72, e73, hf⟩ := mm_cl_some hf
  refine me_callI (q := 119) (c2 := 64) (s2 := 4413) (st := [vR (some u70), vR (some a0)]) C (cX1_init_ok _ e73) mt_X11_70 mi_X1_init dX11_init_116 rfl rfl rfl rfl (Nat.le_of_ble_eq_true rfl) rfl (Nat.le_of_ble_eq_true rfl) rfl (Nat.le_of_ble_eq_true rfl) rfl rfl ?_
  obtain ⟨k74, hf⟩ := mm_ck_some hf
  obtain ⟨g75, eg75, hf⟩ := mm_lt_some hf
  refine me_putR (q := 122) C eg75 dX11_init_119 mf_X11_71 mp_X11_12_10 (Or.inl ⟨_, rfl⟩) rfl (by decide) rfl k74 rfl ?_
  refine me_aload_n (q := 123) C dX11_init_122 rfl rfl rfl ?_
  refine me_iconst (v := (0 : Int32)) (q := 124) C dX11_init_123 (by decide) rfl ?_
  obtain ⟨g76, eg76, hf⟩ := mm_lt_some hf
  refine me_putI (q := 127) C eg76 dX11_init_124 mf_X11_75 mp_X11_12_11 rfl (by decide) rfl (mm_kR eg75 k74) rfl ?_
  refine me_aload_n (q := 128) C dX11_init_127 rfl rfl rfl ?_
  refine me_lconst (v := (0 : Int64)) (q := 129) C dX11_init_128 (by decide) rfl ?_
  obtain ⟨g77, eg77, hf⟩ := mm_lt_some hf
  refine me_putJ (q := 132) C eg77 dX11_init_129 mf_X11_79 mp_X11_12_12 rfl (by decide) rfl (mm_kI eg76 (mm_kR eg75 k74)) rfl ?_
  refine me_aload_n (q := 133) C dX11_init_132 rfl rfl rfl ?_
  refine me_iconst (v := (1 : Int32)) (q := 134) C dX11_init_133 (by decide) rfl ?_
  obtain ⟨g78, eg78, hf⟩ := mm_lt_some hf
  obtain ⟨u79, eu79, hf⟩ := mm_lt_some hf
  refine me_newaI (q := 136) (B := 1) (c2 := 65) (s2 := 4414) C eg78 dX11_init_134 ma_int ⟨by decide, Nat.le_of_ble_eq_true rfl⟩ (Nat.le_of_ble_eq_true rfl) rfl (Nat.le_of_ble_eq_true rfl) rfl (Nat.le_of_ble_eq_true rfl) rfl ?_
  refine me_topR (congrArg some eu79) ?_
  have k80 : mm_kd g78 u79 = 14 := by rw [eu79]; exact mm_kN eg78
  obtain ⟨k81, hf⟩ := mm_ck_some hf
  obtain ⟨g82, eg82, hf⟩ := mm_lt_some hf
  refine me_putR (q := 139) C eg82 dX11_init_136 mf_X11_83 mp_X11_12_13 (Or.inr ⟨_, rfl⟩) rfl (by decide) rfl k81 rfl ?_
  refine me_aload_n (q := 140) C dX11_init_139 rfl rfl rfl ?_
  refine me_bipush (v := (90 : Int32)) (q := 142) C dX11_init_140 (by decide) rfl ?_
  obtain ⟨g83, eg83, hf⟩ := mm_lt_some hf
  refine me_putI (q := 145) C eg83 dX11_init_142 mf_X11_86 mp_X11_12_14 rfl (by decide) rfl (mm_kR eg82 k81) rfl ?_
  exact me_vret C hE (Nat.le_of_ble_eq_true rfl) (Nat.le_of_ble_eq_true rfl) rfl dX11_init_145 (mm_ru hf)
set_option maxRecDepth 100000 in
set_option maxHeartbeats 4000000 in
theorem cX11_clock_ok (l : Launch) {a0 : Nat} {a1 : Int32} {h : mm_H} {r : Int32} {h1 : mm_H} (hf : fX11_clock a0 a1 h = some (r, h1)) : mm_M l yX11_clock cX11_clock 2 (some .boolean) 2 0 0 [vR (some a0), vI a1] h (some (vI r)) h1 := by
  refine mm_enter (lv := [some (vR (some a0)), some (vI a1)]) (by decide) rfl (Nat.le_of_ble_eq_true rfl) ?_
  intro X hl C hE
  subst hl
  unfold fX11_clock at hf
  refine me_iload_n (q := 1) C dX11_clock_0 rfl rfl rfl ?_
  refine me_aload_n (q := 2) C dX11_clock_1 rfl rfl rfl ?_
  obtain ⟨k1, hf⟩ := mm_ck_some hf
  refine me_getI (q := 5) C dX11_clock_2 mf_X11_75 rfl rfl k1 rfl ?_
  refine me_icmp_lt (q2 := 15) (q := 8) C dX11_clock_5 (by decide) rfl (fun c2 => ?_) (fun c2 => ?_)
  · have hf := mm_if_t c2 hf
    refine me_iconst (v := (0 : Int32)) (q := 16) C dX11_clock_15 (by decide) rfl ?_
    exact me_zret C hE (Nat.le_of_ble_eq_true rfl) (Nat.le_of_ble_eq_true rfl) rfl (Or.inl rfl) dX11_clock_16 (mm_ri hf)
  · have hf := mm_if_f c2 hf
    refine me_iload_n (q := 9) C dX11_clock_8 rfl rfl rfl ?_
    refine me_sipush (v := (3999 : Int32)) (q := 12) C dX11_clock_9 (by decide) rfl ?_
    refine me_icmp_le (q2 := 17) (q := 15) C dX11_clock_12 (by decide) rfl (fun c3 => ?_) (fun c3 => ?_)
    · have hf := mm_if_t c3 hf
      refine me_aload_n (q := 18) C dX11_clock_17 rfl rfl rfl ?_
      refine me_iload_n (q := 19) C dX11_clock_18 rfl rfl rfl ?_
      obtain ⟨g4, eg4, hf⟩ := mm_lt_some hf
      refine me_putI (q := 22) C eg4 dX11_clock_19 mf_X11_75 mp_X11_12_11 rfl (by decide) rfl k1 rfl ?_
      refine me_iconst (v := (1 : Int32)) (q := 23) C dX11_clock_22 (by decide) rfl ?_
      exact me_zret C hE (Nat.le_of_ble_eq_true rfl) (Nat.le_of_ble_eq_true rfl) rfl (Or.inr rfl) dX11_clock_23 (mm_ri hf)
    · have hf := mm_if_f c3 hf
      refine me_iconst (v := (0 : Int32)) (q := 16) C dX11_clock_15 (by decide) rfl ?_
      exact me_zret C hE (Nat.le_of_ble_eq_true rfl) (Nat.le_of_ble_eq_true rfl) rfl (Or.inl rfl) dX11_clock_16 (mm_ri hf)
set_option maxRecDepth 100000 in
set_option maxHeartbeats 4000000 in
theorem cX11_within_ok (l : Launch) {a0 : Int32} {a1 : Int32} {a2 : Int32} {h : mm_H} {r : Int32} {h1 : mm_H} (hf : fX11_within a0 a1 a2 h = some (r, h1)) : mm_M l yX11_within cX11_within 3 (some .boolean) 2 0 0 [vI a0, vI a1, vI a2] h (some (vI r)) h1 := by
  refine mm_enter (lv := [some (vI a0), some (vI a1), some (vI a2)]) (by decide) rfl (Nat.le_of_ble_eq_true rfl) ?_
  intro X hl C hE
  subst hl
  unfold fX11_within at hf
  refine me_iload_n (q := 1) C dX11_within_0 rfl rfl rfl ?_
  refine me_iload_n (q := 2) C dX11_within_1 rfl rfl rfl ?_
  refine me_icmp_lt (q2 := 14) (q := 5) C dX11_within_2 (by decide) rfl (fun c1 => ?_) (fun c1 => ?_)
  · have hf := mm_if_t c1 hf
    refine me_iconst (v := (0 : Int32)) (q := 15) C dX11_within_14 (by decide) rfl ?_
    exact me_zret C hE (Nat.le_of_ble_eq_true rfl) (Nat.le_of_ble_eq_true rfl) rfl (Or.inl rfl) dX11_within_15 (mm_ri hf)
  · have hf := mm_if_f c1 hf
    refine me_iload_n (q := 6) C dX11_within_5 rfl rfl rfl ?_
    refine me_iload_n (q := 7) C dX11_within_6 rfl rfl rfl ?_
    refine me_icmp_gt (q2 := 14) (q := 10) C dX11_within_7 (by decide) rfl (fun c2 => ?_) (fun c2 => ?_)
    · have hf := mm_if_t c2 hf
      refine me_iconst (v := (0 : Int32)) (q := 15) C dX11_within_14 (by decide) rfl ?_
      exact me_zret C hE (Nat.le_of_ble_eq_true rfl) (Nat.le_of_ble_eq_true rfl) rfl (Or.inl rfl) dX11_within_15 (mm_ri hf)
    · have hf := mm_if_f c2 hf
      refine me_iconst (v := (1 : Int32)) (q := 11) C dX11_within_10 (by decide) rfl ?_
      refine me_goto (q := 15) C dX11_within_11 (by decide) ?_
      exact me_zret C hE (Nat.le_of_ble_eq_true rfl) (Nat.le_of_ble_eq_true rfl) rfl (Or.inr rfl) dX11_within_15 (mm_ri hf)
set_option maxRecDepth 100000 in
set_option maxHeartbeats 4000000 in
theorem cJ8_hugeLength_7cf53_ok (l : Launch) {a0 : Int32} {a1 : Int32} {h : mm_H} {r : Int32} {h1 : mm_H} (hf : fJ8_hugeLength_7cf53 a0 a1 h = some (r, h1)) : mm_M l yJ8_hugeLength_7cf53 cJ8_hugeLength_7cf53 3 (some .int) 2 0 0 [vI a0, vI a1] h (some (vI r)) h1 := by
  refine mm_enter (lv := [some (vI a0), some (vI a1), none]) (by decide) rfl (Nat.le_of_ble_eq_true rfl) ?_
  intro X hl C hE
  subst hl
  unfold fJ8_hugeLength_7cf53 at hf
  refine me_iload_n (q := 1) C dJ8_hugeLength_7cf53_0 rfl rfl rfl ?_
  refine me_iload_n (q := 2) C dJ8_hugeLength_7cf53_1 rfl rfl rfl ?_
  refine me_iadd (q := 3) C dJ8_hugeLength_7cf53_2 rfl ?_
  obtain ⟨v1, ev1, hf⟩ := mm_lt_some hf
  refine me_topI ev1 ?_
  refine me_istore_n (q := 4) (lv2 := [some (vI a0), some (vI a1), some (vI v1)]) C dJ8_hugeLength_7cf53_3 rfl (Nat.le_of_ble_eq_true rfl) rfl rfl rfl ?_
  refine me_iload_n (q := 5) C dJ8_hugeLength_7cf53_4 rfl rfl rfl ?_
  refine me_if_ge (q2 := 49) (q := 8) C dJ8_hugeLength_7cf53_5 (by decide) rfl (fun c2 => ?_) (fun c2 => ?_)
  · have hf := mm_if_t c2 hf
    refine me_iload_n (q := 50) C dJ8_hugeLength_7cf53_49 rfl rfl rfl ?_
    refine me_ldc (v := (2147483639 : Int32)) (q := 52) C dJ8_hugeLength_7cf53_50 mc_J8_200 rfl ?_
    refine me_icmp_gt (q2 := 58) (q := 55) C dJ8_hugeLength_7cf53_52 (by decide) rfl (fun c3 => ?_) (fun c3 => ?_)
    · have hf := mm_if_t c3 hf
      refine me_iload_n (q := 59) C dJ8_hugeLength_7cf53_58 rfl rfl rfl ?_
      exact me_iret C hE (Nat.le_of_ble_eq_true rfl) (Nat.le_of_ble_eq_true rfl) rfl dJ8_hugeLength_7cf53_59 (mm_ri hf)
    · have hf := mm_if_f c3 hf
      refine me_ldc (v := (2147483639 : Int32)) (q := 57) C dJ8_hugeLength_7cf53_55 mc_J8_200 rfl ?_
      exact me_iret C hE (Nat.le_of_ble_eq_true rfl) (Nat.le_of_ble_eq_true rfl) rfl dJ8_hugeLength_7cf53_57 (mm_ri hf)
  · have hf := mm_if_f c2 hf
    exact absurd hf (by simp)
set_option maxRecDepth 100000 in
set_option maxHeartbeats 4000000 in
theorem cJ8_newLength_cabcc_ok (l : Launch) {a0 : Int32} {a1 : Int32} {a2 : Int32} {h : mm_H} {r : Int32} {h1 : mm_H} (hf : fJ8_newLength_cabcc a0 a1 a2 h = some (r, h1)) : mm_M l yJ8_newLength_cabcc cJ8_newLength_cabcc 4 (some .int) 4 0 0 [vI a0, vI a1, vI a2] h (some (vI r)) h1 := by
  refine mm_enter (lv := [some (vI a0), some (vI a1), some (vI a2), none]) (by decide) rfl (Nat.le_of_ble_eq_true rfl) ?_
  intro X hl C hE
  subst hl
  unfold fJ8_newLength_cabcc at hf
  refine me_iload_n (q := 1) C dJ8_newLength_cabcc_0 rfl rfl rfl ?_
  refine me_iload_n (q := 2) C dJ8_newLength_cabcc_1 rfl rfl rfl ?_
  refine me_iload_n (q := 3) C dJ8_newLength_cabcc_2 rfl rfl rfl ?_
  refine me_mmax (q := 6) C dJ8_newLength_cabcc_3 mm_J8_194 rfl (Nat.le_of_ble_eq_true rfl) rfl ?_
  obtain ⟨v1, ev1, hf⟩ := mm_lt_some hf
  refine me_topI ev1 ?_
  refine me_iadd (q := 7) C dJ8_newLength_cabcc_6 rfl ?_
  obtain ⟨v2, ev2, hf⟩ := mm_lt_some hf
  refine me_topI ev2 ?_
  refine me_istore_n (q := 8) (lv2 := [some (vI a0), some (vI a1), some (vI a2), some (vI v2)]) C dJ8_newLength_cabcc_7 rfl (Nat.le_of_ble_eq_true rfl) rfl rfl rfl ?_
  refine me_iconst (v := (0 : Int32)) (q := 9) C dJ8_newLength_cabcc_8 (by decide) rfl ?_
  refine me_iload_n (q := 10) C dJ8_newLength_cabcc_9 rfl rfl rfl ?_
  refine me_icmp_ge (q2 := 21) (q := 13) C dJ8_newLength_cabcc_10 (by decide) rfl (fun c3 => ?_) (fun c3 => ?_)
  · have hf := mm_if_t c3 hf
    refine me_iload_n (q := 22) C dJ8_newLength_cabcc_21 rfl rfl rfl ?_
    refine me_iload_n (q := 23) C dJ8_newLength_cabcc_22 rfl rfl rfl ?_
    obtain ⟨v4, g5, e6, hf⟩ := mm_cl_some hf
    refine me_callS (q := 26) (c2 := 0) (s2 := 0) (st := []) C (cJ8_hugeLength_7cf53_ok _ e6) mt_J8_201 ms_J8_hugeLength_7cf53 dJ8_newLength_cabcc_23 rfl rfl rfl (Nat.le_of_ble_eq_true rfl) rfl (Nat.le_of_ble_eq_true rfl) rfl (Nat.le_of_ble_eq_true rfl) rfl rfl ?_
    exact me_iret C hE (Nat.le_of_ble_eq_true rfl) (Nat.le_of_ble_eq_true rfl) rfl dJ8_newLength_cabcc_26 (mm_ri hf)
  · have hf := mm_if_f c3 hf
    refine me_iload_n (q := 14) C dJ8_newLength_cabcc_13 rfl rfl rfl ?_
    refine me_ldc (v := (2147483639 : Int32)) (q := 16) C dJ8_newLength_cabcc_14 mc_J8_200 rfl ?_
    refine me_icmp_gt (q2 := 21) (q := 19) C dJ8_newLength_cabcc_16 (by decide) rfl (fun c7 => ?_) (fun c7 => ?_)
    · have hf := mm_if_t c7 hf
      refine me_iload_n (q := 22) C dJ8_newLength_cabcc_21 rfl rfl rfl ?_
      refine me_iload_n (q := 23) C dJ8_newLength_cabcc_22 rfl rfl rfl ?_
      obtain ⟨v8, g9, e10, hf⟩ := mm_cl_some hf
      refine me_callS (q := 26) (c2 := 0) (s2 := 0) (st := []) C (cJ8_hugeLength_7cf53_ok _ e10) mt_J8_201 ms_J8_hugeLength_7cf53 dJ8_newLength_cabcc_23 rfl rfl rfl (Nat.le_of_ble_eq_true rfl) rfl (Nat.le_of_ble_eq_true rfl) rfl (Nat.le_of_ble_eq_true rfl) rfl rfl ?_
      exact me_iret C hE (Nat.le_of_ble_eq_true rfl) (Nat.le_of_ble_eq_true rfl) rfl dJ8_newLength_cabcc_26 (mm_ri hf)
    · have hf := mm_if_f c7 hf
      refine me_iload_n (q := 20) C dJ8_newLength_cabcc_19 rfl rfl rfl ?_
      exact me_iret C hE (Nat.le_of_ble_eq_true rfl) (Nat.le_of_ble_eq_true rfl) rfl dJ8_newLength_cabcc_20 (mm_ri hf)
set_option maxRecDepth 100000 in
set_option maxHeartbeats 4000000 in
theorem cJ7_copyOf_6403c_ok (l : Launch) {a0 : Nat} {a1 : Int32} {a2 : Nat} {h : mm_H} {r : Option Nat} {h1 : mm_H} (hf : fJ7_copyOf_6403c a0 a1 a2 h = some (r, h1)) : mm_M l yJ7_copyOf_6403c cJ7_copyOf_6403c 4 (some (.array (.object "java/lang/Object"))) 2 1 400 [vR (some a0), vI a1, vR (some a2)] h (some (vR r)) h1 := by
  refine mm_enter (lv := [some (vR (some a0)), some (vI a1), some (vR (some a2)), none]) (by decide) rfl (Nat.le_of_ble_eq_true rfl) ?_
  intro X hl C hE
  subst hl
  unfold fJ7_copyOf_6403c at hf
  refine me_aload_n (q := 1) C dJ7_copyOf_6403c_0 rfl rfl rfl ?_
  refine me_ldcM (q := 3) C dJ7_copyOf_6403c_1 mx_cla_RJ7_110 rfl ?_
  obtain ⟨q3, eq3, hf⟩ := mm_jn_some hf
  have Hq3 : ∀ (v1 : Option Nat) (g2 : mm_H), q3 v1 g2 = some (r, h1) → mm_E X g2 1 400 24 [some (vR (some a0)), some (vI a1), none, none] [vR v1] := by
    intro v1 g2 hf
    subst eq3
    refine me_astore_n (q := 25) (lv2 := [some (vR (some a0)), some (vI a1), none, some (vR v1)]) C dJ7_copyOf_6403c_24 rfl (Nat.le_of_ble_eq_true rfl) rfl rfl rfl ?_
    refine me_aload_n (q := 26) C dJ7_copyOf_6403c_25 rfl rfl rfl ?_
    refine me_iconst (v := (0 : Int32)) (q := 27) C dJ7_copyOf_6403c_26 (by decide) rfl ?_
    refine me_aload_n (q := 28) C dJ7_copyOf_6403c_27 rfl rfl rfl ?_
    refine me_iconst (v := (0 : Int32)) (q := 29) C dJ7_copyOf_6403c_28 (by decide) rfl ?_
    refine me_aload_n (q := 30) C dJ7_copyOf_6403c_29 rfl rfl rfl ?_
    obtain ⟨k4, hf⟩ := mm_ck_some hf
    refine me_alen (q := 31) C 4 rfl (by decide) dJ7_copyOf_6403c_30 rfl k4 rfl ?_
    refine me_iload_n (q := 32) C dJ7_copyOf_6403c_31 rfl rfl rfl ?_
    refine me_mmin (q := 35) C dJ7_copyOf_6403c_32 mm_J7_304 rfl (Nat.le_of_ble_eq_true rfl) rfl ?_
    obtain ⟨v5, ev5, hf⟩ := mm_lt_some hf
    refine me_topI ev5 ?_
    obtain ⟨u6, eu6, hf⟩ := mm_rf_some hf
    obtain ⟨k7, hf⟩ := mm_ck_some hf
    obtain ⟨k8, hf⟩ := mm_ck_some hf
    obtain ⟨k9, hf⟩ := mm_ck_some hf
    obtain ⟨k10, hf⟩ := mm_ck_some hf
    obtain ⟨k11, hf⟩ := mm_ck_some hf
    obtain ⟨g12, eg12, hf⟩ := mm_lt_some hf
    refine me_cpR (q := 38) C eg12 dJ7_copyOf_6403c_35 mw_J7_150 rfl eu6 k4 k7 k8 k9 k10 (mm_el_ok k11) rfl (Nat.le_of_ble_eq_true rfl) rfl ?_
    refine me_aload_n (q := 39) C dJ7_copyOf_6403c_38 rfl rfl rfl ?_
    exact me_aret C hE (Nat.le_of_ble_eq_true rfl) (Nat.le_of_ble_eq_true rfl) rfl (Or.inr ⟨_, rfl⟩) dJ7_copyOf_6403c_39 (mm_rr hf)
  refine me_acmp_ne (q2 := 13) (q := 6) C dJ7_copyOf_6403c_3 (by decide) rfl (fun c13 => ?_) (fun c13 => ?_)
  · have hf := mm_if_t c13 hf
    refine me_aload_n (q := 14) C dJ7_copyOf_6403c_13 rfl rfl rfl ?_
    exact absurd hf (by simp)
  · have hf := mm_if_f c13 hf
    refine me_iload_n (q := 7) C dJ7_copyOf_6403c_6 rfl rfl rfl ?_
    obtain ⟨k14, hf⟩ := mm_ck_some hf
    obtain ⟨g15, eg15, hf⟩ := mm_lt_some hf
    obtain ⟨u16, eu16, hf⟩ := mm_lt_some hf
    refine me_anew (q := 10) (B := 400) (c2 := 1) (s2 := 400) C eg15 dJ7_copyOf_6403c_7 mx_cla_RJ7_2 k14 (Nat.le_of_ble_eq_true rfl) rfl (Nat.le_of_ble_eq_true rfl) rfl (Nat.le_of_ble_eq_true rfl) rfl ?_
    refine me_topR (congrArg some eu16) ?_
    have k17 : mm_kd g15 u16 = 18 := by rw [eu16]; exact mm_kN eg15
    refine me_goto (q := 24) C dJ7_copyOf_6403c_10 (by decide) ?_
    refine me_mask [true, true, false, false] (lv2 := [some (vR (some a0)), some (vI a1), none, none]) rfl ?_
    exact Hq3 _ _ hf
set_option maxRecDepth 100000 in
set_option maxHeartbeats 4000000 in
theorem cJ7_copyOf_1904c_ok (l : Launch) {a0 : Nat} {a1 : Int32} {h : mm_H} {r : Option Nat} {h1 : mm_H} (hf : fJ7_copyOf_1904c a0 a1 h = some (r, h1)) : mm_M l yJ7_copyOf_1904c cJ7_copyOf_1904c 2 (some (.array (.object "java/lang/Object"))) 4 1 400 [vR (some a0), vI a1] h (some (vR r)) h1 := by
  refine mm_enter (lv := [some (vR (some a0)), some (vI a1)]) (by decide) rfl (Nat.le_of_ble_eq_true rfl) ?_
  intro X hl C hE
  subst hl
  unfold fJ7_copyOf_1904c at hf
  refine me_aload_n (q := 1) C dJ7_copyOf_1904c_0 rfl rfl rfl ?_
  refine me_iload_n (q := 2) C dJ7_copyOf_1904c_1 rfl rfl rfl ?_
  refine me_aload_n (q := 3) C dJ7_copyOf_1904c_2 rfl rfl rfl ?_
  obtain ⟨k1, hf⟩ := mm_ck_some hf
  obtain ⟨k2, hf⟩ := mm_ck_some hf
  refine me_getC (q := 6) C dJ7_copyOf_1904c_3 mg_J7_86 rfl k1 k2 rfl (Nat.le_of_ble_eq_true rfl) rfl ?_
  obtain ⟨v3, g4, e5, hf⟩ := mm_cl_some hf
  refine me_callS (q := 9) (c2 := 1) (s2 := 400) (st := []) C (cJ7_copyOf_6403c_ok _ e5) mt_J7_300 ms_J7_copyOf_6403c dJ7_copyOf_1904c_6 rfl rfl rfl (Nat.le_of_ble_eq_true rfl) rfl (Nat.le_of_ble_eq_true rfl) rfl (Nat.le_of_ble_eq_true rfl) rfl rfl ?_
  exact me_aret C hE (Nat.le_of_ble_eq_true rfl) (Nat.le_of_ble_eq_true rfl) rfl (Or.inr ⟨_, rfl⟩) dJ7_copyOf_1904c_9 (mm_rr hf)
set_option maxRecDepth 100000 in
set_option maxHeartbeats 4000000 in
theorem cJx4a65c_grow_92f84_ok (l : Launch) {a0 : Nat} {a1 : Int32} {h : mm_H} {r : Option Nat} {h1 : mm_H} (hf : fJx4a65c_grow_92f84 a0 a1 h = some (r, h1)) : mm_M l yJx4a65c_grow_92f84 cJx4a65c_grow_92f84 4 (some (.array (.object "java/lang/Object"))) 6 2 416 [vR (some a0), vI a1] h (some (vR r)) h1 := by
  refine mm_enter (lv := [some (vR (some a0)), some (vI a1), none, none]) (by decide) rfl (Nat.le_of_ble_eq_true rfl) ?_
  intro X hl C hE
  subst hl
  unfold fJx4a65c_grow_92f84 at hf
  refine me_aload_n (q := 1) C dJx4a65c_grow_92f84_0 rfl rfl rfl ?_
  obtain ⟨k1, hf⟩ := mm_ck_some hf
  refine me_getR (q := 4) C dJx4a65c_grow_92f84_1 mf_Jx4a65c_9 rfl rfl k1 rfl ?_
  obtain ⟨u2, eu2, hf⟩ := mm_rf_some hf
  obtain ⟨k3, hf⟩ := mm_ck_some hf
  refine me_alen (q := 5) C 4 rfl (by decide) dJx4a65c_grow_92f84_4 eu2 k3 rfl ?_
  obtain ⟨v4, ev4, hf⟩ := mm_lt_some hf
  refine me_topI ev4 ?_
  refine me_istore_n (q := 6) (lv2 := [some (vR (some a0)), some (vI a1), some (vI v4), none]) C dJx4a65c_grow_92f84_5 rfl (Nat.le_of_ble_eq_true rfl) rfl rfl rfl ?_
  refine me_iload_n (q := 7) C dJx4a65c_grow_92f84_6 rfl rfl rfl ?_
  obtain ⟨q5, eq5, hf⟩ := mm_jn_some hf
  have Hq5 : ∀ (_u : Unit), q5 _u = some (r, h1) → mm_E X h 0 0 20 [some (vR (some a0)), some (vI a1), some (vI v4), none] [] := by
    intro _u hf
    subst eq5
    refine me_iload_n (q := 21) C dJx4a65c_grow_92f84_20 rfl rfl rfl ?_
    refine me_iload_n (q := 22) C dJx4a65c_grow_92f84_21 rfl rfl rfl ?_
    refine me_iload_n (q := 23) C dJx4a65c_grow_92f84_22 rfl rfl rfl ?_
    refine me_isub (q := 24) C dJx4a65c_grow_92f84_23 rfl ?_
    refine me_iload_n (q := 25) C dJx4a65c_grow_92f84_24 rfl rfl rfl ?_
    refine me_iconst (v := (1 : Int32)) (q := 26) C dJx4a65c_grow_92f84_25 (by decide) rfl ?_
    refine me_ishr (q := 27) C dJx4a65c_grow_92f84_26 rfl ?_
    obtain ⟨v6, g7, e8, hf⟩ := mm_cl_some hf
    refine me_callS (q := 30) (c2 := 0) (s2 := 0) (st := []) C (cJ8_newLength_cabcc_ok _ e8) mt_Jx4a65c_73 ms_J8_newLength_cabcc dJx4a65c_grow_92f84_27 rfl rfl rfl (Nat.le_of_ble_eq_true rfl) rfl (Nat.le_of_ble_eq_true rfl) rfl (Nat.le_of_ble_eq_true rfl) rfl rfl ?_
    refine me_istore_n (q := 31) (lv2 := [some (vR (some a0)), some (vI a1), some (vI v4), some (vI v6)]) C dJx4a65c_grow_92f84_30 rfl (Nat.le_of_ble_eq_true rfl) rfl rfl rfl ?_
    refine me_aload_n (q := 32) C dJx4a65c_grow_92f84_31 rfl rfl rfl ?_
    refine me_aload_n (q := 33) C dJx4a65c_grow_92f84_32 rfl rfl rfl ?_
    obtain ⟨k9, hf⟩ := mm_ck_some hf
    refine me_getR (q := 36) C dJx4a65c_grow_92f84_33 mf_Jx4a65c_9 rfl rfl k9 rfl ?_
    refine me_iload_n (q := 37) C dJx4a65c_grow_92f84_36 rfl rfl rfl ?_
    obtain ⟨u10, eu10, hf⟩ := mm_rf_some hf
    obtain ⟨v11, g12, e13, hf⟩ := mm_cl_some hf
    refine me_callS (q := 40) (c2 := 1) (s2 := 400) (st := [vR (some a0)]) C (cJ7_copyOf_1904c_ok _ e13) mt_Jx4a65c_66 ms_J7_copyOf_1904c dJx4a65c_grow_92f84_37 (by rw [eu10]; rfl) rfl rfl (Nat.le_of_ble_eq_true rfl) rfl (Nat.le_of_ble_eq_true rfl) rfl (Nat.le_of_ble_eq_true rfl) rfl rfl ?_
    refine me_dup_x1 (q := 41) C dJx4a65c_grow_92f84_40 rfl rfl rfl ?_
    obtain ⟨k14, hf⟩ := mm_ck_some hf
    obtain ⟨g15, eg15, hf⟩ := mm_lt_some hf
    refine me_putR (q := 44) C eg15 dJx4a65c_grow_92f84_41 mf_Jx4a65c_9 mp_Jx4a65c_0_1 (Or.inr ⟨_, rfl⟩) rfl (by decide) rfl k14 rfl ?_
    exact me_aret C hE (Nat.le_of_ble_eq_true rfl) (Nat.le_of_ble_eq_true rfl) rfl (Or.inr ⟨_, rfl⟩) dJx4a65c_grow_92f84_44 (mm_rr hf)
  refine me_if_gt (q2 := 20) (q := 10) C dJx4a65c_grow_92f84_7 (by decide) rfl (fun c16 => ?_) (fun c16 => ?_)
  · have hf := mm_if_t c16 hf
    exact Hq5 () hf
  · have hf := mm_if_f c16 hf
    refine me_aload_n (q := 11) C dJx4a65c_grow_92f84_10 rfl rfl rfl ?_
    refine me_getR (q := 14) C dJx4a65c_grow_92f84_11 mf_Jx4a65c_9 rfl rfl k1 rfl ?_
    refine me_gsR (q := 17) C dJx4a65c_grow_92f84_14 mx_fie_x4a65c_39 rfl ?_
    refine me_acmp_eq (q2 := 45) (q := 20) C dJx4a65c_grow_92f84_17 (by decide) rfl (fun c17 => ?_) (fun c17 => ?_)
    · have hf := mm_if_t c17 hf
      refine me_aload_n (q := 46) C dJx4a65c_grow_92f84_45 rfl rfl rfl ?_
      refine me_bipush (v := (10 : Int32)) (q := 48) C dJx4a65c_grow_92f84_46 (by decide) rfl ?_
      refine me_iload_n (q := 49) C dJx4a65c_grow_92f84_48 rfl rfl rfl ?_
      refine me_mmax (q := 52) C dJx4a65c_grow_92f84_49 mm_Jx4a65c_79 rfl (Nat.le_of_ble_eq_true rfl) rfl ?_
      obtain ⟨v18, ev18, hf⟩ := mm_lt_some hf
      refine me_topI ev18 ?_
      obtain ⟨k19, hf⟩ := mm_ck_some hf
      obtain ⟨g20, eg20, hf⟩ := mm_lt_some hf
      obtain ⟨u21, eu21, hf⟩ := mm_lt_some hf
      refine me_anew (q := 55) (B := 16) (c2 := 1) (s2 := 16) C eg20 dJx4a65c_grow_92f84_52 mx_cla_x4a65c_7 k19 (Nat.le_of_ble_eq_true rfl) rfl (Nat.le_of_ble_eq_true rfl) rfl (Nat.le_of_ble_eq_true rfl) rfl ?_
      refine me_topR (congrArg some eu21) ?_
      have k22 : mm_kd g20 u21 = 18 := by rw [eu21]; exact mm_kN eg20
      refine me_dup_x1 (q := 56) C dJx4a65c_grow_92f84_55 rfl rfl rfl ?_
      obtain ⟨k23, hf⟩ := mm_ck_some hf
      obtain ⟨g24, eg24, hf⟩ := mm_lt_some hf
      refine me_putR (q := 59) C eg24 dJx4a65c_grow_92f84_56 mf_Jx4a65c_9 mp_Jx4a65c_0_1 (Or.inr ⟨_, rfl⟩) rfl (by decide) rfl k23 rfl ?_
      exact me_aret C hE (Nat.le_of_ble_eq_true rfl) (Nat.le_of_ble_eq_true rfl) rfl (Or.inr ⟨_, rfl⟩) dJx4a65c_grow_92f84_59 (mm_rr hf)
    · have hf := mm_if_f c17 hf
      exact Hq5 () hf
set_option maxRecDepth 100000 in
set_option maxHeartbeats 4000000 in
theorem cJx4a65c_grow_d5877_ok (l : Launch) {a0 : Nat} {h : mm_H} {r : Option Nat} {h1 : mm_H} (hf : fJx4a65c_grow_d5877 a0 h = some (r, h1)) : mm_M l yJx4a65c_grow_d5877 cJx4a65c_grow_d5877 1 (some (.array (.object "java/lang/Object"))) 8 2 416 [vR (some a0)] h (some (vR r)) h1 := by
  refine mm_enter (lv := [some (vR (some a0))]) (by decide) rfl (Nat.le_of_ble_eq_true rfl) ?_
  intro X hl C hE
  subst hl
  unfold fJx4a65c_grow_d5877 at hf
  refine me_aload_n (q := 1) C dJx4a65c_grow_d5877_0 rfl rfl rfl ?_
  refine me_aload_n (q := 2) C dJx4a65c_grow_d5877_1 rfl rfl rfl ?_
  obtain ⟨k1, hf⟩ := mm_ck_some hf
  refine me_getI (q := 5) C dJx4a65c_grow_d5877_2 mf_Jx4a65c_48 rfl rfl k1 rfl ?_
  refine me_iconst (v := (1 : Int32)) (q := 6) C dJx4a65c_grow_d5877_5 (by decide) rfl ?_
  refine me_iadd (q := 7) C dJx4a65c_grow_d5877_6 rfl ?_
  obtain ⟨v2, g3, e4, hf⟩ := mm_cl_some hf
  refine me_callV (q := 10) (c2 := 2) (s2 := 416) (st := []) C (cJx4a65c_grow_92f84_ok _ e4) mt_Jx4a65c_69 mv_Jx4a65c_grow_92f84 rfl (by decide) dJx4a65c_grow_d5877_7 rfl k1 rfl rfl rfl (Nat.le_of_ble_eq_true rfl) rfl (Nat.le_of_ble_eq_true rfl) rfl (Nat.le_of_ble_eq_true rfl) rfl rfl ?_
  exact me_aret C hE (Nat.le_of_ble_eq_true rfl) (Nat.le_of_ble_eq_true rfl) rfl (Or.inr ⟨_, rfl⟩) dJx4a65c_grow_d5877_10 (mm_rr hf)
set_option maxRecDepth 100000 in
set_option maxHeartbeats 4000000 in
theorem cJx4a65c_add_72be8_ok (l : Launch) {a0 : Nat} {a1 : Nat} {a2 : Nat} {a3 : Int32} {h : mm_H} {r : Unit} {h1 : mm_H} (hf : fJx4a65c_add_72be8 a0 a1 a2 a3 h = some (r, h1)) : mm_M l yJx4a65c_add_72be8 cJx4a65c_add_72be8 4 none 10 2 416 [vR (some a0), vR (some a1), vR (some a2), vI a3] h none h1 := by
  refine mm_enter (lv := [some (vR (some a0)), some (vR (some a1)), some (vR (some a2)), some (vI a3)]) (by decide) rfl (Nat.le_of_ble_eq_true rfl) ?_
  intro X hl C hE
  subst hl
  unfold fJx4a65c_add_72be8 at hf
  refine me_iload_n (q := 1) C dJx4a65c_add_72be8_0 rfl rfl rfl ?_
  refine me_aload_n (q := 2) C dJx4a65c_add_72be8_1 rfl rfl rfl ?_
  obtain ⟨k1, hf⟩ := mm_ck_some hf
  refine me_alen (q := 3) C 4 rfl (by decide) dJx4a65c_add_72be8_2 rfl k1 rfl ?_
  obtain ⟨q4, eq4, hf⟩ := mm_jn_some hf
  have Hq4 : ∀ (v2 : Option Nat) (g3 : mm_H), q4 v2 g3 = some (r, h1) → mm_E X g3 2 416 11 [some (vR (some a0)), some (vR (some a1)), some (vR v2), some (vI a3)] [] := by
    intro v2 g3 hf
    subst eq4
    refine me_aload_n (q := 12) C dJx4a65c_add_72be8_11 rfl rfl rfl ?_
    refine me_iload_n (q := 13) C dJx4a65c_add_72be8_12 rfl rfl rfl ?_
    refine me_aload_n (q := 14) C dJx4a65c_add_72be8_13 rfl rfl rfl ?_
    obtain ⟨u5, eu5, hf⟩ := mm_rf_some hf
    obtain ⟨k6, hf⟩ := mm_ck_some hf
    obtain ⟨k7, hf⟩ := mm_ck_some hf
    obtain ⟨k8, hf⟩ := mm_ck_some hf
    obtain ⟨k9, hf⟩ := mm_ck_some hf
    obtain ⟨g10, eg10, hf⟩ := mm_lt_some hf
    refine me_aast (q := 15) C eg10 dJx4a65c_add_72be8_14 eu5 rfl k6 k7 k8 k9 rfl ?_
    refine me_aload_n (q := 16) C dJx4a65c_add_72be8_15 rfl rfl rfl ?_
    refine me_iload_n (q := 17) C dJx4a65c_add_72be8_16 rfl rfl rfl ?_
    refine me_iconst (v := (1 : Int32)) (q := 18) C dJx4a65c_add_72be8_17 (by decide) rfl ?_
    refine me_iadd (q := 19) C dJx4a65c_add_72be8_18 rfl ?_
    obtain ⟨k11, hf⟩ := mm_ck_some hf
    obtain ⟨g12, eg12, hf⟩ := mm_lt_some hf
    refine me_putI (q := 22) C eg12 dJx4a65c_add_72be8_19 mf_Jx4a65c_48 mp_Jx4a65c_0_2 rfl (by decide) rfl k11 rfl ?_
    exact me_vret C hE (Nat.le_of_ble_eq_true rfl) (Nat.le_of_ble_eq_true rfl) rfl dJx4a65c_add_72be8_22 (mm_ru hf)
  refine me_icmp_ne (q2 := 11) (q := 6) C dJx4a65c_add_72be8_3 (by decide) rfl (fun c13 => ?_) (fun c13 => ?_)
  · have hf := mm_if_t c13 hf
    refine me_widen (c2 := 2) (s2 := 416) (Nat.le_of_ble_eq_true rfl) (Nat.le_of_ble_eq_true rfl) ?_
    exact Hq4 _ _ hf
  · have hf := mm_if_f c13 hf
    refine me_aload_n (q := 7) C dJx4a65c_add_72be8_6 rfl rfl rfl ?_
    obtain ⟨k14, hf⟩ := mm_ck_some hf
    obtain ⟨v15, g16, e17, hf⟩ := mm_cl_some hf
    refine me_callV (q := 10) (c2 := 2) (s2 := 416) (st := []) C (cJx4a65c_grow_d5877_ok _ e17) mt_Jx4a65c_129 mv_Jx4a65c_grow_d5877 rfl (by decide) dJx4a65c_add_72be8_7 rfl k14 rfl rfl rfl (Nat.le_of_ble_eq_true rfl) rfl (Nat.le_of_ble_eq_true rfl) rfl (Nat.le_of_ble_eq_true rfl) rfl rfl ?_
    refine me_astore_n (q := 11) (lv2 := [some (vR (some a0)), some (vR (some a1)), some (vR v15), some (vI a3)]) C dJx4a65c_add_72be8_10 rfl (Nat.le_of_ble_eq_true rfl) rfl rfl rfl ?_
    exact Hq4 _ _ hf
set_option maxRecDepth 100000 in
set_option maxHeartbeats 4000000 in
theorem cJx4a65c_add_9ea2d_ok (l : Launch) {a0 : Nat} {a1 : Nat} {h : mm_H} {r : Int32} {h1 : mm_H} (hf : fJx4a65c_add_9ea2d a0 a1 h = some (r, h1)) : mm_M l yJx4a65c_add_9ea2d cJx4a65c_add_9ea2d 2 (some .boolean) 12 2 416 [vR (some a0), vR (some a1)] h (some (vI r)) h1 := by
  refine mm_enter (lv := [some (vR (some a0)), some (vR (some a1))]) (by decide) rfl (Nat.le_of_ble_eq_true rfl) ?_
  intro X hl C hE
  subst hl
  unfold fJx4a65c_add_9ea2d at hf
  refine me_aload_n (q := 1) C dJx4a65c_add_9ea2d_0 rfl rfl rfl ?_
  refine me_dup (q := 2) C dJx4a65c_add_9ea2d_1 rfl rfl ?_
  obtain ⟨k1, hf⟩ := mm_ck_some hf
  refine me_getI (q := 5) C dJx4a65c_add_9ea2d_2 mf_Jx4a65c_63 rfl rfl k1 rfl ?_
  refine me_iconst (v := (1 : Int32)) (q := 6) C dJx4a65c_add_9ea2d_5 (by decide) rfl ?_
  refine me_iadd (q := 7) C dJx4a65c_add_9ea2d_6 rfl ?_
  obtain ⟨g2, eg2, hf⟩ := mm_lt_some hf
  refine me_putI (q := 10) C eg2 dJx4a65c_add_9ea2d_7 mf_Jx4a65c_63 mp_Jx4a65c_0_0 rfl (by decide) rfl k1 rfl ?_
  refine me_aload_n (q := 11) C dJx4a65c_add_9ea2d_10 rfl rfl rfl ?_
  refine me_aload_n (q := 12) C dJx4a65c_add_9ea2d_11 rfl rfl rfl ?_
  refine me_aload_n (q := 13) C dJx4a65c_add_9ea2d_12 rfl rfl rfl ?_
  refine me_getR (q := 16) C dJx4a65c_add_9ea2d_13 mf_Jx4a65c_9 rfl rfl (mm_kI eg2 k1) rfl ?_
  refine me_aload_n (q := 17) C dJx4a65c_add_9ea2d_16 rfl rfl rfl ?_
  refine me_getI (q := 20) C dJx4a65c_add_9ea2d_17 mf_Jx4a65c_48 rfl rfl (mm_kI eg2 k1) rfl ?_
  obtain ⟨u3, eu3, hf⟩ := mm_rf_some hf
  obtain ⟨_, g4, e5, hf⟩ := mm_cl_some hf
  refine me_callV (q := 23) (c2 := 2) (s2 := 416) (st := []) C (cJx4a65c_add_72be8_ok _ e5) mt_Jx4a65c_131 mv_Jx4a65c_add_72be8 rfl (by decide) dJx4a65c_add_9ea2d_20 rfl (mm_kI eg2 k1) (by rw [eu3]; rfl) rfl rfl (Nat.le_of_ble_eq_true rfl) rfl (Nat.le_of_ble_eq_true rfl) rfl (Nat.le_of_ble_eq_true rfl) rfl rfl ?_
  refine me_iconst (v := (1 : Int32)) (q := 24) C dJx4a65c_add_9ea2d_23 (by decide) rfl ?_
  exact me_zret C hE (Nat.le_of_ble_eq_true rfl) (Nat.le_of_ble_eq_true rfl) rfl (Or.inr rfl) dJx4a65c_add_9ea2d_24 (mm_ri hf)
set_option maxRecDepth 100000 in
set_option maxHeartbeats 4000000 in
theorem cX11_man_ok (l : Launch) {a0 : Nat} {a1 : Int32} {a2 : Int32} {a3 : Int32} {h : mm_H} {r : Int32} {h1 : mm_H} (hf : fX11_man a0 a1 a2 a3 h = some (r, h1)) : mm_M l yX11_man cX11_man 4 (some .int) 14 3 423 [vR (some a0), vI a1, vI a2, vI a3] h (some (vI r)) h1 := by
  refine mm_enter (lv := [some (vR (some a0)), some (vI a1), some (vI a2), some (vI a3)]) (by decide) rfl (Nat.le_of_ble_eq_true rfl) ?_
  intro X hl C hE
  subst hl
  unfold fX11_man at hf
  refine me_aload_n (q := 1) C dX11_man_0 rfl rfl rfl ?_
  obtain ⟨k1, hf⟩ := mm_ck_some hf
  refine me_getR (q := 4) C dX11_man_1 mf_X11_10 rfl rfl k1 rfl ?_
  obtain ⟨u2, eu2, hf⟩ := mm_rf_some hf
  obtain ⟨k3, hf⟩ := mm_ck_some hf
  obtain ⟨v4, g5, e6, hf⟩ := mm_cl_some hf
  refine me_callV (q := 7) (c2 := 0) (s2 := 0) (st := []) C (cJx4a65c_size_8abf5_ok _ e6) mt_X11_89 mv_Jx4a65c_size_8abf5 rfl (by decide) dX11_man_4 eu2 k3 rfl rfl rfl (Nat.le_of_ble_eq_true rfl) rfl (Nat.le_of_ble_eq_true rfl) rfl (Nat.le_of_ble_eq_true rfl) rfl rfl ?_
  refine me_bipush (v := (40 : Int32)) (q := 9) C dX11_man_7 (by decide) rfl ?_
  refine me_icmp_ge (q2 := 32) (q := 12) C dX11_man_9 (by decide) rfl (fun c7 => ?_) (fun c7 => ?_)
  · have hf := mm_if_t c7 hf
    refine me_iconst (v := (-1 : Int32)) (q := 33) C dX11_man_32 (by decide) rfl ?_
    exact me_iret C hE (Nat.le_of_ble_eq_true rfl) (Nat.le_of_ble_eq_true rfl) rfl dX11_man_33 (mm_ri hf)
  · have hf := mm_if_f c7 hf
    refine me_iload_n (q := 13) C dX11_man_12 rfl rfl rfl ?_
    refine me_iconst (v := (0 : Int32)) (q := 14) C dX11_man_13 (by decide) rfl ?_
    refine me_bipush (v := (8 : Int32)) (q := 16) C dX11_man_14 (by decide) rfl ?_
    obtain ⟨v8, g9, e10, hf⟩ := mm_cl_some hf
    refine me_callS (q := 19) (c2 := 0) (s2 := 0) (st := []) C (cX11_within_ok _ e10) mt_X11_93 ms_X11_within dX11_man_16 rfl rfl rfl (Nat.le_of_ble_eq_true rfl) rfl (Nat.le_of_ble_eq_true rfl) rfl (Nat.le_of_ble_eq_true rfl) rfl rfl ?_
    refine me_if_eq (q2 := 32) (q := 22) C dX11_man_19 (by decide) rfl (fun c11 => ?_) (fun c11 => ?_)
    · have hf := mm_if_t c11 hf
      refine me_iconst (v := (-1 : Int32)) (q := 33) C dX11_man_32 (by decide) rfl ?_
      exact me_iret C hE (Nat.le_of_ble_eq_true rfl) (Nat.le_of_ble_eq_true rfl) rfl dX11_man_33 (mm_ri hf)
    · have hf := mm_if_f c11 hf
      refine me_iload_n (q := 23) C dX11_man_22 rfl rfl rfl ?_
      refine me_iconst (v := (0 : Int32)) (q := 24) C dX11_man_23 (by decide) rfl ?_
      refine me_ldc (v := (1000000 : Int32)) (q := 26) C dX11_man_24 mc_X11_97 rfl ?_
      obtain ⟨v12, g13, e14, hf⟩ := mm_cl_some hf
      refine me_callS (q := 29) (c2 := 0) (s2 := 0) (st := []) C (cX11_within_ok _ e14) mt_X11_93 ms_X11_within dX11_man_26 rfl rfl rfl (Nat.le_of_ble_eq_true rfl) rfl (Nat.le_of_ble_eq_true rfl) rfl (Nat.le_of_ble_eq_true rfl) rfl rfl ?_
      refine me_if_ne (q2 := 34) (q := 32) C dX11_man_29 (by decide) rfl (fun c15 => ?_) (fun c15 => ?_)
      · have hf := mm_if_t c15 hf
        refine me_aload_n (q := 35) C dX11_man_34 rfl rfl rfl ?_
        obtain ⟨k16, hf⟩ := mm_ck_some hf
        refine me_getR (q := 38) C dX11_man_35 mf_X11_10 rfl rfl k16 rfl ?_
        obtain ⟨g17, eg17, hf⟩ := mm_lt_some hf
        obtain ⟨u18, eu18, hf⟩ := mm_lt_some hf
        refine me_newH (q := 41) (c2 := 1) (s2 := 7) C eg17 dX11_man_38 mn_X11_98 rfl (Nat.le_of_ble_eq_true rfl) rfl (Nat.le_of_ble_eq_true rfl) rfl ?_
        refine me_topR (congrArg some eu18) ?_
        have k19 : mm_kd g17 u18 = 8 := by rw [eu18]; exact mm_kN eg17
        refine me_dup (q := 42) C dX11_man_41 rfl rfl ?_
        refine me_iload_n (q := 43) C dX11_man_42 rfl rfl rfl ?_
        refine me_iload_n (q := 44) C dX11_man_43 rfl rfl rfl ?_
        refine me_iload_n (q := 45) C dX11_man_44 rfl rfl rfl ?_
        refine me_aload_n (q := 46) C dX11_man_45 rfl rfl rfl ?_
        obtain ⟨k20, hf⟩ := mm_ck_some hf
        refine me_getI (q := 49) C dX11_man_46 mf_X11_75 rfl rfl k20 rfl ?_
        obtain ⟨_, g21, e22, hf⟩ := mm_cl_some hf
        refine me_callI (q := 52) (c2 := 1) (s2 := 7) (st := [vR (some u18), vR (mm_r g13 a0 0)]) C (cX7_init_ok _ e22) mt_X11_100 mi_X7_init dX11_man_49 rfl rfl rfl rfl (Nat.le_of_ble_eq_true rfl) rfl (Nat.le_of_ble_eq_true rfl) rfl (Nat.le_of_ble_eq_true rfl) rfl rfl ?_
        obtain ⟨u23, eu23, hf⟩ := mm_rf_some hf
        obtain ⟨k24, hf⟩ := mm_ck_some hf
        obtain ⟨v25, g26, e27, hf⟩ := mm_cl_some hf
        refine me_callV (q := 55) (c2 := 3) (s2 := 423) (st := []) C (cJx4a65c_add_9ea2d_ok _ e27) mt_X11_103 mv_Jx4a65c_add_9ea2d rfl (by decide) dX11_man_52 eu23 k24 rfl rfl rfl (Nat.le_of_ble_eq_true rfl) rfl (Nat.le_of_ble_eq_true rfl) rfl (Nat.le_of_ble_eq_true rfl) rfl rfl ?_
        refine me_pop (q := 56) C dX11_man_55 rfl rfl ?_
        refine me_aload_n (q := 57) C dX11_man_56 rfl rfl rfl ?_
        obtain ⟨k28, hf⟩ := mm_ck_some hf
        refine me_getR (q := 60) C dX11_man_57 mf_X11_10 rfl rfl k28 rfl ?_
        obtain ⟨u29, eu29, hf⟩ := mm_rf_some hf
        obtain ⟨k30, hf⟩ := mm_ck_some hf
        obtain ⟨v31, g32, e33, hf⟩ := mm_cl_some hf
        refine me_callV (q := 63) (c2 := 3) (s2 := 423) (st := []) C (cJx4a65c_size_8abf5_ok _ e33) mt_X11_89 mv_Jx4a65c_size_8abf5 rfl (by decide) dX11_man_60 eu29 k30 rfl rfl rfl (Nat.le_of_ble_eq_true rfl) rfl (Nat.le_of_ble_eq_true rfl) rfl (Nat.le_of_ble_eq_true rfl) rfl rfl ?_
        refine me_iconst (v := (1 : Int32)) (q := 64) C dX11_man_63 (by decide) rfl ?_
        refine me_isub (q := 65) C dX11_man_64 rfl ?_
        exact me_iret C hE (Nat.le_of_ble_eq_true rfl) (Nat.le_of_ble_eq_true rfl) rfl dX11_man_65 (mm_ri hf)
      · have hf := mm_if_f c15 hf
        refine me_iconst (v := (-1 : Int32)) (q := 33) C dX11_man_32 (by decide) rfl ?_
        exact me_iret C hE (Nat.le_of_ble_eq_true rfl) (Nat.le_of_ble_eq_true rfl) rfl dX11_man_33 (mm_ri hf)
