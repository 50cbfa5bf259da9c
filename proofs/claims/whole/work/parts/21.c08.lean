set_option maxRecDepth 100000 in
set_option maxHeartbeats 4000000 in
theorem cX12_isMan_ok (l : Launch) {a0 : Nat} {a1 : Int32} {h : mm_H} {r : Int32} {h1 : mm_H} (hf : fX12_isMan a0 a1 h = some (r, h1)) : mm_M l yX12_isMan cX12_isMan 2 (some .boolean) 4 0 0 [vR (some a0), vI a1] h (some (vI r)) h1 := by
  refine mm_enter (lv := [some (vR (some a0)), some (vI a1)]) (by decide) rfl (Nat.le_of_ble_eq_true rfl) ?_
  intro X hl C hE
  subst hl
  unfold fX12_isMan at hf
  refine me_iload_n (q := 1) C dX12_isMan_0 rfl rfl rfl ?_
  refine me_iconst (v := (0 : Int32)) (q := 2) C dX12_isMan_1 (by decide) rfl ?_
  refine me_aload_n (q := 3) C dX12_isMan_2 rfl rfl rfl ?_
  obtain ⟨k1, hf⟩ := mm_ck_some hf
  refine me_getI (q := 6) C dX12_isMan_3 mf_X12_276 rfl rfl k1 rfl ?_
  refine me_iconst (v := (1 : Int32)) (q := 7) C dX12_isMan_6 (by decide) rfl ?_
  refine me_isub (q := 8) C dX12_isMan_7 rfl ?_
  obtain ⟨v2, g3, e4, hf⟩ := mm_cl_some hf
  refine me_callS (q := 11) (c2 := 0) (s2 := 0) (st := []) C (cX12_in_ok _ e4) mt_X12_269 ms_X12_in dX12_isMan_8 rfl rfl rfl (Nat.le_of_ble_eq_true rfl) rfl (Nat.le_of_ble_eq_true rfl) rfl (Nat.le_of_ble_eq_true rfl) rfl rfl ?_
  obtain ⟨k5, hf⟩ := mm_ck_some hf
  exact me_zret C hE (Nat.le_of_ble_eq_true rfl) (Nat.le_of_ble_eq_true rfl) rfl k5 dX12_isMan_11 (mm_ri hf)
set_option maxRecDepth 100000 in
set_option maxHeartbeats 4000000 in
theorem cX12_isThere_ok (l : Launch) {a0 : Nat} {a1 : Int32} {h : mm_H} {r : Int32} {h1 : mm_H} (hf : fX12_isThere a0 a1 h = some (r, h1)) : mm_M l yX12_isThere cX12_isThere 2 (some .boolean) 6 0 0 [vR (some a0), vI a1] h (some (vI r)) h1 := by
  refine mm_enter (lv := [some (vR (some a0)), some (vI a1)]) (by decide) rfl (Nat.le_of_ble_eq_true rfl) ?_
  intro X hl C hE
  subst hl
  unfold fX12_isThere at hf
  refine me_aload_n (q := 1) C dX12_isThere_0 rfl rfl rfl ?_
  refine me_iload_n (q := 2) C dX12_isThere_1 rfl rfl rfl ?_
  obtain ⟨k1, hf⟩ := mm_ck_some hf
  obtain ⟨v2, g3, e4, hf⟩ := mm_cl_some hf
  refine me_callV (q := 5) (c2 := 0) (s2 := 0) (st := []) C (cX12_isMan_ok _ e4) mt_X12_281 mv_X12_isMan rfl (by decide) dX12_isThere_2 rfl k1 rfl rfl rfl (Nat.le_of_ble_eq_true rfl) rfl (Nat.le_of_ble_eq_true rfl) rfl (Nat.le_of_ble_eq_true rfl) rfl rfl ?_
  refine me_if_eq (q2 := 24) (q := 8) C dX12_isThere_5 (by decide) rfl (fun c5 => ?_) (fun c5 => ?_)
  · have hf := mm_if_t c5 hf
    refine me_iconst (v := (0 : Int32)) (q := 25) C dX12_isThere_24 (by decide) rfl ?_
    exact me_zret C hE (Nat.le_of_ble_eq_true rfl) (Nat.le_of_ble_eq_true rfl) rfl (Or.inl rfl) dX12_isThere_25 (mm_ri hf)
  · have hf := mm_if_f c5 hf
    refine me_aload_n (q := 9) C dX12_isThere_8 rfl rfl rfl ?_
    obtain ⟨k6, hf⟩ := mm_ck_some hf
    refine me_getR (q := 12) C dX12_isThere_9 mf_X12_19 rfl rfl k6 rfl ?_
    refine me_iload_n (q := 13) C dX12_isThere_12 rfl rfl rfl ?_
    obtain ⟨u7, eu7, hf⟩ := mm_rf_some hf
    obtain ⟨k8, hf⟩ := mm_ck_some hf
    obtain ⟨k9, hf⟩ := mm_ck_some hf
    refine me_iald (q := 14) C dX12_isThere_13 eu7 k8 k9 rfl ?_
    refine me_ldc_w (v := (100000 : Int32)) (q := 17) C dX12_isThere_14 mc_X12_280 rfl ?_
    refine me_icmp_ne (q2 := 24) (q := 20) C dX12_isThere_17 (by decide) rfl (fun c10 => ?_) (fun c10 => ?_)
    · have hf := mm_if_t c10 hf
      refine me_iconst (v := (0 : Int32)) (q := 25) C dX12_isThere_24 (by decide) rfl ?_
      exact me_zret C hE (Nat.le_of_ble_eq_true rfl) (Nat.le_of_ble_eq_true rfl) rfl (Or.inl rfl) dX12_isThere_25 (mm_ri hf)
    · have hf := mm_if_f c10 hf
      refine me_iconst (v := (1 : Int32)) (q := 21) C dX12_isThere_20 (by decide) rfl ?_
      refine me_goto (q := 25) C dX12_isThere_21 (by decide) ?_
      exact me_zret C hE (Nat.le_of_ble_eq_true rfl) (Nat.le_of_ble_eq_true rfl) rfl (Or.inr rfl) dX12_isThere_25 (mm_ri hf)
set_option maxRecDepth 100000 in
set_option maxHeartbeats 4000000 in
theorem cX12_leave_ok (l : Launch) {a0 : Nat} {a1 : Int32} {h : mm_H} {r : Int32} {h1 : mm_H} (hf : fX12_leave a0 a1 h = some (r, h1)) : mm_M l yX12_leave cX12_leave 2 (some .boolean) 8 0 0 [vR (some a0), vI a1] h (some (vI r)) h1 := by
  refine mm_enter (lv := [some (vR (some a0)), some (vI a1)]) (by decide) rfl (Nat.le_of_ble_eq_true rfl) ?_
  intro X hl C hE
  subst hl
  unfold fX12_leave at hf
  refine me_aload_n (q := 1) C dX12_leave_0 rfl rfl rfl ?_
  refine me_iload_n (q := 2) C dX12_leave_1 rfl rfl rfl ?_
  obtain ⟨k1, hf⟩ := mm_ck_some hf
  obtain ⟨v2, g3, e4, hf⟩ := mm_cl_some hf
  refine me_callV (q := 5) (c2 := 0) (s2 := 0) (st := []) C (cX12_isThere_ok _ e4) mt_X12_285 mv_X12_isThere rfl (by decide) dX12_leave_2 rfl k1 rfl rfl rfl (Nat.le_of_ble_eq_true rfl) rfl (Nat.le_of_ble_eq_true rfl) rfl (Nat.le_of_ble_eq_true rfl) rfl rfl ?_
  refine me_if_ne (q2 := 10) (q := 8) C dX12_leave_5 (by decide) rfl (fun c5 => ?_) (fun c5 => ?_)
  · have hf := mm_if_t c5 hf
    refine me_aload_n (q := 11) C dX12_leave_10 rfl rfl rfl ?_
    obtain ⟨k6, hf⟩ := mm_ck_some hf
    refine me_getR (q := 14) C dX12_leave_11 mf_X12_19 rfl rfl k6 rfl ?_
    refine me_iload_n (q := 15) C dX12_leave_14 rfl rfl rfl ?_
    refine me_aload_n (q := 16) C dX12_leave_15 rfl rfl rfl ?_
    refine me_getI (q := 19) C dX12_leave_16 mf_X12_273 rfl rfl k6 rfl ?_
    obtain ⟨u7, eu7, hf⟩ := mm_rf_some hf
    obtain ⟨k8, hf⟩ := mm_ck_some hf
    obtain ⟨k9, hf⟩ := mm_ck_some hf
    obtain ⟨g10, eg10, hf⟩ := mm_lt_some hf
    refine me_iastH (q := 20) C eg10 dX12_leave_19 eu7 k8 k9 rfl ?_
    refine me_iconst (v := (1 : Int32)) (q := 21) C dX12_leave_20 (by decide) rfl ?_
    exact me_zret C hE (Nat.le_of_ble_eq_true rfl) (Nat.le_of_ble_eq_true rfl) rfl (Or.inr rfl) dX12_leave_21 (mm_ri hf)
  · have hf := mm_if_f c5 hf
    refine me_iconst (v := (0 : Int32)) (q := 9) C dX12_leave_8 (by decide) rfl ?_
    exact me_zret C hE (Nat.le_of_ble_eq_true rfl) (Nat.le_of_ble_eq_true rfl) rfl (Or.inl rfl) dX12_leave_9 (mm_ri hf)
set_option maxRecDepth 100000 in
set_option maxHeartbeats 4000000 in
theorem cX12_comes_ok (l : Launch) {a0 : Nat} {a1 : Int32} {a2 : Int32} {a3 : Int32} {a4 : Int32} {h : mm_H} {r : Int32} {h1 : mm_H} (hf : fX12_comes a0 a1 a2 a3 a4 h = some (r, h1)) : mm_M l yX12_comes cX12_comes 5 (some .int) 2 0 0 [vR (some a0), vI a1, vI a2, vI a3, vI a4] h (some (vI r)) h1 := by
  refine mm_enter (lv := [some (vR (some a0)), some (vI a1), some (vI a2), some (vI a3), some (vI a4)]) (by decide) rfl (Nat.le_of_ble_eq_true rfl) ?_
  intro X hl C hE
  subst hl
  unfold fX12_comes at hf
  refine me_aload_n (q := 1) C dX12_comes_0 rfl rfl rfl ?_
  obtain ⟨k1, hf⟩ := mm_ck_some hf
  refine me_getR (q := 4) C dX12_comes_1 mf_X12_32 rfl rfl k1 rfl ?_
  refine me_aload_n (q := 5) C dX12_comes_4 rfl rfl rfl ?_
  refine me_getI (q := 8) C dX12_comes_5 mf_X12_288 rfl rfl k1 rfl ?_
  refine me_iload_n (q := 9) C dX12_comes_8 rfl rfl rfl ?_
  obtain ⟨u2, eu2, hf⟩ := mm_rf_some hf
  obtain ⟨k3, hf⟩ := mm_ck_some hf
  obtain ⟨k4, hf⟩ := mm_ck_some hf
  obtain ⟨g5, eg5, hf⟩ := mm_lt_some hf
  refine me_iastH (q := 10) C eg5 dX12_comes_9 eu2 k3 k4 rfl ?_
  refine me_aload_n (q := 11) C dX12_comes_10 rfl rfl rfl ?_
  refine me_getR (q := 14) C dX12_comes_11 mf_X12_35 rfl rfl (mm_kI eg5 k1) rfl ?_
  refine me_aload_n (q := 15) C dX12_comes_14 rfl rfl rfl ?_
  refine me_getI (q := 18) C dX12_comes_15 mf_X12_288 rfl rfl (mm_kI eg5 k1) rfl ?_
  refine me_iload_n (q := 19) C dX12_comes_18 rfl rfl rfl ?_
  obtain ⟨u6, eu6, hf⟩ := mm_rf_some hf
  obtain ⟨k7, hf⟩ := mm_ck_some hf
  obtain ⟨k8, hf⟩ := mm_ck_some hf
  obtain ⟨g9, eg9, hf⟩ := mm_lt_some hf
  refine me_iastH (q := 20) C eg9 dX12_comes_19 eu6 k7 k8 rfl ?_
  refine me_aload_n (q := 21) C dX12_comes_20 rfl rfl rfl ?_
  refine me_getR (q := 24) C dX12_comes_21 mf_X12_38 rfl rfl (mm_kI eg9 (mm_kI eg5 k1)) rfl ?_
  refine me_aload_n (q := 25) C dX12_comes_24 rfl rfl rfl ?_
  refine me_getI (q := 28) C dX12_comes_25 mf_X12_288 rfl rfl (mm_kI eg9 (mm_kI eg5 k1)) rfl ?_
  refine me_iload_n (q := 29) C dX12_comes_28 rfl rfl rfl ?_
  obtain ⟨u10, eu10, hf⟩ := mm_rf_some hf
  obtain ⟨k11, hf⟩ := mm_ck_some hf
  obtain ⟨k12, hf⟩ := mm_ck_some hf
  obtain ⟨g13, eg13, hf⟩ := mm_lt_some hf
  refine me_iastH (q := 30) C eg13 dX12_comes_29 eu10 k11 k12 rfl ?_
  refine me_aload_n (q := 31) C dX12_comes_30 rfl rfl rfl ?_
  refine me_getR (q := 34) C dX12_comes_31 mf_X12_41 rfl rfl (mm_kI eg13 (mm_kI eg9 (mm_kI eg5 k1))) rfl ?_
  refine me_aload_n (q := 35) C dX12_comes_34 rfl rfl rfl ?_
  refine me_getI (q := 38) C dX12_comes_35 mf_X12_288 rfl rfl (mm_kI eg13 (mm_kI eg9 (mm_kI eg5 k1))) rfl ?_
  refine me_iload (q := 40) C dX12_comes_38 rfl rfl ?_
  obtain ⟨u14, eu14, hf⟩ := mm_rf_some hf
  obtain ⟨k15, hf⟩ := mm_ck_some hf
  obtain ⟨k16, hf⟩ := mm_ck_some hf
  obtain ⟨g17, eg17, hf⟩ := mm_lt_some hf
  refine me_iastH (q := 41) C eg17 dX12_comes_40 eu14 k15 k16 rfl ?_
  refine me_aload_n (q := 42) C dX12_comes_41 rfl rfl rfl ?_
  refine me_getR (q := 45) C dX12_comes_42 mf_X12_44 rfl rfl (mm_kI eg17 (mm_kI eg13 (mm_kI eg9 (mm_kI eg5 k1)))) rfl ?_
  refine me_aload_n (q := 46) C dX12_comes_45 rfl rfl rfl ?_
  refine me_getI (q := 49) C dX12_comes_46 mf_X12_288 rfl rfl (mm_kI eg17 (mm_kI eg13 (mm_kI eg9 (mm_kI eg5 k1)))) rfl ?_
  refine me_iload_n (q := 50) C dX12_comes_49 rfl rfl rfl ?_
  obtain ⟨u18, eu18, hf⟩ := mm_rf_some hf
  obtain ⟨k19, hf⟩ := mm_ck_some hf
  obtain ⟨k20, hf⟩ := mm_ck_some hf
  obtain ⟨g21, eg21, hf⟩ := mm_lt_some hf
  refine me_iastH (q := 51) C eg21 dX12_comes_50 eu18 k19 k20 rfl ?_
  refine me_aload_n (q := 52) C dX12_comes_51 rfl rfl rfl ?_
  refine me_dup (q := 53) C dX12_comes_52 rfl rfl ?_
  refine me_getI (q := 56) C dX12_comes_53 mf_X12_288 rfl rfl (mm_kI eg21 (mm_kI eg17 (mm_kI eg13 (mm_kI eg9 (mm_kI eg5 k1))))) rfl ?_
  refine me_iconst (v := (1 : Int32)) (q := 57) C dX12_comes_56 (by decide) rfl ?_
  refine me_iadd (q := 58) C dX12_comes_57 rfl ?_
  obtain ⟨g22, eg22, hf⟩ := mm_lt_some hf
  refine me_putI (q := 61) C eg22 dX12_comes_58 mf_X12_288 mp_X12_13_10 rfl (by decide) rfl (mm_kI eg21 (mm_kI eg17 (mm_kI eg13 (mm_kI eg9 (mm_kI eg5 k1))))) rfl ?_
  refine me_aload_n (q := 62) C dX12_comes_61 rfl rfl rfl ?_
  refine me_getI (q := 65) C dX12_comes_62 mf_X12_288 rfl rfl (mm_kI eg22 (mm_kI eg21 (mm_kI eg17 (mm_kI eg13 (mm_kI eg9 (mm_kI eg5 k1)))))) rfl ?_
  refine me_iconst (v := (1 : Int32)) (q := 66) C dX12_comes_65 (by decide) rfl ?_
  refine me_isub (q := 67) C dX12_comes_66 rfl ?_
  exact me_iret C hE (Nat.le_of_ble_eq_true rfl) (Nat.le_of_ble_eq_true rfl) rfl dX12_comes_67 (mm_ri hf)
set_option maxRecDepth 100000 in
set_option maxHeartbeats 4000000 in
theorem cX12_bring_ok (l : Launch) {a0 : Nat} {a1 : Int32} {a2 : Int32} {a3 : Int32} {h : mm_H} {r : Int32} {h1 : mm_H} (hf : fX12_bring a0 a1 a2 a3 h = some (r, h1)) : mm_M l yX12_bring cX12_bring 4 (some .int) 8 0 0 [vR (some a0), vI a1, vI a2, vI a3] h (some (vI r)) h1 := by
  refine mm_enter (lv := [some (vR (some a0)), some (vI a1), some (vI a2), some (vI a3)]) (by decide) rfl (Nat.le_of_ble_eq_true rfl) ?_
  intro X hl C hE
  subst hl
  unfold fX12_bring at hf
  refine me_aload_n (q := 1) C dX12_bring_0 rfl rfl rfl ?_
  obtain ⟨k1, hf⟩ := mm_ck_some hf
  refine me_getI (q := 4) C dX12_bring_1 mf_X12_288 rfl rfl k1 rfl ?_
  refine me_sipush (v := (200 : Int32)) (q := 7) C dX12_bring_4 (by decide) rfl ?_
  refine me_icmp_eq (q2 := 39) (q := 10) C dX12_bring_7 (by decide) rfl (fun c2 => ?_) (fun c2 => ?_)
  · have hf := mm_if_t c2 hf
    refine me_iconst (v := (-1 : Int32)) (q := 40) C dX12_bring_39 (by decide) rfl ?_
    refine me_goto (q := 51) C dX12_bring_40 (by decide) ?_
    exact me_iret C hE (Nat.le_of_ble_eq_true rfl) (Nat.le_of_ble_eq_true rfl) rfl dX12_bring_51 (mm_ri hf)
  · have hf := mm_if_f c2 hf
    refine me_aload_n (q := 11) C dX12_bring_10 rfl rfl rfl ?_
    refine me_iload_n (q := 12) C dX12_bring_11 rfl rfl rfl ?_
    obtain ⟨v3, g4, e5, hf⟩ := mm_cl_some hf
    refine me_callV (q := 15) (c2 := 0) (s2 := 0) (st := []) C (cX12_isThere_ok _ e5) mt_X12_285 mv_X12_isThere rfl (by decide) dX12_bring_12 rfl k1 rfl rfl rfl (Nat.le_of_ble_eq_true rfl) rfl (Nat.le_of_ble_eq_true rfl) rfl (Nat.le_of_ble_eq_true rfl) rfl rfl ?_
    refine me_if_eq (q2 := 39) (q := 18) C dX12_bring_15 (by decide) rfl (fun c6 => ?_) (fun c6 => ?_)
    · have hf := mm_if_t c6 hf
      refine me_iconst (v := (-1 : Int32)) (q := 40) C dX12_bring_39 (by decide) rfl ?_
      refine me_goto (q := 51) C dX12_bring_40 (by decide) ?_
      exact me_iret C hE (Nat.le_of_ble_eq_true rfl) (Nat.le_of_ble_eq_true rfl) rfl dX12_bring_51 (mm_ri hf)
    · have hf := mm_if_f c6 hf
      refine me_iload_n (q := 19) C dX12_bring_18 rfl rfl rfl ?_
      refine me_iconst (v := (0 : Int32)) (q := 20) C dX12_bring_19 (by decide) rfl ?_
      refine me_bipush (v := (7 : Int32)) (q := 22) C dX12_bring_20 (by decide) rfl ?_
      obtain ⟨v7, g8, e9, hf⟩ := mm_cl_some hf
      refine me_callS (q := 25) (c2 := 0) (s2 := 0) (st := []) C (cX12_in_ok _ e9) mt_X12_269 ms_X12_in dX12_bring_22 rfl rfl rfl (Nat.le_of_ble_eq_true rfl) rfl (Nat.le_of_ble_eq_true rfl) rfl (Nat.le_of_ble_eq_true rfl) rfl rfl ?_
      refine me_if_eq (q2 := 39) (q := 28) C dX12_bring_25 (by decide) rfl (fun c10 => ?_) (fun c10 => ?_)
      · have hf := mm_if_t c10 hf
        refine me_iconst (v := (-1 : Int32)) (q := 40) C dX12_bring_39 (by decide) rfl ?_
        refine me_goto (q := 51) C dX12_bring_40 (by decide) ?_
        exact me_iret C hE (Nat.le_of_ble_eq_true rfl) (Nat.le_of_ble_eq_true rfl) rfl dX12_bring_51 (mm_ri hf)
      · have hf := mm_if_f c10 hf
        refine me_iload_n (q := 29) C dX12_bring_28 rfl rfl rfl ?_
        refine me_iconst (v := (1 : Int32)) (q := 30) C dX12_bring_29 (by decide) rfl ?_
        refine me_ldc_w (v := (100000 : Int32)) (q := 33) C dX12_bring_30 mc_X12_280 rfl ?_
        obtain ⟨v11, g12, e13, hf⟩ := mm_cl_some hf
        refine me_callS (q := 36) (c2 := 0) (s2 := 0) (st := []) C (cX12_in_ok _ e13) mt_X12_269 ms_X12_in dX12_bring_33 rfl rfl rfl (Nat.le_of_ble_eq_true rfl) rfl (Nat.le_of_ble_eq_true rfl) rfl (Nat.le_of_ble_eq_true rfl) rfl rfl ?_
        refine me_if_ne (q2 := 43) (q := 39) C dX12_bring_36 (by decide) rfl (fun c14 => ?_) (fun c14 => ?_)
        · have hf := mm_if_t c14 hf
          refine me_aload_n (q := 44) C dX12_bring_43 rfl rfl rfl ?_
          refine me_iload_n (q := 45) C dX12_bring_44 rfl rfl rfl ?_
          refine me_iload_n (q := 46) C dX12_bring_45 rfl rfl rfl ?_
          refine me_iload_n (q := 47) C dX12_bring_46 rfl rfl rfl ?_
          refine me_iconst (v := (-1 : Int32)) (q := 48) C dX12_bring_47 (by decide) rfl ?_
          obtain ⟨k15, hf⟩ := mm_ck_some hf
          obtain ⟨v16, g17, e18, hf⟩ := mm_cl_some hf
          refine me_callV (q := 51) (c2 := 0) (s2 := 0) (st := []) C (cX12_comes_ok _ e18) mt_X12_291 mv_X12_comes rfl (by decide) dX12_bring_48 rfl k15 rfl rfl rfl (Nat.le_of_ble_eq_true rfl) rfl (Nat.le_of_ble_eq_true rfl) rfl (Nat.le_of_ble_eq_true rfl) rfl rfl ?_
          exact me_iret C hE (Nat.le_of_ble_eq_true rfl) (Nat.le_of_ble_eq_true rfl) rfl dX12_bring_51 (mm_ri hf)
        · have hf := mm_if_f c14 hf
          refine me_iconst (v := (-1 : Int32)) (q := 40) C dX12_bring_39 (by decide) rfl ?_
          refine me_goto (q := 51) C dX12_bring_40 (by decide) ?_
          exact me_iret C hE (Nat.le_of_ble_eq_true rfl) (Nat.le_of_ble_eq_true rfl) rfl dX12_bring_51 (mm_ri hf)
set_option maxRecDepth 100000 in
set_option maxHeartbeats 4000000 in
theorem cX12_isLot_ok (l : Launch) {a0 : Nat} {a1 : Int32} {h : mm_H} {r : Int32} {h1 : mm_H} (hf : fX12_isLot a0 a1 h = some (r, h1)) : mm_M l yX12_isLot cX12_isLot 2 (some .boolean) 4 0 0 [vR (some a0), vI a1] h (some (vI r)) h1 := by
  refine mm_enter (lv := [some (vR (some a0)), some (vI a1)]) (by decide) rfl (Nat.le_of_ble_eq_true rfl) ?_
  intro X hl C hE
  subst hl
  unfold fX12_isLot at hf
  refine me_iload_n (q := 1) C dX12_isLot_0 rfl rfl rfl ?_
  refine me_iconst (v := (0 : Int32)) (q := 2) C dX12_isLot_1 (by decide) rfl ?_
  refine me_aload_n (q := 3) C dX12_isLot_2 rfl rfl rfl ?_
  obtain ⟨k1, hf⟩ := mm_ck_some hf
  refine me_getI (q := 6) C dX12_isLot_3 mf_X12_288 rfl rfl k1 rfl ?_
  refine me_iconst (v := (1 : Int32)) (q := 7) C dX12_isLot_6 (by decide) rfl ?_
  refine me_isub (q := 8) C dX12_isLot_7 rfl ?_
  obtain ⟨v2, g3, e4, hf⟩ := mm_cl_some hf
  refine me_callS (q := 11) (c2 := 0) (s2 := 0) (st := []) C (cX12_in_ok _ e4) mt_X12_269 ms_X12_in dX12_isLot_8 rfl rfl rfl (Nat.le_of_ble_eq_true rfl) rfl (Nat.le_of_ble_eq_true rfl) rfl (Nat.le_of_ble_eq_true rfl) rfl rfl ?_
  obtain ⟨k5, hf⟩ := mm_ck_some hf
  exact me_zret C hE (Nat.le_of_ble_eq_true rfl) (Nat.le_of_ble_eq_true rfl) rfl k5 dX12_isLot_11 (mm_ri hf)
set_option maxRecDepth 100000 in
set_option maxHeartbeats 4000000 in
theorem cX12_lot_ok (l : Launch) {a0 : Nat} {a1 : Int32} {a2 : Int32} {h : mm_H} {r : Int32} {h1 : mm_H} (hf : fX12_lot a0 a1 a2 h = some (r, h1)) : mm_M l yX12_lot cX12_lot 3 (some .int) 6 0 0 [vR (some a0), vI a1, vI a2] h (some (vI r)) h1 := by
  refine mm_enter (lv := [some (vR (some a0)), some (vI a1), some (vI a2)]) (by decide) rfl (Nat.le_of_ble_eq_true rfl) ?_
  intro X hl C hE
  subst hl
  unfold fX12_lot at hf
  refine me_aload_n (q := 1) C dX12_lot_0 rfl rfl rfl ?_
  refine me_iload_n (q := 2) C dX12_lot_1 rfl rfl rfl ?_
  obtain ⟨k1, hf⟩ := mm_ck_some hf
  obtain ⟨v2, g3, e4, hf⟩ := mm_cl_some hf
  refine me_callV (q := 5) (c2 := 0) (s2 := 0) (st := []) C (cX12_isLot_ok _ e4) mt_X12_295 mv_X12_isLot rfl (by decide) dX12_lot_2 rfl k1 rfl rfl rfl (Nat.le_of_ble_eq_true rfl) rfl (Nat.le_of_ble_eq_true rfl) rfl (Nat.le_of_ble_eq_true rfl) rfl rfl ?_
  refine me_if_ne (q2 := 10) (q := 8) C dX12_lot_5 (by decide) rfl (fun c5 => ?_) (fun c5 => ?_)
  · have hf := mm_if_t c5 hf
    refine me_iload_n (q := 11) C dX12_lot_10 rfl rfl rfl ?_
    by_cases c6 : a2 = 0
    · have hf := mm_if_t c6 hf
      refine me_tabIn (q := 44) C dX12_lot_11 (by rw [c6]; decide) (by rw [c6]; decide) (by rw [c6]; rfl) (by decide) ?_
      refine me_aload_n (q := 45) C dX12_lot_44 rfl rfl rfl ?_
      obtain ⟨k7, hf⟩ := mm_ck_some hf
      refine me_getR (q := 48) C dX12_lot_45 mf_X12_32 rfl rfl k7 rfl ?_
      refine me_iload_n (q := 49) C dX12_lot_48 rfl rfl rfl ?_
      obtain ⟨u8, eu8, hf⟩ := mm_rf_some hf
      obtain ⟨k9, hf⟩ := mm_ck_some hf
      obtain ⟨k10, hf⟩ := mm_ck_some hf
      refine me_iald (q := 50) C dX12_lot_49 eu8 k9 k10 rfl ?_
      exact me_iret C hE (Nat.le_of_ble_eq_true rfl) (Nat.le_of_ble_eq_true rfl) rfl dX12_lot_50 (mm_ri hf)
    have hf := mm_if_f c6 hf
    by_cases c11 : a2 = 1
    · have hf := mm_if_t c11 hf
      refine me_tabIn (q := 51) C dX12_lot_11 (by rw [c11]; decide) (by rw [c11]; decide) (by rw [c11]; rfl) (by decide) ?_
      refine me_aload_n (q := 52) C dX12_lot_51 rfl rfl rfl ?_
      obtain ⟨k12, hf⟩ := mm_ck_some hf
      refine me_getR (q := 55) C dX12_lot_52 mf_X12_35 rfl rfl k12 rfl ?_
      refine me_iload_n (q := 56) C dX12_lot_55 rfl rfl rfl ?_
      obtain ⟨u13, eu13, hf⟩ := mm_rf_some hf
      obtain ⟨k14, hf⟩ := mm_ck_some hf
      obtain ⟨k15, hf⟩ := mm_ck_some hf
      refine me_iald (q := 57) C dX12_lot_56 eu13 k14 k15 rfl ?_
      exact me_iret C hE (Nat.le_of_ble_eq_true rfl) (Nat.le_of_ble_eq_true rfl) rfl dX12_lot_57 (mm_ri hf)
    have hf := mm_if_f c11 hf
    by_cases c16 : a2 = 2
    · have hf := mm_if_t c16 hf
      refine me_tabIn (q := 58) C dX12_lot_11 (by rw [c16]; decide) (by rw [c16]; decide) (by rw [c16]; rfl) (by decide) ?_
      refine me_aload_n (q := 59) C dX12_lot_58 rfl rfl rfl ?_
      obtain ⟨k17, hf⟩ := mm_ck_some hf
      refine me_getR (q := 62) C dX12_lot_59 mf_X12_38 rfl rfl k17 rfl ?_
      refine me_iload_n (q := 63) C dX12_lot_62 rfl rfl rfl ?_
      obtain ⟨u18, eu18, hf⟩ := mm_rf_some hf
      obtain ⟨k19, hf⟩ := mm_ck_some hf
      obtain ⟨k20, hf⟩ := mm_ck_some hf
      refine me_iald (q := 64) C dX12_lot_63 eu18 k19 k20 rfl ?_
      exact me_iret C hE (Nat.le_of_ble_eq_true rfl) (Nat.le_of_ble_eq_true rfl) rfl dX12_lot_64 (mm_ri hf)
    have hf := mm_if_f c16 hf
    by_cases c21 : a2 = 3
    · have hf := mm_if_t c21 hf
      refine me_tabIn (q := 65) C dX12_lot_11 (by rw [c21]; decide) (by rw [c21]; decide) (by rw [c21]; rfl) (by decide) ?_
      refine me_aload_n (q := 66) C dX12_lot_65 rfl rfl rfl ?_
      obtain ⟨k22, hf⟩ := mm_ck_some hf
      refine me_getR (q := 69) C dX12_lot_66 mf_X12_41 rfl rfl k22 rfl ?_
      refine me_iload_n (q := 70) C dX12_lot_69 rfl rfl rfl ?_
      obtain ⟨u23, eu23, hf⟩ := mm_rf_some hf
      obtain ⟨k24, hf⟩ := mm_ck_some hf
      obtain ⟨k25, hf⟩ := mm_ck_some hf
      refine me_iald (q := 71) C dX12_lot_70 eu23 k24 k25 rfl ?_
      exact me_iret C hE (Nat.le_of_ble_eq_true rfl) (Nat.le_of_ble_eq_true rfl) rfl dX12_lot_71 (mm_ri hf)
    have hf := mm_if_f c21 hf
    by_cases c26 : a2 = 4
    · have hf := mm_if_t c26 hf
      refine me_tabIn (q := 72) C dX12_lot_11 (by rw [c26]; decide) (by rw [c26]; decide) (by rw [c26]; rfl) (by decide) ?_
      refine me_aload_n (q := 73) C dX12_lot_72 rfl rfl rfl ?_
      obtain ⟨k27, hf⟩ := mm_ck_some hf
      refine me_getR (q := 76) C dX12_lot_73 mf_X12_44 rfl rfl k27 rfl ?_
      refine me_iload_n (q := 77) C dX12_lot_76 rfl rfl rfl ?_
      obtain ⟨u28, eu28, hf⟩ := mm_rf_some hf
      obtain ⟨k29, hf⟩ := mm_ck_some hf
      obtain ⟨k30, hf⟩ := mm_ck_some hf
      refine me_iald (q := 78) C dX12_lot_77 eu28 k29 k30 rfl ?_
      exact me_iret C hE (Nat.le_of_ble_eq_true rfl) (Nat.le_of_ble_eq_true rfl) rfl dX12_lot_78 (mm_ri hf)
    have hf := mm_if_f c26 hf
    refine me_tabOut (q := 79) C dX12_lot_11 ?_ (by decide) ?_
    · by_cases hz : a2.toInt < 0 ∨ 4 < a2.toInt
      · exact hz
      · exfalso
        have hw : a2.toInt = 0 ∨ a2.toInt = 1 ∨ a2.toInt = 2 ∨ a2.toInt = 3 ∨ a2.toInt = 4 := by omega
        rcases hw with hw | hw | hw | hw | hw
        · exact c6 (mm_sw hw)
        · exact c11 (mm_sw hw)
        · exact c16 (mm_sw hw)
        · exact c21 (mm_sw hw)
        · exact c26 (mm_sw hw)
    · refine me_iconst (v := (-1 : Int32)) (q := 80) C dX12_lot_79 (by decide) rfl ?_
      exact me_iret C hE (Nat.le_of_ble_eq_true rfl) (Nat.le_of_ble_eq_true rfl) rfl dX12_lot_80 (mm_ri hf)
  · have hf := mm_if_f c5 hf
    refine me_iconst (v := (-1 : Int32)) (q := 9) C dX12_lot_8 (by decide) rfl ?_
    exact me_iret C hE (Nat.le_of_ble_eq_true rfl) (Nat.le_of_ble_eq_true rfl) rfl dX12_lot_9 (mm_ri hf)
set_option maxRecDepth 100000 in
set_option maxHeartbeats 4000000 in
theorem cX12_put_L3 {X : mm_X} (C : mm_C X cX12_put yX12_put 2 0 0) {r : Unit} {h1 : mm_H} (hE : mm_End X 0 0 none none h1) {b0 : Nat} {b1 : Int32} (K36 : mm_H → Option (Unit × mm_H)) : ∀ (n : Nat) (x2 : Int32) (h : mm_H), fX12_put_L3 b0 b1 K36 n x2 h = some (r, h1) → (∀ (h : mm_H), K36 h = some (r, h1) → mm_E X h 0 0 36 [none, none, none] []) → mm_E X h 0 0 3 [some (vR (some b0)), some (vI b1), some (vI x2)] [] := by
  intro n
  induction n with
  | zero =>
    intro x2 h hf
    exact absurd (show (none : Option (Unit × mm_H)) = some (r, h1) from hf) (by simp)
  | succ n ih =>
    intro x2 h hf hk36
    have hf : fX12_put_L3_b b0 b1 K36 (fX12_put_L3 b0 b1 K36 n) x2 h = some (r, h1) := hf
    unfold fX12_put_L3_b at hf
    refine me_iload_n (q := 4) C dX12_put_3 rfl rfl rfl ?_
    refine me_if_lt (q2 := 36) (q := 7) C dX12_put_4 (by decide) rfl (fun c1 => ?_) (fun c1 => ?_)
    · have hf := mm_if_t c1 hf
      refine me_mask [false, false, false] (lv2 := [none, none, none]) rfl ?_
      exact hk36 _ hf
    · have hf := mm_if_f c1 hf
      refine me_aload_n (q := 8) C dX12_put_7 rfl rfl rfl ?_
      obtain ⟨k2, hf⟩ := mm_ck_some hf
      refine me_getR (q := 11) C dX12_put_8 mf_X12_47 rfl rfl k2 rfl ?_
      refine me_aload_n (q := 12) C dX12_put_11 rfl rfl rfl ?_
      refine me_getI (q := 15) C dX12_put_12 mf_X12_298 rfl rfl k2 rfl ?_
      refine me_iload_n (q := 16) C dX12_put_15 rfl rfl rfl ?_
      refine me_iload_n (q := 17) C dX12_put_16 rfl rfl rfl ?_
      refine me_ishr (q := 18) C dX12_put_17 rfl ?_
      refine me_i2b (q := 19) C dX12_put_18 rfl ?_
      obtain ⟨u3, eu3, hf⟩ := mm_rf_some hf
      obtain ⟨k4, hf⟩ := mm_ck_some hf
      obtain ⟨k5, hf⟩ := mm_ck_some hf
      obtain ⟨g6, eg6, hf⟩ := mm_lt_some hf
      refine me_bastH (q := 20) C eg6 dX12_put_19 eu3 k4 k5 rfl ?_
      refine me_aload_n (q := 21) C dX12_put_20 rfl rfl rfl ?_
      refine me_dup (q := 22) C dX12_put_21 rfl rfl ?_
      refine me_getI (q := 25) C dX12_put_22 mf_X12_298 rfl rfl (mm_kI eg6 k2) rfl ?_
      refine me_iconst (v := (1 : Int32)) (q := 26) C dX12_put_25 (by decide) rfl ?_
      refine me_iadd (q := 27) C dX12_put_26 rfl ?_
      obtain ⟨g7, eg7, hf⟩ := mm_lt_some hf
      refine me_putI (q := 30) C eg7 dX12_put_27 mf_X12_298 mp_X12_13_17 rfl (by decide) rfl (mm_kI eg6 k2) rfl ?_
      obtain ⟨v8, ev8, hf⟩ := mm_lt_some hf
      refine me_iinc (q := 33) (v := v8) (lv2 := [some (vR (some b0)), some (vI b1), some (vI v8)]) C dX12_put_30 rfl (by rw [ev8]; rfl) (Nat.le_of_ble_eq_true rfl) rfl rfl rfl ?_
      refine me_goto (q := 3) C dX12_put_33 (by decide) ?_
      exact ih _ _ hf hk36
set_option maxRecDepth 100000 in
set_option maxHeartbeats 4000000 in
theorem cX12_put_ok (l : Launch) {a0 : Nat} {a1 : Int32} {h : mm_H} {r : Unit} {h1 : mm_H} (hf : fX12_put a0 a1 h = some (r, h1)) : mm_M l yX12_put cX12_put 3 none 2 0 0 [vR (some a0), vI a1] h none h1 := by
  refine mm_enter (lv := [some (vR (some a0)), some (vI a1), none]) (by decide) rfl (Nat.le_of_ble_eq_true rfl) ?_
  intro X hl C hE
  subst hl
  unfold fX12_put at hf
  refine me_bipush (v := (24 : Int32)) (q := 2) C dX12_put_0 (by decide) rfl ?_
  refine me_istore_n (q := 3) (lv2 := [some (vR (some a0)), some (vI a1), some (vI (24 : Int32))]) C dX12_put_2 rfl (Nat.le_of_ble_eq_true rfl) rfl rfl rfl ?_
  refine cX12_put_L3 C hE _ _ _ _ hf ?_
  · intro g9 hf
    exact me_vret C hE (Nat.le_of_ble_eq_true rfl) (Nat.le_of_ble_eq_true rfl) rfl dX12_put_36 (mm_ru hf)
set_option maxRecDepth 100000 in
set_option maxHeartbeats 4000000 in
theorem cX12_feed_ok (l : Launch) {a0 : Nat} {a1 : Int32} {a2 : Int32} {a3 : Int32} {a4 : Int32} {a5 : Int32} {h : mm_H} {r : Int32} {h1 : mm_H} (hf : fX12_feed a0 a1 a2 a3 a4 a5 h = some (r, h1)) : mm_M l yX12_feed cX12_feed 6 (some .int) 4 0 0 [vR (some a0), vI a1, vI a2, vI a3, vI a4, vI a5] h (some (vI r)) h1 := by
  refine mm_enter (lv := [some (vR (some a0)), some (vI a1), some (vI a2), some (vI a3), some (vI a4), some (vI a5)]) (by decide) rfl (Nat.le_of_ble_eq_true rfl) ?_
  intro X hl C hE
  subst hl
  unfold fX12_feed at hf
  refine me_aload_n (q := 1) C dX12_feed_0 rfl rfl rfl ?_
  obtain ⟨k1, hf⟩ := mm_ck_some hf
  refine me_getI (q := 4) C dX12_feed_1 mf_X12_298 rfl rfl k1 rfl ?_
  refine me_bipush (v := (20 : Int32)) (q := 6) C dX12_feed_4 (by decide) rfl ?_
  refine me_iadd (q := 7) C dX12_feed_6 rfl ?_
  refine me_sipush (v := (400 : Int32)) (q := 10) C dX12_feed_7 (by decide) rfl ?_
  refine me_icmp_le (q2 := 15) (q := 13) C dX12_feed_10 (by decide) rfl (fun c2 => ?_) (fun c2 => ?_)
  · have hf := mm_if_t c2 hf
    refine me_aload_n (q := 16) C dX12_feed_15 rfl rfl rfl ?_
    refine me_iload_n (q := 17) C dX12_feed_16 rfl rfl rfl ?_
    obtain ⟨_, g3, e4, hf⟩ := mm_cl_some hf
    refine me_callV (q := 20) (c2 := 0) (s2 := 0) (st := []) C (cX12_put_ok _ e4) mt_X12_301 mv_X12_put rfl (by decide) dX12_feed_17 rfl k1 rfl rfl rfl (Nat.le_of_ble_eq_true rfl) rfl (Nat.le_of_ble_eq_true rfl) rfl (Nat.le_of_ble_eq_true rfl) rfl rfl ?_
    refine me_aload_n (q := 21) C dX12_feed_20 rfl rfl rfl ?_
    refine me_iload_n (q := 22) C dX12_feed_21 rfl rfl rfl ?_
    obtain ⟨k5, hf⟩ := mm_ck_some hf
    obtain ⟨_, g6, e7, hf⟩ := mm_cl_some hf
    refine me_callV (q := 25) (c2 := 0) (s2 := 0) (st := []) C (cX12_put_ok _ e7) mt_X12_301 mv_X12_put rfl (by decide) dX12_feed_22 rfl k5 rfl rfl rfl (Nat.le_of_ble_eq_true rfl) rfl (Nat.le_of_ble_eq_true rfl) rfl (Nat.le_of_ble_eq_true rfl) rfl rfl ?_
    refine me_aload_n (q := 26) C dX12_feed_25 rfl rfl rfl ?_
    refine me_iload_n (q := 27) C dX12_feed_26 rfl rfl rfl ?_
    obtain ⟨k8, hf⟩ := mm_ck_some hf
    obtain ⟨_, g9, e10, hf⟩ := mm_cl_some hf
    refine me_callV (q := 30) (c2 := 0) (s2 := 0) (st := []) C (cX12_put_ok _ e10) mt_X12_301 mv_X12_put rfl (by decide) dX12_feed_27 rfl k8 rfl rfl rfl (Nat.le_of_ble_eq_true rfl) rfl (Nat.le_of_ble_eq_true rfl) rfl (Nat.le_of_ble_eq_true rfl) rfl rfl ?_
    refine me_aload_n (q := 31) C dX12_feed_30 rfl rfl rfl ?_
    refine me_iload (q := 33) C dX12_feed_31 rfl rfl ?_
    obtain ⟨k11, hf⟩ := mm_ck_some hf
    obtain ⟨_, g12, e13, hf⟩ := mm_cl_some hf
    refine me_callV (q := 36) (c2 := 0) (s2 := 0) (st := []) C (cX12_put_ok _ e13) mt_X12_301 mv_X12_put rfl (by decide) dX12_feed_33 rfl k11 rfl rfl rfl (Nat.le_of_ble_eq_true rfl) rfl (Nat.le_of_ble_eq_true rfl) rfl (Nat.le_of_ble_eq_true rfl) rfl rfl ?_
    refine me_aload_n (q := 37) C dX12_feed_36 rfl rfl rfl ?_
    refine me_iload (q := 39) C dX12_feed_37 rfl rfl ?_
    obtain ⟨k14, hf⟩ := mm_ck_some hf
    obtain ⟨_, g15, e16, hf⟩ := mm_cl_some hf
    refine me_callV (q := 42) (c2 := 0) (s2 := 0) (st := []) C (cX12_put_ok _ e16) mt_X12_301 mv_X12_put rfl (by decide) dX12_feed_39 rfl k14 rfl rfl rfl (Nat.le_of_ble_eq_true rfl) rfl (Nat.le_of_ble_eq_true rfl) rfl (Nat.le_of_ble_eq_true rfl) rfl rfl ?_
    refine me_aload_n (q := 43) C dX12_feed_42 rfl rfl rfl ?_
    obtain ⟨k17, hf⟩ := mm_ck_some hf
    refine me_getI (q := 46) C dX12_feed_43 mf_X12_298 rfl rfl k17 rfl ?_
    exact me_iret C hE (Nat.le_of_ble_eq_true rfl) (Nat.le_of_ble_eq_true rfl) rfl dX12_feed_46 (mm_ri hf)
  · have hf := mm_if_f c2 hf
    refine me_iconst (v := (-1 : Int32)) (q := 14) C dX12_feed_13 (by decide) rfl ?_
    exact me_iret C hE (Nat.le_of_ble_eq_true rfl) (Nat.le_of_ble_eq_true rfl) rfl dX12_feed_14 (mm_ri hf)
set_option maxRecDepth 100000 in
set_option maxHeartbeats 4000000 in
theorem cX12_end_ok (l : Launch) {a0 : Nat} {a1 : Int32} {h : mm_H} {r : Int32} {h1 : mm_H} (hf : fX12_end a0 a1 h = some (r, h1)) : mm_M l yX12_end cX12_end 2 (some .int) 2 0 0 [vR (some a0), vI a1] h (some (vI r)) h1 := by
  refine mm_enter (lv := [some (vR (some a0)), some (vI a1)]) (by decide) rfl (Nat.le_of_ble_eq_true rfl) ?_
  intro X hl C hE
  subst hl
  unfold fX12_end at hf
  refine me_iload_n (q := 1) C dX12_end_0 rfl rfl rfl ?_
  refine me_if_lt (q2 := 12) (q := 4) C dX12_end_1 (by decide) rfl (fun c1 => ?_) (fun c1 => ?_)
  · have hf := mm_if_t c1 hf
    refine me_iconst (v := (-1 : Int32)) (q := 13) C dX12_end_12 (by decide) rfl ?_
    exact me_iret C hE (Nat.le_of_ble_eq_true rfl) (Nat.le_of_ble_eq_true rfl) rfl dX12_end_13 (mm_ri hf)
  · have hf := mm_if_f c1 hf
    refine me_iload_n (q := 5) C dX12_end_4 rfl rfl rfl ?_
    refine me_aload_n (q := 6) C dX12_end_5 rfl rfl rfl ?_
    obtain ⟨k2, hf⟩ := mm_ck_some hf
    refine me_getI (q := 9) C dX12_end_6 mf_X12_298 rfl rfl k2 rfl ?_
    refine me_icmp_le (q2 := 14) (q := 12) C dX12_end_9 (by decide) rfl (fun c3 => ?_) (fun c3 => ?_)
    · have hf := mm_if_t c3 hf
      refine me_aload_n (q := 15) C dX12_end_14 rfl rfl rfl ?_
      refine me_iload_n (q := 16) C dX12_end_15 rfl rfl rfl ?_
      obtain ⟨g4, eg4, hf⟩ := mm_lt_some hf
      refine me_putI (q := 19) C eg4 dX12_end_16 mf_X12_298 mp_X12_13_17 rfl (by decide) rfl k2 rfl ?_
      refine me_iload_n (q := 20) C dX12_end_19 rfl rfl rfl ?_
      exact me_iret C hE (Nat.le_of_ble_eq_true rfl) (Nat.le_of_ble_eq_true rfl) rfl dX12_end_20 (mm_ri hf)
    · have hf := mm_if_f c3 hf
      refine me_iconst (v := (-1 : Int32)) (q := 13) C dX12_end_12 (by decide) rfl ?_
      exact me_iret C hE (Nat.le_of_ble_eq_true rfl) (Nat.le_of_ble_eq_true rfl) rfl dX12_end_13 (mm_ri hf)
set_option maxRecDepth 100000 in
set_option maxHeartbeats 4000000 in
theorem cX12_fails_ok (l : Launch) {a0 : Nat} {a1 : Int32} {a2 : Int32} {h : mm_H} {r : Unit} {h1 : mm_H} (hf : fX12_fails a0 a1 a2 h = some (r, h1)) : mm_M l yX12_fails cX12_fails 3 none 2 0 0 [vR (some a0), vI a1, vI a2] h none h1 := by
  refine mm_enter (lv := [some (vR (some a0)), some (vI a1), some (vI a2)]) (by decide) rfl (Nat.le_of_ble_eq_true rfl) ?_
  intro X hl C hE
  subst hl
  unfold fX12_fails at hf
  refine me_aload_n (q := 1) C dX12_fails_0 rfl rfl rfl ?_
  obtain ⟨k1, hf⟩ := mm_ck_some hf
  refine me_getI (q := 4) C dX12_fails_1 mf_X12_305 rfl rfl k1 rfl ?_
  refine me_if_ne (q2 := 19) (q := 7) C dX12_fails_4 (by decide) rfl (fun c2 => ?_) (fun c2 => ?_)
  · have hf := mm_if_t c2 hf
    exact me_vret C hE (Nat.le_of_ble_eq_true rfl) (Nat.le_of_ble_eq_true rfl) rfl dX12_fails_19 (mm_ru hf)
  · have hf := mm_if_f c2 hf
    refine me_aload_n (q := 8) C dX12_fails_7 rfl rfl rfl ?_
    refine me_iconst (v := (1 : Int32)) (q := 9) C dX12_fails_8 (by decide) rfl ?_
    refine me_bipush (v := (8 : Int32)) (q := 11) C dX12_fails_9 (by decide) rfl ?_
    refine me_iload_n (q := 12) C dX12_fails_11 rfl rfl rfl ?_
    refine me_imul (q := 13) C dX12_fails_12 rfl ?_
    refine me_iadd (q := 14) C dX12_fails_13 rfl ?_
    refine me_iload_n (q := 15) C dX12_fails_14 rfl rfl rfl ?_
    refine me_iadd (q := 16) C dX12_fails_15 rfl ?_
    obtain ⟨g3, eg3, hf⟩ := mm_lt_some hf
    refine me_putI (q := 19) C eg3 dX12_fails_16 mf_X12_305 mp_X12_13_20 rfl (by decide) rfl k1 rfl ?_
    exact me_vret C hE (Nat.le_of_ble_eq_true rfl) (Nat.le_of_ble_eq_true rfl) rfl dX12_fails_19 (mm_ru hf)
set_option maxRecDepth 100000 in
set_option maxHeartbeats 4000000 in
theorem cX12_blanks_L0 {X : mm_X} (C : mm_C X cX12_blanks yX12_blanks 2 0 0) {r : Unit} {h1 : mm_H} (hE : mm_End X 0 0 none none h1) {b0 : Nat} (K38 : mm_H → Option (Unit × mm_H)) : ∀ (n : Nat) (h : mm_H), fX12_blanks_L0 b0 K38 n h = some (r, h1) → (∀ (h : mm_H), K38 h = some (r, h1) → mm_E X h 0 0 38 [some (vR (some b0))] []) → mm_E X h 0 0 0 [some (vR (some b0))] [] := by
  intro n
  induction n with
  | zero =>
    intro h hf
    exact absurd (show (none : Option (Unit × mm_H)) = some (r, h1) from hf) (by simp)
  | succ n ih =>
    intro h hf hk38
    have hf : fX12_blanks_L0_b b0 K38 (fX12_blanks_L0 b0 K38 n) h = some (r, h1) := hf
    unfold fX12_blanks_L0_b at hf
    refine me_aload_n (q := 1) C dX12_blanks_0 rfl rfl rfl ?_
    obtain ⟨k1, hf⟩ := mm_ck_some hf
    refine me_getI (q := 4) C dX12_blanks_1 mf_X12_308 rfl rfl k1 rfl ?_
    refine me_aload_n (q := 5) C dX12_blanks_4 rfl rfl rfl ?_
    refine me_getI (q := 8) C dX12_blanks_5 mf_X12_298 rfl rfl k1 rfl ?_
    refine me_icmp_ge (q2 := 38) (q := 11) C dX12_blanks_8 (by decide) rfl (fun c2 => ?_) (fun c2 => ?_)
    · have hf := mm_if_t c2 hf
      exact hk38 _ hf
    · have hf := mm_if_f c2 hf
      refine me_aload_n (q := 12) C dX12_blanks_11 rfl rfl rfl ?_
      refine me_getR (q := 15) C dX12_blanks_12 mf_X12_47 rfl rfl k1 rfl ?_
      refine me_aload_n (q := 16) C dX12_blanks_15 rfl rfl rfl ?_
      refine me_getI (q := 19) C dX12_blanks_16 mf_X12_308 rfl rfl k1 rfl ?_
      obtain ⟨u3, eu3, hf⟩ := mm_rf_some hf
      obtain ⟨k4, hf⟩ := mm_ck_some hf
      obtain ⟨k5, hf⟩ := mm_ck_some hf
      refine me_bald (q := 20) C dX12_blanks_19 eu3 k4 k5 rfl ?_
      refine me_bipush (v := (32 : Int32)) (q := 22) C dX12_blanks_20 (by decide) rfl ?_
      refine me_icmp_ne (q2 := 38) (q := 25) C dX12_blanks_22 (by decide) rfl (fun c6 => ?_) (fun c6 => ?_)
      · have hf := mm_if_t c6 hf
        exact hk38 _ hf
      · have hf := mm_if_f c6 hf
        refine me_aload_n (q := 26) C dX12_blanks_25 rfl rfl rfl ?_
        refine me_dup (q := 27) C dX12_blanks_26 rfl rfl ?_
        refine me_getI (q := 30) C dX12_blanks_27 mf_X12_308 rfl rfl k1 rfl ?_
        refine me_iconst (v := (1 : Int32)) (q := 31) C dX12_blanks_30 (by decide) rfl ?_
        refine me_iadd (q := 32) C dX12_blanks_31 rfl ?_
        obtain ⟨g7, eg7, hf⟩ := mm_lt_some hf
        refine me_putI (q := 35) C eg7 dX12_blanks_32 mf_X12_308 mp_X12_13_18 rfl (by decide) rfl k1 rfl ?_
        refine me_goto (q := 0) C dX12_blanks_35 (by decide) ?_
        exact ih _ hf hk38
set_option maxRecDepth 100000 in
set_option maxHeartbeats 4000000 in
theorem cX12_blanks_ok (l : Launch) {a0 : Nat} {h : mm_H} {r : Unit} {h1 : mm_H} (hf : fX12_blanks a0 h = some (r, h1)) : mm_M l yX12_blanks cX12_blanks 1 none 2 0 0 [vR (some a0)] h none h1 := by
  refine mm_enter (lv := [some (vR (some a0))]) (by decide) rfl (Nat.le_of_ble_eq_true rfl) ?_
  intro X hl C hE
  subst hl
  unfold fX12_blanks at hf
  refine cX12_blanks_L0 C hE _ _ _ hf ?_
  · intro g8 hf
    refine me_aload_n (q := 39) C dX12_blanks_38 rfl rfl rfl ?_
    refine me_aload_n (q := 40) C dX12_blanks_39 rfl rfl rfl ?_
    obtain ⟨k9, hf⟩ := mm_ck_some hf
    refine me_getI (q := 43) C dX12_blanks_40 mf_X12_308 rfl rfl k9 rfl ?_
    obtain ⟨g10, eg10, hf⟩ := mm_lt_some hf
    refine me_putI (q := 46) C eg10 dX12_blanks_43 mf_X12_311 mp_X12_13_19 rfl (by decide) rfl k9 rfl ?_
    exact me_vret C hE (Nat.le_of_ble_eq_true rfl) (Nat.le_of_ble_eq_true rfl) rfl dX12_blanks_46 (mm_ru hf)
set_option maxRecDepth 100000 in
set_option maxHeartbeats 4000000 in
theorem cX12_sign_ok (l : Launch) {a0 : Nat} {h : mm_H} {r : Int32} {h1 : mm_H} (hf : fX12_sign a0 h = some (r, h1)) : mm_M l yX12_sign cX12_sign 1 (some .int) 2 0 0 [vR (some a0)] h (some (vI r)) h1 := by
  refine mm_enter (lv := [some (vR (some a0))]) (by decide) rfl (Nat.le_of_ble_eq_true rfl) ?_
  intro X hl C hE
  subst hl
  unfold fX12_sign at hf
  refine me_aload_n (q := 1) C dX12_sign_0 rfl rfl rfl ?_
  obtain ⟨k1, hf⟩ := mm_ck_some hf
  refine me_getI (q := 4) C dX12_sign_1 mf_X12_308 rfl rfl k1 rfl ?_
  refine me_aload_n (q := 5) C dX12_sign_4 rfl rfl rfl ?_
  refine me_getI (q := 8) C dX12_sign_5 mf_X12_298 rfl rfl k1 rfl ?_
  refine me_icmp_ge (q2 := 23) (q := 11) C dX12_sign_8 (by decide) rfl (fun c2 => ?_) (fun c2 => ?_)
  · have hf := mm_if_t c2 hf
    refine me_iconst (v := (-1 : Int32)) (q := 24) C dX12_sign_23 (by decide) rfl ?_
    exact me_iret C hE (Nat.le_of_ble_eq_true rfl) (Nat.le_of_ble_eq_true rfl) rfl dX12_sign_24 (mm_ri hf)
  · have hf := mm_if_f c2 hf
    refine me_aload_n (q := 12) C dX12_sign_11 rfl rfl rfl ?_
    refine me_getR (q := 15) C dX12_sign_12 mf_X12_47 rfl rfl k1 rfl ?_
    refine me_aload_n (q := 16) C dX12_sign_15 rfl rfl rfl ?_
    refine me_getI (q := 19) C dX12_sign_16 mf_X12_308 rfl rfl k1 rfl ?_
    obtain ⟨u3, eu3, hf⟩ := mm_rf_some hf
    obtain ⟨k4, hf⟩ := mm_ck_some hf
    obtain ⟨k5, hf⟩ := mm_ck_some hf
    refine me_bald (q := 20) C dX12_sign_19 eu3 k4 k5 rfl ?_
    refine me_goto (q := 24) C dX12_sign_20 (by decide) ?_
    exact me_iret C hE (Nat.le_of_ble_eq_true rfl) (Nat.le_of_ble_eq_true rfl) rfl dX12_sign_24 (mm_ri hf)
set_option maxRecDepth 100000 in
set_option maxHeartbeats 4000000 in
theorem cX12_isDigit_ok (l : Launch) {a0 : Int32} {h : mm_H} {r : Int32} {h1 : mm_H} (hf : fX12_isDigit a0 h = some (r, h1)) : mm_M l yX12_isDigit cX12_isDigit 1 (some .boolean) 2 0 0 [vI a0] h (some (vI r)) h1 := by
  refine mm_enter (lv := [some (vI a0)]) (by decide) rfl (Nat.le_of_ble_eq_true rfl) ?_
  intro X hl C hE
  subst hl
  unfold fX12_isDigit at hf
  refine me_iload_n (q := 1) C dX12_isDigit_0 rfl rfl rfl ?_
  refine me_bipush (v := (48 : Int32)) (q := 3) C dX12_isDigit_1 (by decide) rfl ?_
  refine me_icmp_lt (q2 := 16) (q := 6) C dX12_isDigit_3 (by decide) rfl (fun c1 => ?_) (fun c1 => ?_)
  · have hf := mm_if_t c1 hf
    refine me_iconst (v := (0 : Int32)) (q := 17) C dX12_isDigit_16 (by decide) rfl ?_
    exact me_zret C hE (Nat.le_of_ble_eq_true rfl) (Nat.le_of_ble_eq_true rfl) rfl (Or.inl rfl) dX12_isDigit_17 (mm_ri hf)
  · have hf := mm_if_f c1 hf
    refine me_iload_n (q := 7) C dX12_isDigit_6 rfl rfl rfl ?_
    refine me_bipush (v := (57 : Int32)) (q := 9) C dX12_isDigit_7 (by decide) rfl ?_
    refine me_icmp_gt (q2 := 16) (q := 12) C dX12_isDigit_9 (by decide) rfl (fun c2 => ?_) (fun c2 => ?_)
    · have hf := mm_if_t c2 hf
      refine me_iconst (v := (0 : Int32)) (q := 17) C dX12_isDigit_16 (by decide) rfl ?_
      exact me_zret C hE (Nat.le_of_ble_eq_true rfl) (Nat.le_of_ble_eq_true rfl) rfl (Or.inl rfl) dX12_isDigit_17 (mm_ri hf)
    · have hf := mm_if_f c2 hf
      refine me_iconst (v := (1 : Int32)) (q := 13) C dX12_isDigit_12 (by decide) rfl ?_
      refine me_goto (q := 17) C dX12_isDigit_13 (by decide) ?_
      exact me_zret C hE (Nat.le_of_ble_eq_true rfl) (Nat.le_of_ble_eq_true rfl) rfl (Or.inr rfl) dX12_isDigit_17 (mm_ri hf)
set_option maxRecDepth 100000 in
set_option maxHeartbeats 4000000 in
theorem cX12_wordEnd_L5 {X : mm_X} (C : mm_C X cX12_wordEnd yX12_wordEnd 2 0 0) {r : Int32} {h1 : mm_H} (hE : mm_End X 0 0 (some .int) (some (vI r)) h1) {b0 : Nat} (K41 : Int32 → mm_H → Option (Int32 × mm_H)) : ∀ (n : Nat) (x1 : Int32) (h : mm_H), fX12_wordEnd_L5 b0 K41 n x1 h = some (r, h1) → (∀ (y1 : Int32) (h : mm_H), K41 y1 h = some (r, h1) → mm_E X h 0 0 41 [none, some (vI y1)] []) → mm_E X h 0 0 5 [some (vR (some b0)), some (vI x1)] [] := by
  intro n
  induction n with
  | zero =>
    intro x1 h hf
    exact absurd (show (none : Option (Int32 × mm_H)) = some (r, h1) from hf) (by simp)
  | succ n ih =>
    intro x1 h hf hk41
    have hf : fX12_wordEnd_L5_b b0 K41 (fX12_wordEnd_L5 b0 K41 n) x1 h = some (r, h1) := hf
    unfold fX12_wordEnd_L5_b at hf
    refine me_iload_n (q := 6) C dX12_wordEnd_5 rfl rfl rfl ?_
    refine me_aload_n (q := 7) C dX12_wordEnd_6 rfl rfl rfl ?_
    obtain ⟨k3, hf⟩ := mm_ck_some hf
    refine me_getI (q := 10) C dX12_wordEnd_7 mf_X12_298 rfl rfl k3 rfl ?_
    refine me_icmp_ge (q2 := 41) (q := 13) C dX12_wordEnd_10 (by decide) rfl (fun c4 => ?_) (fun c4 => ?_)
    · have hf := mm_if_t c4 hf
      refine me_mask [false, true] (lv2 := [none, some (vI x1)]) rfl ?_
      exact hk41 _ _ hf
    · have hf := mm_if_f c4 hf
      refine me_aload_n (q := 14) C dX12_wordEnd_13 rfl rfl rfl ?_
      refine me_getR (q := 17) C dX12_wordEnd_14 mf_X12_47 rfl rfl k3 rfl ?_
      refine me_iload_n (q := 18) C dX12_wordEnd_17 rfl rfl rfl ?_
      obtain ⟨u5, eu5, hf⟩ := mm_rf_some hf
      obtain ⟨k6, hf⟩ := mm_ck_some hf
      obtain ⟨k7, hf⟩ := mm_ck_some hf
      refine me_bald (q := 19) C dX12_wordEnd_18 eu5 k6 k7 rfl ?_
      refine me_bipush (v := (97 : Int32)) (q := 21) C dX12_wordEnd_19 (by decide) rfl ?_
      refine me_icmp_lt (q2 := 41) (q := 24) C dX12_wordEnd_21 (by decide) rfl (fun c8 => ?_) (fun c8 => ?_)
      · have hf := mm_if_t c8 hf
        refine me_mask [false, true] (lv2 := [none, some (vI x1)]) rfl ?_
        exact hk41 _ _ hf
      · have hf := mm_if_f c8 hf
        refine me_aload_n (q := 25) C dX12_wordEnd_24 rfl rfl rfl ?_
        refine me_getR (q := 28) C dX12_wordEnd_25 mf_X12_47 rfl rfl k3 rfl ?_
        refine me_iload_n (q := 29) C dX12_wordEnd_28 rfl rfl rfl ?_
        obtain ⟨k9, hf⟩ := mm_ck_some hf
        refine me_bald (q := 30) C dX12_wordEnd_29 eu5 k6 k9 rfl ?_
        refine me_bipush (v := (122 : Int32)) (q := 32) C dX12_wordEnd_30 (by decide) rfl ?_
        refine me_icmp_gt (q2 := 41) (q := 35) C dX12_wordEnd_32 (by decide) rfl (fun c10 => ?_) (fun c10 => ?_)
        · have hf := mm_if_t c10 hf
          refine me_mask [false, true] (lv2 := [none, some (vI x1)]) rfl ?_
          exact hk41 _ _ hf
        · have hf := mm_if_f c10 hf
          obtain ⟨v11, ev11, hf⟩ := mm_lt_some hf
          refine me_iinc (q := 38) (v := v11) (lv2 := [some (vR (some b0)), some (vI v11)]) C dX12_wordEnd_35 rfl (by rw [ev11]; rfl) (Nat.le_of_ble_eq_true rfl) rfl rfl rfl ?_
          refine me_goto (q := 5) C dX12_wordEnd_38 (by decide) ?_
          exact ih _ _ hf hk41
set_option maxRecDepth 100000 in
set_option maxHeartbeats 4000000 in
theorem cX12_wordEnd_ok (l : Launch) {a0 : Nat} {h : mm_H} {r : Int32} {h1 : mm_H} (hf : fX12_wordEnd a0 h = some (r, h1)) : mm_M l yX12_wordEnd cX12_wordEnd 2 (some .int) 2 0 0 [vR (some a0)] h (some (vI r)) h1 := by
  refine mm_enter (lv := [some (vR (some a0)), none]) (by decide) rfl (Nat.le_of_ble_eq_true rfl) ?_
  intro X hl C hE
  subst hl
  unfold fX12_wordEnd at hf
  refine me_aload_n (q := 1) C dX12_wordEnd_0 rfl rfl rfl ?_
  obtain ⟨k1, hf⟩ := mm_ck_some hf
  refine me_getI (q := 4) C dX12_wordEnd_1 mf_X12_308 rfl rfl k1 rfl ?_
  obtain ⟨v2, ev2, hf⟩ := mm_lt_some hf
  refine me_topI ev2 ?_
  refine me_istore_n (q := 5) (lv2 := [some (vR (some a0)), some (vI v2)]) C dX12_wordEnd_4 rfl (Nat.le_of_ble_eq_true rfl) rfl rfl rfl ?_
  refine cX12_wordEnd_L5 C hE _ _ _ _ hf ?_
  · intro z12 g13 hf
    refine me_iload_n (q := 42) C dX12_wordEnd_41 rfl rfl rfl ?_
    exact me_iret C hE (Nat.le_of_ble_eq_true rfl) (Nat.le_of_ble_eq_true rfl) rfl dX12_wordEnd_42 (mm_ri hf)
set_option maxRecDepth 100000 in
set_option maxHeartbeats 4000000 in
theorem cJ0_coder_7d493_ok (l : Launch) {a0 : Nat} {h : mm_H} {r : Int32} {h1 : mm_H} (hf : fJ0_coder_7d493 a0 h = some (r, h1)) : mm_M l yJ0_coder_7d493 cJ0_coder_7d493 1 (some .byte) 2 0 0 [vR (some a0)] h (some (vI r)) h1 := by
  refine mm_enter (lv := [some (vR (some a0))]) (by decide) rfl (Nat.le_of_ble_eq_true rfl) ?_
  intro X hl C hE
  subst hl
  unfold fJ0_coder_7d493 at hf
  refine me_gsI (q := 3) C dJ0_coder_7d493_0 mx_fie_RJ0_38 rfl ?_
  refine me_if_eq (q2 := 13) (q := 6) C dJ0_coder_7d493_3 (by decide) rfl (fun c1 => ?_) (fun c1 => ?_)
  · have hf := mm_if_t c1 hf
    refine me_iconst (v := (1 : Int32)) (q := 14) C dJ0_coder_7d493_13 (by decide) rfl ?_
    exact me_nret C hE (Nat.le_of_ble_eq_true rfl) (Nat.le_of_ble_eq_true rfl) rfl rfl dJ0_coder_7d493_14 (mm_ri hf)
  · have hf := mm_if_f c1 hf
    refine me_aload_n (q := 7) C dJ0_coder_7d493_6 rfl rfl rfl ?_
    obtain ⟨k2, hf⟩ := mm_ck_some hf
    refine me_strC (q := 10) C dJ0_coder_7d493_7 mx_fie_RJ0_15 rfl k2 rfl ?_
    refine me_goto (q := 14) C dJ0_coder_7d493_10 (by decide) ?_
    exact me_nret C hE (Nat.le_of_ble_eq_true rfl) (Nat.le_of_ble_eq_true rfl) rfl rfl dJ0_coder_7d493_14 (mm_ri hf)
set_option maxRecDepth 100000 in
set_option maxHeartbeats 4000000 in
theorem cJ0_length_8abf5_ok (l : Launch) {a0 : Nat} {h : mm_H} {r : Int32} {h1 : mm_H} (hf : fJ0_length_8abf5 a0 h = some (r, h1)) : mm_M l yJ0_length_8abf5 cJ0_length_8abf5 1 (some .int) 4 0 0 [vR (some a0)] h (some (vI r)) h1 := by
  refine mm_enter (lv := [some (vR (some a0))]) (by decide) rfl (Nat.le_of_ble_eq_true rfl) ?_
  intro X hl C hE
  subst hl
  unfold fJ0_length_8abf5 at hf
  refine me_aload_n (q := 1) C dJ0_length_8abf5_0 rfl rfl rfl ?_
  obtain ⟨k1, hf⟩ := mm_ck_some hf
  obtain ⟨u2, eu2, hf⟩ := mm_lt_some hf
  refine me_strV (q := 4) C dJ0_length_8abf5_1 mx_fie_RJ0_9 rfl k1 rfl ?_
  refine me_topR (congrArg some eu2) ?_
  obtain ⟨w3, ew3, hf⟩ := mm_rf_some hf
  refine me_salen (q := 5) C dJ0_length_8abf5_4 rfl ew3 rfl ?_
  refine me_aload_n (q := 6) C dJ0_length_8abf5_5 rfl rfl rfl ?_
  obtain ⟨v4, g5, e6, hf⟩ := mm_cl_some hf
  refine me_callT (q := 9) (c2 := 0) (s2 := 0) (st := [vI (nI (mm_sl w3))]) C (cJ0_coder_7d493_ok _ e6) mt_J0_335 mv_J0_coder_7d493 dJ0_length_8abf5_6 rfl k1 rfl rfl rfl (Nat.le_of_ble_eq_true rfl) rfl (Nat.le_of_ble_eq_true rfl) rfl (Nat.le_of_ble_eq_true rfl) rfl rfl ?_
  refine me_ishr (q := 10) C dJ0_length_8abf5_9 rfl ?_
  exact me_iret C hE (Nat.le_of_ble_eq_true rfl) (Nat.le_of_ble_eq_true rfl) rfl dJ0_length_8abf5_10 (mm_ri hf)
set_option maxRecDepth 100000 in
set_option maxHeartbeats 4000000 in
theorem cX12_is_L22 {X : mm_X} (C : mm_C X cX12_is yX12_is 10 0 0) {r : Int32} {h1 : mm_H} (hE : mm_End X 0 0 (some .boolean) (some (vI r)) h1) {b0 : Nat} {b1 : Nat} (K68 : Int32 → mm_H → Option (Int32 × mm_H)) : ∀ (n : Nat) (x3 : Int32) (x4 : Int32) (h : mm_H), fX12_is_L22 b0 b1 K68 n x3 x4 h = some (r, h1) → (∀ (y3 : Int32) (h : mm_H), K68 y3 h = some (r, h1) → mm_E X h 0 0 68 [none, none, none, some (vI y3), none] []) → mm_E X h 0 0 22 [some (vR (some b0)), some (vR (some b1)), none, some (vI x3), some (vI x4)] [] := by
  intro n
  induction n with
  | zero =>
    intro x3 x4 h hf
    exact absurd (show (none : Option (Int32 × mm_H)) = some (r, h1) from hf) (by simp)
  | succ n ih =>
    intro x3 x4 h hf hk68
    have hf : fX12_is_L22_b b0 b1 K68 (fX12_is_L22 b0 b1 K68 n) x3 x4 h = some (r, h1) := hf
    unfold fX12_is_L22_b at hf
    refine me_iload (q := 24) C dX12_is_22 rfl rfl ?_
    refine me_aload_n (q := 25) C dX12_is_24 rfl rfl rfl ?_
    obtain ⟨k8, hf⟩ := mm_ck_some hf
    obtain ⟨v9, g10, e11, hf⟩ := mm_cl_some hf
    refine me_callT (q := 28) (c2 := 0) (s2 := 0) (st := [vI x4]) C (cJ0_length_8abf5_ok _ e11) mt_X12_314 mv_J0_length_8abf5 dX12_is_25 rfl k8 rfl rfl rfl (Nat.le_of_ble_eq_true rfl) rfl (Nat.le_of_ble_eq_true rfl) rfl (Nat.le_of_ble_eq_true rfl) rfl rfl ?_
    refine me_icmp_ge (q2 := 68) (q := 31) C dX12_is_28 (by decide) rfl (fun c12 => ?_) (fun c12 => ?_)
    · have hf := mm_if_t c12 hf
      refine me_mask [false, false, false, true, false] (lv2 := [none, none, none, some (vI x3), none]) rfl ?_
      exact hk68 _ _ hf
    · have hf := mm_if_f c12 hf
      refine me_iload_n (q := 32) C dX12_is_31 rfl rfl rfl ?_
      refine me_if_eq (q2 := 68) (q := 35) C dX12_is_32 (by decide) rfl (fun c13 => ?_) (fun c13 => ?_)
      · have hf := mm_if_t c13 hf
        refine me_mask [false, false, false, true, false] (lv2 := [none, none, none, some (vI x3), none]) rfl ?_
        exact hk68 _ _ hf
      · have hf := mm_if_f c13 hf
        refine me_aload_n (q := 36) C dX12_is_35 rfl rfl rfl ?_
        obtain ⟨k14, hf⟩ := mm_ck_some hf
        refine me_getR (q := 39) C dX12_is_36 mf_X12_47 rfl rfl k14 rfl ?_
        refine me_aload_n (q := 40) C dX12_is_39 rfl rfl rfl ?_
        refine me_getI (q := 43) C dX12_is_40 mf_X12_308 rfl rfl k14 rfl ?_
        refine me_iload (q := 45) C dX12_is_43 rfl rfl ?_
        refine me_iadd (q := 46) C dX12_is_45 rfl ?_
        obtain ⟨u15, eu15, hf⟩ := mm_rf_some hf
        obtain ⟨k16, hf⟩ := mm_ck_some hf
        obtain ⟨k17, hf⟩ := mm_ck_some hf
        refine me_bald (q := 47) C dX12_is_46 eu15 k16 k17 rfl ?_
        refine me_aload_n (q := 48) C dX12_is_47 rfl rfl rfl ?_
        refine me_iload (q := 50) C dX12_is_48 rfl rfl ?_
        obtain ⟨k18, hf⟩ := mm_ck_some hf
        obtain ⟨v19, g20, e21, hf⟩ := mm_cl_some hf
        refine me_callT (q := 53) (c2 := 0) (s2 := 0) (st := [vI (mm_i g10 u15 ((mm_i g10 b0 18) + x4).toNatClampNeg)]) C (cJ0_charAt_5068e_ok _ e21) mt_X12_320 mv_J0_charAt_5068e dX12_is_50 rfl k18 rfl rfl rfl (Nat.le_of_ble_eq_true rfl) rfl (Nat.le_of_ble_eq_true rfl) rfl (Nat.le_of_ble_eq_true rfl) rfl rfl ?_
        obtain ⟨q23, eq23, hf⟩ := mm_jn_some hf
        have Hq23 : ∀ (v22 : Int32), q23 v22 = some (r, h1) → mm_E X g20 0 0 61 [some (vR (some b0)), some (vR (some b1)), none, none, some (vI x4)] [vI v22] := by
          intro v22 hf
          subst eq23
          refine me_istore_n (q := 62) (lv2 := [some (vR (some b0)), some (vR (some b1)), none, some (vI v22), some (vI x4)]) C dX12_is_61 rfl (Nat.le_of_ble_eq_true rfl) rfl rfl rfl ?_
          obtain ⟨v24, ev24, hf⟩ := mm_lt_some hf
          refine me_iinc (q := 65) (v := v24) (lv2 := [some (vR (some b0)), some (vR (some b1)), none, some (vI v22), some (vI v24)]) C dX12_is_62 rfl (by rw [ev24]; rfl) (Nat.le_of_ble_eq_true rfl) rfl rfl rfl ?_
          refine me_goto (q := 22) C dX12_is_65 (by decide) ?_
          exact ih _ _ _ hf hk68
        refine me_icmp_ne (q2 := 60) (q := 56) C dX12_is_53 (by decide) rfl (fun c25 => ?_) (fun c25 => ?_)
        · have hf := mm_if_t c25 hf
          refine me_iconst (v := (0 : Int32)) (q := 61) C dX12_is_60 (by decide) rfl ?_
          refine me_mask [true, true, false, false, true] (lv2 := [some (vR (some b0)), some (vR (some b1)), none, none, some (vI x4)]) rfl ?_
          exact Hq23 _ hf
        · have hf := mm_if_f c25 hf
          refine me_iconst (v := (1 : Int32)) (q := 57) C dX12_is_56 (by decide) rfl ?_
          refine me_goto (q := 61) C dX12_is_57 (by decide) ?_
          refine me_mask [true, true, false, false, true] (lv2 := [some (vR (some b0)), some (vR (some b1)), none, none, some (vI x4)]) rfl ?_
          exact Hq23 _ hf
set_option maxRecDepth 100000 in
set_option maxHeartbeats 4000000 in
theorem cX12_is_ok (l : Launch) {a0 : Nat} {a1 : Nat} {a2 : Int32} {h : mm_H} {r : Int32} {h1 : mm_H} (hf : fX12_is a0 a1 a2 h = some (r, h1)) : mm_M l yX12_is cX12_is 5 (some .boolean) 10 0 0 [vR (some a0), vR (some a1), vI a2] h (some (vI r)) h1 := by
  refine mm_enter (lv := [some (vR (some a0)), some (vR (some a1)), some (vI a2), none, none]) (by decide) rfl (Nat.le_of_ble_eq_true rfl) ?_
  intro X hl C hE
  subst hl
  unfold fX12_is at hf
  refine me_iload_n (q := 1) C dX12_is_0 rfl rfl rfl ?_
  refine me_aload_n (q := 2) C dX12_is_1 rfl rfl rfl ?_
  obtain ⟨k1, hf⟩ := mm_ck_some hf
  refine me_getI (q := 5) C dX12_is_2 mf_X12_308 rfl rfl k1 rfl ?_
  refine me_isub (q := 6) C dX12_is_5 rfl ?_
  refine me_aload_n (q := 7) C dX12_is_6 rfl rfl rfl ?_
  obtain ⟨k2, hf⟩ := mm_ck_some hf
  obtain ⟨v3, g4, e5, hf⟩ := mm_cl_some hf
  refine me_callT (q := 10) (c2 := 0) (s2 := 0) (st := [vI (a2 - (mm_i h a0 18))]) C (cJ0_length_8abf5_ok _ e5) mt_X12_314 mv_J0_length_8abf5 dX12_is_7 rfl k2 rfl rfl rfl (Nat.le_of_ble_eq_true rfl) rfl (Nat.le_of_ble_eq_true rfl) rfl (Nat.le_of_ble_eq_true rfl) rfl rfl ?_
  obtain ⟨q7, eq7, hf⟩ := mm_jn_some hf
  have Hq7 : ∀ (v6 : Int32), q7 v6 = some (r, h1) → mm_E X g4 0 0 18 [some (vR (some a0)), some (vR (some a1)), none, none, none] [vI v6] := by
    intro v6 hf
    subst eq7
    refine me_istore_n (q := 19) (lv2 := [some (vR (some a0)), some (vR (some a1)), none, some (vI v6), none]) C dX12_is_18 rfl (Nat.le_of_ble_eq_true rfl) rfl rfl rfl ?_
    refine me_iconst (v := (0 : Int32)) (q := 20) C dX12_is_19 (by decide) rfl ?_
    refine me_istore (q := 22) (lv2 := [some (vR (some a0)), some (vR (some a1)), none, some (vI v6), some (vI (0 : Int32))]) C dX12_is_20 (Nat.le_of_ble_eq_true rfl) rfl rfl rfl ?_
    refine cX12_is_L22 C hE _ _ _ _ _ hf ?_
    · intro z26 g27 hf
      refine me_iload_n (q := 69) C dX12_is_68 rfl rfl rfl ?_
      obtain ⟨k28, hf⟩ := mm_ck_some hf
      exact me_zret C hE (Nat.le_of_ble_eq_true rfl) (Nat.le_of_ble_eq_true rfl) rfl k28 dX12_is_69 (mm_ri hf)
  refine me_icmp_ne (q2 := 17) (q := 13) C dX12_is_10 (by decide) rfl (fun c29 => ?_) (fun c29 => ?_)
  · have hf := mm_if_t c29 hf
    refine me_iconst (v := (0 : Int32)) (q := 18) C dX12_is_17 (by decide) rfl ?_
    refine me_mask [true, true, false, false, false] (lv2 := [some (vR (some a0)), some (vR (some a1)), none, none, none]) rfl ?_
    exact Hq7 _ hf
  · have hf := mm_if_f c29 hf
    refine me_iconst (v := (1 : Int32)) (q := 14) C dX12_is_13 (by decide) rfl ?_
    refine me_goto (q := 18) C dX12_is_14 (by decide) ?_
    refine me_mask [true, true, false, false, false] (lv2 := [some (vR (some a0)), some (vR (some a1)), none, none, none]) rfl ?_
    exact Hq7 _ hf
set_option maxRecDepth 100000 in
set_option maxHeartbeats 4000000 in
theorem cX12_wordOf_ok (l : Launch) {a0 : Int32} {h : mm_H} {r : Option Nat} {h1 : mm_H} (hf : fX12_wordOf a0 h = some (r, h1)) : mm_M l yX12_wordOf cX12_wordOf 1 (some (.object "java/lang/String")) 2 0 0 [vI a0] h (some (vR r)) h1 := by
  refine mm_enter (lv := [some (vI a0)]) (by decide) rfl (Nat.le_of_ble_eq_true rfl) ?_
  intro X hl C hE
  subst hl
  unfold fX12_wordOf at hf
  refine me_iload_n (q := 1) C dX12_wordOf_0 rfl rfl rfl ?_
  by_cases c1 : a0 = 0
  · have hf := mm_if_t c1 hf
    refine me_tabIn (q := 68) C dX12_wordOf_1 (by rw [c1]; decide) (by rw [c1]; decide) (by rw [c1]; rfl) (by decide) ?_
    refine me_ldc_wS (i := 6) (q := 71) C dX12_wordOf_68 rfl rfl ?_
    exact me_aret C hE (Nat.le_of_ble_eq_true rfl) (Nat.le_of_ble_eq_true rfl) rfl (Or.inl ⟨_, rfl⟩) dX12_wordOf_71 (mm_rr hf)
  have hf := mm_if_f c1 hf
  by_cases c2 : a0 = 1
  · have hf := mm_if_t c2 hf
    refine me_tabIn (q := 72) C dX12_wordOf_1 (by rw [c2]; decide) (by rw [c2]; decide) (by rw [c2]; rfl) (by decide) ?_
    refine me_ldc_wS (i := 7) (q := 75) C dX12_wordOf_72 rfl rfl ?_
    exact me_aret C hE (Nat.le_of_ble_eq_true rfl) (Nat.le_of_ble_eq_true rfl) rfl (Or.inl ⟨_, rfl⟩) dX12_wordOf_75 (mm_rr hf)
  have hf := mm_if_f c2 hf
  by_cases c3 : a0 = 2
  · have hf := mm_if_t c3 hf
    refine me_tabIn (q := 76) C dX12_wordOf_1 (by rw [c3]; decide) (by rw [c3]; decide) (by rw [c3]; rfl) (by decide) ?_
    refine me_ldc_wS (i := 8) (q := 79) C dX12_wordOf_76 rfl rfl ?_
    exact me_aret C hE (Nat.le_of_ble_eq_true rfl) (Nat.le_of_ble_eq_true rfl) rfl (Or.inl ⟨_, rfl⟩) dX12_wordOf_79 (mm_rr hf)
  have hf := mm_if_f c3 hf
  by_cases c4 : a0 = 3
  · have hf := mm_if_t c4 hf
    refine me_tabIn (q := 80) C dX12_wordOf_1 (by rw [c4]; decide) (by rw [c4]; decide) (by rw [c4]; rfl) (by decide) ?_
    refine me_ldc_wS (i := 9) (q := 83) C dX12_wordOf_80 rfl rfl ?_
    exact me_aret C hE (Nat.le_of_ble_eq_true rfl) (Nat.le_of_ble_eq_true rfl) rfl (Or.inl ⟨_, rfl⟩) dX12_wordOf_83 (mm_rr hf)
  have hf := mm_if_f c4 hf
  by_cases c5 : a0 = 4
  · have hf := mm_if_t c5 hf
    refine me_tabIn (q := 84) C dX12_wordOf_1 (by rw [c5]; decide) (by rw [c5]; decide) (by rw [c5]; rfl) (by decide) ?_
    refine me_ldc_wS (i := 10) (q := 87) C dX12_wordOf_84 rfl rfl ?_
    exact me_aret C hE (Nat.le_of_ble_eq_true rfl) (Nat.le_of_ble_eq_true rfl) rfl (Or.inl ⟨_, rfl⟩) dX12_wordOf_87 (mm_rr hf)
  have hf := mm_if_f c5 hf
  by_cases c6 : a0 = 5
  · have hf := mm_if_t c6 hf
    refine me_tabIn (q := 88) C dX12_wordOf_1 (by rw [c6]; decide) (by rw [c6]; decide) (by rw [c6]; rfl) (by decide) ?_
    refine me_ldc_wS (i := 11) (q := 91) C dX12_wordOf_88 rfl rfl ?_
    exact me_aret C hE (Nat.le_of_ble_eq_true rfl) (Nat.le_of_ble_eq_true rfl) rfl (Or.inl ⟨_, rfl⟩) dX12_wordOf_91 (mm_rr hf)
  have hf := mm_if_f c6 hf
  by_cases c7 : a0 = 6
  · have hf := mm_if_t c7 hf
    refine me_tabIn (q := 92) C dX12_wordOf_1 (by rw [c7]; decide) (by rw [c7]; decide) (by rw [c7]; rfl) (by decide) ?_
    refine me_ldc_wS (i := 12) (q := 95) C dX12_wordOf_92 rfl rfl ?_
    exact me_aret C hE (Nat.le_of_ble_eq_true rfl) (Nat.le_of_ble_eq_true rfl) rfl (Or.inl ⟨_, rfl⟩) dX12_wordOf_95 (mm_rr hf)
  have hf := mm_if_f c7 hf
  by_cases c8 : a0 = 7
  · have hf := mm_if_t c8 hf
    refine me_tabIn (q := 96) C dX12_wordOf_1 (by rw [c8]; decide) (by rw [c8]; decide) (by rw [c8]; rfl) (by decide) ?_
    refine me_ldc_wS (i := 13) (q := 99) C dX12_wordOf_96 rfl rfl ?_
    exact me_aret C hE (Nat.le_of_ble_eq_true rfl) (Nat.le_of_ble_eq_true rfl) rfl (Or.inl ⟨_, rfl⟩) dX12_wordOf_99 (mm_rr hf)
  have hf := mm_if_f c8 hf
  by_cases c9 : a0 = 8
  · have hf := mm_if_t c9 hf
    refine me_tabIn (q := 100) C dX12_wordOf_1 (by rw [c9]; decide) (by rw [c9]; decide) (by rw [c9]; rfl) (by decide) ?_
    refine me_ldc_wS (i := 14) (q := 103) C dX12_wordOf_100 rfl rfl ?_
    exact me_aret C hE (Nat.le_of_ble_eq_true rfl) (Nat.le_of_ble_eq_true rfl) rfl (Or.inl ⟨_, rfl⟩) dX12_wordOf_103 (mm_rr hf)
  have hf := mm_if_f c9 hf
  by_cases c10 : a0 = 9
  · have hf := mm_if_t c10 hf
    refine me_tabIn (q := 104) C dX12_wordOf_1 (by rw [c10]; decide) (by rw [c10]; decide) (by rw [c10]; rfl) (by decide) ?_
    refine me_ldc_wS (i := 15) (q := 107) C dX12_wordOf_104 rfl rfl ?_
    exact me_aret C hE (Nat.le_of_ble_eq_true rfl) (Nat.le_of_ble_eq_true rfl) rfl (Or.inl ⟨_, rfl⟩) dX12_wordOf_107 (mm_rr hf)
  have hf := mm_if_f c10 hf
  by_cases c11 : a0 = 10
  · have hf := mm_if_t c11 hf
    refine me_tabIn (q := 108) C dX12_wordOf_1 (by rw [c11]; decide) (by rw [c11]; decide) (by rw [c11]; rfl) (by decide) ?_
    refine me_ldc_wS (i := 16) (q := 111) C dX12_wordOf_108 rfl rfl ?_
    exact me_aret C hE (Nat.le_of_ble_eq_true rfl) (Nat.le_of_ble_eq_true rfl) rfl (Or.inl ⟨_, rfl⟩) dX12_wordOf_111 (mm_rr hf)
  have hf := mm_if_f c11 hf
  by_cases c12 : a0 = 11
  · have hf := mm_if_t c12 hf
    refine me_tabIn (q := 112) C dX12_wordOf_1 (by rw [c12]; decide) (by rw [c12]; decide) (by rw [c12]; rfl) (by decide) ?_
    refine me_ldc_wS (i := 17) (q := 115) C dX12_wordOf_112 rfl rfl ?_
    exact me_aret C hE (Nat.le_of_ble_eq_true rfl) (Nat.le_of_ble_eq_true rfl) rfl (Or.inl ⟨_, rfl⟩) dX12_wordOf_115 (mm_rr hf)
  have hf := mm_if_f c12 hf
  by_cases c13 : a0 = 12
  · have hf := mm_if_t c13 hf
    refine me_tabIn (q := 116) C dX12_wordOf_1 (by rw [c13]; decide) (by rw [c13]; decide) (by rw [c13]; rfl) (by decide) ?_
    refine me_ldc_wS (i := 18) (q := 119) C dX12_wordOf_116 rfl rfl ?_
    exact me_aret C hE (Nat.le_of_ble_eq_true rfl) (Nat.le_of_ble_eq_true rfl) rfl (Or.inl ⟨_, rfl⟩) dX12_wordOf_119 (mm_rr hf)
  have hf := mm_if_f c13 hf
  refine me_tabOut (q := 120) C dX12_wordOf_1 ?_ (by decide) ?_
  · by_cases hz : a0.toInt < 0 ∨ 12 < a0.toInt
    · exact hz
    · exfalso
      have hw : a0.toInt = 0 ∨ a0.toInt = 1 ∨ a0.toInt = 2 ∨ a0.toInt = 3 ∨ a0.toInt = 4 ∨ a0.toInt = 5 ∨ a0.toInt = 6 ∨ a0.toInt = 7 ∨ a0.toInt = 8 ∨ a0.toInt = 9 ∨ a0.toInt = 10 ∨ a0.toInt = 11 ∨ a0.toInt = 12 := by omega
      rcases hw with hw | hw | hw | hw | hw | hw | hw | hw | hw | hw | hw | hw | hw
      · exact c1 (mm_sw hw)
      · exact c2 (mm_sw hw)
      · exact c3 (mm_sw hw)
      · exact c4 (mm_sw hw)
      · exact c5 (mm_sw hw)
      · exact c6 (mm_sw hw)
      · exact c7 (mm_sw hw)
      · exact c8 (mm_sw hw)
      · exact c9 (mm_sw hw)
      · exact c10 (mm_sw hw)
      · exact c11 (mm_sw hw)
      · exact c12 (mm_sw hw)
      · exact c13 (mm_sw hw)
  · refine me_ldc_wS (i := 19) (q := 123) C dX12_wordOf_120 rfl rfl ?_
    exact me_aret C hE (Nat.le_of_ble_eq_true rfl) (Nat.le_of_ble_eq_true rfl) rfl (Or.inl ⟨_, rfl⟩) dX12_wordOf_123 (mm_rr hf)
set_option maxRecDepth 100000 in
set_option maxHeartbeats 4000000 in
theorem cX12_number_L4 {X : mm_X} (C : mm_C X cX12_number yX12_number 4 0 0) {r : Int32} {h1 : mm_H} (hE : mm_End X 0 0 (some .int) (some (vI r)) h1) {b0 : Nat} (K73 : Int32 → Int32 → mm_H → Option (Int32 × mm_H)) : ∀ (n : Nat) (x1 : Int32) (x2 : Int32) (h : mm_H), fX12_number_L4 b0 K73 n x1 x2 h = some (r, h1) → (∀ (y1 : Int32) (y2 : Int32) (h : mm_H), K73 y1 y2 h = some (r, h1) → mm_E X h 0 0 73 [some (vR (some b0)), some (vI y1), some (vI y2)] []) → mm_E X h 0 0 4 [some (vR (some b0)), some (vI x1), some (vI x2)] [] := by
  intro n
  induction n with
  | zero =>
    intro x1 x2 h hf
    exact absurd (show (none : Option (Int32 × mm_H)) = some (r, h1) from hf) (by simp)
  | succ n ih =>
    intro x1 x2 h hf hk73
    have hf : fX12_number_L4_b b0 K73 (fX12_number_L4 b0 K73 n) x1 x2 h = some (r, h1) := hf
    unfold fX12_number_L4_b at hf
    refine me_aload_n (q := 5) C dX12_number_4 rfl rfl rfl ?_
    obtain ⟨k1, hf⟩ := mm_ck_some hf
    refine me_getI (q := 8) C dX12_number_5 mf_X12_308 rfl rfl k1 rfl ?_
    refine me_aload_n (q := 9) C dX12_number_8 rfl rfl rfl ?_
    refine me_getI (q := 12) C dX12_number_9 mf_X12_298 rfl rfl k1 rfl ?_
    refine me_icmp_ge (q2 := 73) (q := 15) C dX12_number_12 (by decide) rfl (fun c2 => ?_) (fun c2 => ?_)
    · have hf := mm_if_t c2 hf
      exact hk73 _ _ _ hf
    · have hf := mm_if_f c2 hf
      refine me_aload_n (q := 16) C dX12_number_15 rfl rfl rfl ?_
      refine me_getR (q := 19) C dX12_number_16 mf_X12_47 rfl rfl k1 rfl ?_
      refine me_aload_n (q := 20) C dX12_number_19 rfl rfl rfl ?_
      refine me_getI (q := 23) C dX12_number_20 mf_X12_308 rfl rfl k1 rfl ?_
      obtain ⟨u3, eu3, hf⟩ := mm_rf_some hf
      obtain ⟨k4, hf⟩ := mm_ck_some hf
      obtain ⟨k5, hf⟩ := mm_ck_some hf
      refine me_bald (q := 24) C dX12_number_23 eu3 k4 k5 rfl ?_
      obtain ⟨v6, g7, e8, hf⟩ := mm_cl_some hf
      refine me_callS (q := 27) (c2 := 0) (s2 := 0) (st := []) C (cX12_isDigit_ok _ e8) mt_X12_349 ms_X12_isDigit dX12_number_24 rfl rfl rfl (Nat.le_of_ble_eq_true rfl) rfl (Nat.le_of_ble_eq_true rfl) rfl (Nat.le_of_ble_eq_true rfl) rfl rfl ?_
      refine me_if_eq (q2 := 73) (q := 30) C dX12_number_27 (by decide) rfl (fun c9 => ?_) (fun c9 => ?_)
      · have hf := mm_if_t c9 hf
        exact hk73 _ _ _ hf
      · have hf := mm_if_f c9 hf
        refine me_iload_n (q := 31) C dX12_number_30 rfl rfl rfl ?_
        refine me_iconst (v := (5 : Int32)) (q := 32) C dX12_number_31 (by decide) rfl ?_
        obtain ⟨q11, eq11, hf⟩ := mm_jn_some hf
        have Hq11 : ∀ (v10 : Int32), q11 v10 = some (r, h1) → mm_E X g7 0 0 56 [some (vR (some b0)), none, some (vI x2)] [vI v10] := by
          intro v10 hf
          subst eq11
          refine me_istore_n (q := 57) (lv2 := [some (vR (some b0)), some (vI v10), some (vI x2)]) C dX12_number_56 rfl (Nat.le_of_ble_eq_true rfl) rfl rfl rfl ?_
          obtain ⟨v12, ev12, hf⟩ := mm_lt_some hf
          refine me_iinc (q := 60) (v := v12) (lv2 := [some (vR (some b0)), some (vI v10), some (vI v12)]) C dX12_number_57 rfl (by rw [ev12]; rfl) (Nat.le_of_ble_eq_true rfl) rfl rfl rfl ?_
          refine me_aload_n (q := 61) C dX12_number_60 rfl rfl rfl ?_
          refine me_dup (q := 62) C dX12_number_61 rfl rfl ?_
          obtain ⟨k13, hf⟩ := mm_ck_some hf
          refine me_getI (q := 65) C dX12_number_62 mf_X12_308 rfl rfl k13 rfl ?_
          refine me_iconst (v := (1 : Int32)) (q := 66) C dX12_number_65 (by decide) rfl ?_
          refine me_iadd (q := 67) C dX12_number_66 rfl ?_
          obtain ⟨g14, eg14, hf⟩ := mm_lt_some hf
          refine me_putI (q := 70) C eg14 dX12_number_67 mf_X12_308 mp_X12_13_18 rfl (by decide) rfl k13 rfl ?_
          refine me_goto (q := 4) C dX12_number_70 (by decide) ?_
          exact ih _ _ _ hf hk73
        refine me_icmp_ge (q2 := 55) (q := 35) C dX12_number_32 (by decide) rfl (fun c15 => ?_) (fun c15 => ?_)
        · have hf := mm_if_t c15 hf
          refine me_iload_n (q := 56) C dX12_number_55 rfl rfl rfl ?_
          refine me_mask [true, false, true] (lv2 := [some (vR (some b0)), none, some (vI x2)]) rfl ?_
          exact Hq11 _ hf
        · have hf := mm_if_f c15 hf
          refine me_bipush (v := (10 : Int32)) (q := 37) C dX12_number_35 (by decide) rfl ?_
          refine me_iload_n (q := 38) C dX12_number_37 rfl rfl rfl ?_
          refine me_imul (q := 39) C dX12_number_38 rfl ?_
          refine me_aload_n (q := 40) C dX12_number_39 rfl rfl rfl ?_
          obtain ⟨k16, hf⟩ := mm_ck_some hf
          refine me_getR (q := 43) C dX12_number_40 mf_X12_47 rfl rfl k16 rfl ?_
          refine me_aload_n (q := 44) C dX12_number_43 rfl rfl rfl ?_
          refine me_getI (q := 47) C dX12_number_44 mf_X12_308 rfl rfl k16 rfl ?_
          obtain ⟨u17, eu17, hf⟩ := mm_rf_some hf
          obtain ⟨k18, hf⟩ := mm_ck_some hf
          obtain ⟨k19, hf⟩ := mm_ck_some hf
          refine me_bald (q := 48) C dX12_number_47 eu17 k18 k19 rfl ?_
          refine me_iadd (q := 49) C dX12_number_48 rfl ?_
          refine me_bipush (v := (48 : Int32)) (q := 51) C dX12_number_49 (by decide) rfl ?_
          refine me_isub (q := 52) C dX12_number_51 rfl ?_
          refine me_goto (q := 56) C dX12_number_52 (by decide) ?_
          refine me_mask [true, false, true] (lv2 := [some (vR (some b0)), none, some (vI x2)]) rfl ?_
          exact Hq11 _ hf
set_option maxRecDepth 100000 in
set_option maxHeartbeats 4000000 in
theorem cX12_number_ok (l : Launch) {a0 : Nat} {h : mm_H} {r : Int32} {h1 : mm_H} (hf : fX12_number a0 h = some (r, h1)) : mm_M l yX12_number cX12_number 3 (some .int) 4 0 0 [vR (some a0)] h (some (vI r)) h1 := by
  refine mm_enter (lv := [some (vR (some a0)), none, none]) (by decide) rfl (Nat.le_of_ble_eq_true rfl) ?_
  intro X hl C hE
  subst hl
  unfold fX12_number at hf
  refine me_iconst (v := (0 : Int32)) (q := 1) C dX12_number_0 (by decide) rfl ?_
  refine me_istore_n (q := 2) (lv2 := [some (vR (some a0)), some (vI (0 : Int32)), none]) C dX12_number_1 rfl (Nat.le_of_ble_eq_true rfl) rfl rfl rfl ?_
  refine me_iconst (v := (0 : Int32)) (q := 3) C dX12_number_2 (by decide) rfl ?_
  refine me_istore_n (q := 4) (lv2 := [some (vR (some a0)), some (vI (0 : Int32)), some (vI (0 : Int32))]) C dX12_number_3 rfl (Nat.le_of_ble_eq_true rfl) rfl rfl rfl ?_
  refine cX12_number_L4 C hE _ _ _ _ _ hf ?_
  · intro z20 z21 g22 hf
    refine me_iload_n (q := 74) C dX12_number_73 rfl rfl rfl ?_
    refine me_iconst (v := (5 : Int32)) (q := 75) C dX12_number_74 (by decide) rfl ?_
    refine me_icmp_le (q2 := 87) (q := 78) C dX12_number_75 (by decide) rfl (fun c23 => ?_) (fun c23 => ?_)
    · have hf := mm_if_t c23 hf
      refine me_iload_n (q := 88) C dX12_number_87 rfl rfl rfl ?_
      exact me_iret C hE (Nat.le_of_ble_eq_true rfl) (Nat.le_of_ble_eq_true rfl) rfl dX12_number_88 (mm_ri hf)
    · have hf := mm_if_f c23 hf
      refine me_aload_n (q := 79) C dX12_number_78 rfl rfl rfl ?_
      refine me_iconst (v := (1 : Int32)) (q := 80) C dX12_number_79 (by decide) rfl ?_
      refine me_aload_n (q := 81) C dX12_number_80 rfl rfl rfl ?_
      obtain ⟨k24, hf⟩ := mm_ck_some hf
      refine me_getI (q := 84) C dX12_number_81 mf_X12_311 rfl rfl k24 rfl ?_
      obtain ⟨_, g25, e26, hf⟩ := mm_cl_some hf
      refine me_callV (q := 87) (c2 := 0) (s2 := 0) (st := []) C (cX12_fails_ok _ e26) mt_X12_352 mv_X12_fails rfl (by decide) dX12_number_84 rfl k24 rfl rfl rfl (Nat.le_of_ble_eq_true rfl) rfl (Nat.le_of_ble_eq_true rfl) rfl (Nat.le_of_ble_eq_true rfl) rfl rfl ?_
      refine me_iload_n (q := 88) C dX12_number_87 rfl rfl rfl ?_
      exact me_iret C hE (Nat.le_of_ble_eq_true rfl) (Nat.le_of_ble_eq_true rfl) rfl dX12_number_88 (mm_ri hf)
set_option maxRecDepth 100000 in
set_option maxHeartbeats 4000000 in
theorem cX12_emits_ok (l : Launch) {a0 : Nat} {a1 : Int32} {a2 : Int32} {h : mm_H} {r : Unit} {h1 : mm_H} (hf : fX12_emits a0 a1 a2 h = some (r, h1)) : mm_M l yX12_emits cX12_emits 3 none 2 0 0 [vR (some a0), vI a1, vI a2] h none h1 := by
  refine mm_enter (lv := [some (vR (some a0)), some (vI a1), some (vI a2)]) (by decide) rfl (Nat.le_of_ble_eq_true rfl) ?_
  intro X hl C hE
  subst hl
  unfold fX12_emits at hf
  refine me_aload_n (q := 1) C dX12_emits_0 rfl rfl rfl ?_
  obtain ⟨k1, hf⟩ := mm_ck_some hf
  refine me_getR (q := 4) C dX12_emits_1 mf_X12_72 rfl rfl k1 rfl ?_
  refine me_sipush (v := (400 : Int32)) (q := 7) C dX12_emits_4 (by decide) rfl ?_
  refine me_aload_n (q := 8) C dX12_emits_7 rfl rfl rfl ?_
  refine me_getI (q := 11) C dX12_emits_8 mf_X12_356 rfl rfl k1 rfl ?_
  refine me_imul (q := 12) C dX12_emits_11 rfl ?_
  refine me_aload_n (q := 13) C dX12_emits_12 rfl rfl rfl ?_
  refine me_getI (q := 16) C dX12_emits_13 mf_X12_359 rfl rfl k1 rfl ?_
  refine me_iadd (q := 17) C dX12_emits_16 rfl ?_
  refine me_iload_n (q := 18) C dX12_emits_17 rfl rfl rfl ?_
  obtain ⟨u2, eu2, hf⟩ := mm_rf_some hf
  obtain ⟨k3, hf⟩ := mm_ck_some hf
  obtain ⟨k4, hf⟩ := mm_ck_some hf
  obtain ⟨g5, eg5, hf⟩ := mm_lt_some hf
  refine me_iastH (q := 19) C eg5 dX12_emits_18 eu2 k3 k4 rfl ?_
  refine me_aload_n (q := 20) C dX12_emits_19 rfl rfl rfl ?_
  refine me_getR (q := 23) C dX12_emits_20 mf_X12_75 rfl rfl (mm_kI eg5 k1) rfl ?_
  refine me_sipush (v := (400 : Int32)) (q := 26) C dX12_emits_23 (by decide) rfl ?_
  refine me_aload_n (q := 27) C dX12_emits_26 rfl rfl rfl ?_
  refine me_getI (q := 30) C dX12_emits_27 mf_X12_356 rfl rfl (mm_kI eg5 k1) rfl ?_
  refine me_imul (q := 31) C dX12_emits_30 rfl ?_
  refine me_aload_n (q := 32) C dX12_emits_31 rfl rfl rfl ?_
  refine me_getI (q := 35) C dX12_emits_32 mf_X12_359 rfl rfl (mm_kI eg5 k1) rfl ?_
  refine me_iadd (q := 36) C dX12_emits_35 rfl ?_
  refine me_iload_n (q := 37) C dX12_emits_36 rfl rfl rfl ?_
  obtain ⟨u6, eu6, hf⟩ := mm_rf_some hf
  obtain ⟨k7, hf⟩ := mm_ck_some hf
  obtain ⟨k8, hf⟩ := mm_ck_some hf
  obtain ⟨g9, eg9, hf⟩ := mm_lt_some hf
  refine me_iastH (q := 38) C eg9 dX12_emits_37 eu6 k7 k8 rfl ?_
  refine me_aload_n (q := 39) C dX12_emits_38 rfl rfl rfl ?_
  refine me_dup (q := 40) C dX12_emits_39 rfl rfl ?_
  refine me_getI (q := 43) C dX12_emits_40 mf_X12_359 rfl rfl (mm_kI eg9 (mm_kI eg5 k1)) rfl ?_
  refine me_iconst (v := (1 : Int32)) (q := 44) C dX12_emits_43 (by decide) rfl ?_
  refine me_iadd (q := 45) C dX12_emits_44 rfl ?_
  obtain ⟨g10, eg10, hf⟩ := mm_lt_some hf
  refine me_putI (q := 48) C eg10 dX12_emits_45 mf_X12_359 mp_X12_13_33 rfl (by decide) rfl (mm_kI eg9 (mm_kI eg5 k1)) rfl ?_
  exact me_vret C hE (Nat.le_of_ble_eq_true rfl) (Nat.le_of_ble_eq_true rfl) rfl dX12_emits_48 (mm_ru hf)
set_option maxRecDepth 100000 in
set_option maxHeartbeats 4000000 in
theorem cX12_opens_ok (l : Launch) {a0 : Nat} {a1 : Int32} {h : mm_H} {r : Unit} {h1 : mm_H} (hf : fX12_opens a0 a1 h = some (r, h1)) : mm_M l yX12_opens cX12_opens 2 none 2 0 0 [vR (some a0), vI a1] h none h1 := by
  refine mm_enter (lv := [some (vR (some a0)), some (vI a1)]) (by decide) rfl (Nat.le_of_ble_eq_true rfl) ?_
  intro X hl C hE
  subst hl
  unfold fX12_opens at hf
  refine me_aload_n (q := 1) C dX12_opens_0 rfl rfl rfl ?_
  obtain ⟨k1, hf⟩ := mm_ck_some hf
  refine me_getR (q := 4) C dX12_opens_1 mf_X12_78 rfl rfl k1 rfl ?_
  refine me_aload_n (q := 5) C dX12_opens_4 rfl rfl rfl ?_
  refine me_getI (q := 8) C dX12_opens_5 mf_X12_362 rfl rfl k1 rfl ?_
  refine me_iload_n (q := 9) C dX12_opens_8 rfl rfl rfl ?_
  obtain ⟨u2, eu2, hf⟩ := mm_rf_some hf
  obtain ⟨k3, hf⟩ := mm_ck_some hf
  obtain ⟨k4, hf⟩ := mm_ck_some hf
  obtain ⟨g5, eg5, hf⟩ := mm_lt_some hf
  refine me_iastH (q := 10) C eg5 dX12_opens_9 eu2 k3 k4 rfl ?_
  refine me_aload_n (q := 11) C dX12_opens_10 rfl rfl rfl ?_
  refine me_dup (q := 12) C dX12_opens_11 rfl rfl ?_
  refine me_getI (q := 15) C dX12_opens_12 mf_X12_362 rfl rfl (mm_kI eg5 k1) rfl ?_
  refine me_iconst (v := (1 : Int32)) (q := 16) C dX12_opens_15 (by decide) rfl ?_
  refine me_iadd (q := 17) C dX12_opens_16 rfl ?_
  obtain ⟨g6, eg6, hf⟩ := mm_lt_some hf
  refine me_putI (q := 20) C eg6 dX12_opens_17 mf_X12_362 mp_X12_13_34 rfl (by decide) rfl (mm_kI eg5 k1) rfl ?_
  exact me_vret C hE (Nat.le_of_ble_eq_true rfl) (Nat.le_of_ble_eq_true rfl) rfl dX12_opens_20 (mm_ru hf)
set_option maxRecDepth 100000 in
set_option maxHeartbeats 4000000 in
theorem cX12_top_ok (l : Launch) {a0 : Nat} {h : mm_H} {r : Int32} {h1 : mm_H} (hf : fX12_top a0 h = some (r, h1)) : mm_M l yX12_top cX12_top 1 (some .int) 2 0 0 [vR (some a0)] h (some (vI r)) h1 := by
  refine mm_enter (lv := [some (vR (some a0))]) (by decide) rfl (Nat.le_of_ble_eq_true rfl) ?_
  intro X hl C hE
  subst hl
  unfold fX12_top at hf
  refine me_aload_n (q := 1) C dX12_top_0 rfl rfl rfl ?_
  obtain ⟨k1, hf⟩ := mm_ck_some hf
  refine me_getI (q := 4) C dX12_top_1 mf_X12_362 rfl rfl k1 rfl ?_
  refine me_if_ne (q2 := 11) (q := 7) C dX12_top_4 (by decide) rfl (fun c2 => ?_) (fun c2 => ?_)
  · have hf := mm_if_t c2 hf
    refine me_aload_n (q := 12) C dX12_top_11 rfl rfl rfl ?_
    refine me_getR (q := 15) C dX12_top_12 mf_X12_78 rfl rfl k1 rfl ?_
    refine me_aload_n (q := 16) C dX12_top_15 rfl rfl rfl ?_
    refine me_getI (q := 19) C dX12_top_16 mf_X12_362 rfl rfl k1 rfl ?_
    refine me_iconst (v := (1 : Int32)) (q := 20) C dX12_top_19 (by decide) rfl ?_
    refine me_isub (q := 21) C dX12_top_20 rfl ?_
    obtain ⟨u3, eu3, hf⟩ := mm_rf_some hf
    obtain ⟨k4, hf⟩ := mm_ck_some hf
    obtain ⟨k5, hf⟩ := mm_ck_some hf
    refine me_iald (q := 22) C dX12_top_21 eu3 k4 k5 rfl ?_
    exact me_iret C hE (Nat.le_of_ble_eq_true rfl) (Nat.le_of_ble_eq_true rfl) rfl dX12_top_22 (mm_ri hf)
  · have hf := mm_if_f c2 hf
    refine me_iconst (v := (-1 : Int32)) (q := 8) C dX12_top_7 (by decide) rfl ?_
    refine me_goto (q := 22) C dX12_top_8 (by decide) ?_
    exact me_iret C hE (Nat.le_of_ble_eq_true rfl) (Nat.le_of_ble_eq_true rfl) rfl dX12_top_22 (mm_ri hf)
set_option maxRecDepth 100000 in
set_option maxHeartbeats 4000000 in
theorem cX12_isSign_ok (l : Launch) {a0 : Int32} {h : mm_H} {r : Int32} {h1 : mm_H} (hf : fX12_isSign a0 h = some (r, h1)) : mm_M l yX12_isSign cX12_isSign 1 (some .boolean) 2 0 0 [vI a0] h (some (vI r)) h1 := by
  refine mm_enter (lv := [some (vI a0)]) (by decide) rfl (Nat.le_of_ble_eq_true rfl) ?_
  intro X hl C hE
  subst hl
  unfold fX12_isSign at hf
  refine me_iload_n (q := 1) C dX12_isSign_0 rfl rfl rfl ?_
  refine me_bipush (v := (7 : Int32)) (q := 3) C dX12_isSign_1 (by decide) rfl ?_
  refine me_icmp_lt (q2 := 16) (q := 6) C dX12_isSign_3 (by decide) rfl (fun c1 => ?_) (fun c1 => ?_)
  · have hf := mm_if_t c1 hf
    refine me_iconst (v := (0 : Int32)) (q := 17) C dX12_isSign_16 (by decide) rfl ?_
    exact me_zret C hE (Nat.le_of_ble_eq_true rfl) (Nat.le_of_ble_eq_true rfl) rfl (Or.inl rfl) dX12_isSign_17 (mm_ri hf)
  · have hf := mm_if_f c1 hf
    refine me_iload_n (q := 7) C dX12_isSign_6 rfl rfl rfl ?_
    refine me_bipush (v := (11 : Int32)) (q := 9) C dX12_isSign_7 (by decide) rfl ?_
    refine me_icmp_gt (q2 := 16) (q := 12) C dX12_isSign_9 (by decide) rfl (fun c2 => ?_) (fun c2 => ?_)
    · have hf := mm_if_t c2 hf
      refine me_iconst (v := (0 : Int32)) (q := 17) C dX12_isSign_16 (by decide) rfl ?_
      exact me_zret C hE (Nat.le_of_ble_eq_true rfl) (Nat.le_of_ble_eq_true rfl) rfl (Or.inl rfl) dX12_isSign_17 (mm_ri hf)
    · have hf := mm_if_f c2 hf
      refine me_iconst (v := (1 : Int32)) (q := 13) C dX12_isSign_12 (by decide) rfl ?_
      refine me_goto (q := 17) C dX12_isSign_13 (by decide) ?_
      exact me_zret C hE (Nat.le_of_ble_eq_true rfl) (Nat.le_of_ble_eq_true rfl) rfl (Or.inr rfl) dX12_isSign_17 (mm_ri hf)
set_option maxRecDepth 100000 in
set_option maxHeartbeats 4000000 in
theorem cX12_deeper_ok (l : Launch) {a0 : Nat} {a1 : Int32} {h : mm_H} {r : Unit} {h1 : mm_H} (hf : fX12_deeper a0 a1 h = some (r, h1)) : mm_M l yX12_deeper cX12_deeper 2 none 4 0 0 [vR (some a0), vI a1] h none h1 := by
  refine mm_enter (lv := [some (vR (some a0)), some (vI a1)]) (by decide) rfl (Nat.le_of_ble_eq_true rfl) ?_
  intro X hl C hE
  subst hl
  unfold fX12_deeper at hf
  refine me_aload_n (q := 1) C dX12_deeper_0 rfl rfl rfl ?_
  obtain ⟨k1, hf⟩ := mm_ck_some hf
  refine me_getI (q := 4) C dX12_deeper_1 mf_X12_365 rfl rfl k1 rfl ?_
  refine me_bipush (v := (10 : Int32)) (q := 6) C dX12_deeper_4 (by decide) rfl ?_
  obtain ⟨q3, eq3, hf⟩ := mm_jn_some hf
  have Hq3 : ∀ (g2 : mm_H), q3 g2 = some (r, h1) → mm_E X g2 0 0 15 [some (vR (some a0)), none] [] := by
    intro g2 hf
    subst eq3
    refine me_aload_n (q := 16) C dX12_deeper_15 rfl rfl rfl ?_
    refine me_dup (q := 17) C dX12_deeper_16 rfl rfl ?_
    obtain ⟨k4, hf⟩ := mm_ck_some hf
    refine me_getI (q := 20) C dX12_deeper_17 mf_X12_365 rfl rfl k4 rfl ?_
    refine me_iconst (v := (1 : Int32)) (q := 21) C dX12_deeper_20 (by decide) rfl ?_
    refine me_iadd (q := 22) C dX12_deeper_21 rfl ?_
    obtain ⟨g5, eg5, hf⟩ := mm_lt_some hf
    refine me_putI (q := 25) C eg5 dX12_deeper_22 mf_X12_365 mp_X12_13_21 rfl (by decide) rfl k4 rfl ?_
    exact me_vret C hE (Nat.le_of_ble_eq_true rfl) (Nat.le_of_ble_eq_true rfl) rfl dX12_deeper_25 (mm_ru hf)
  refine me_icmp_ne (q2 := 15) (q := 9) C dX12_deeper_6 (by decide) rfl (fun c6 => ?_) (fun c6 => ?_)
  · have hf := mm_if_t c6 hf
    refine me_mask [true, false] (lv2 := [some (vR (some a0)), none]) rfl ?_
    exact Hq3 _ hf
  · have hf := mm_if_f c6 hf
    refine me_aload_n (q := 10) C dX12_deeper_9 rfl rfl rfl ?_
    refine me_iconst (v := (2 : Int32)) (q := 11) C dX12_deeper_10 (by decide) rfl ?_
    refine me_iload_n (q := 12) C dX12_deeper_11 rfl rfl rfl ?_
    obtain ⟨_, g7, e8, hf⟩ := mm_cl_some hf
    refine me_callV (q := 15) (c2 := 0) (s2 := 0) (st := []) C (cX12_fails_ok _ e8) mt_X12_352 mv_X12_fails rfl (by decide) dX12_deeper_12 rfl k1 rfl rfl rfl (Nat.le_of_ble_eq_true rfl) rfl (Nat.le_of_ble_eq_true rfl) rfl (Nat.le_of_ble_eq_true rfl) rfl rfl ?_
    refine me_mask [true, false] (lv2 := [some (vR (some a0)), none]) rfl ?_
    exact Hq3 _ hf
