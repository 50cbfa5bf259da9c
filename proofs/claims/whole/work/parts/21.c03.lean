set_option maxRecDepth 100000 in
set_option maxHeartbeats 4000000 in
theorem cX8_isKnown_ok (l : Launch) {a0 : Nat} {a1 : Int32} {a2 : Int32} {a3 : Int32} {h : mm_H} {r : Int32} {h1 : mm_H} (hf : fX8_isKnown a0 a1 a2 a3 h = some (r, h1)) : mm_M l yX8_isKnown cX8_isKnown 4 (some .boolean) 2 0 0 [vR (some a0), vI a1, vI a2, vI a3] h (some (vI r)) h1 := by
  refine mm_enter (lv := [some (vR (some a0)), some (vI a1), some (vI a2), some (vI a3)]) (by decide) rfl (Nat.le_of_ble_eq_true rfl) ?_
  intro X hl C hE
  subst hl
  unfold fX8_isKnown at hf
  refine me_aload_n (q := 1) C dX8_isKnown_0 rfl rfl rfl ?_
  obtain ⟨k1, hf⟩ := mm_ck_some hf
  refine me_getR (q := 4) C dX8_isKnown_1 mf_X8_11 rfl rfl k1 rfl ?_
  refine me_iload_n (q := 5) C dX8_isKnown_4 rfl rfl rfl ?_
  obtain ⟨u2, eu2, hf⟩ := mm_rf_some hf
  obtain ⟨k3, hf⟩ := mm_ck_some hf
  obtain ⟨k4, hf⟩ := mm_ck_some hf
  refine me_iald (q := 6) C dX8_isKnown_5 eu2 k3 k4 rfl ?_
  refine me_iload_n (q := 7) C dX8_isKnown_6 rfl rfl rfl ?_
  refine me_icmp_ne (q2 := 44) (q := 10) C dX8_isKnown_7 (by decide) rfl (fun c5 => ?_) (fun c5 => ?_)
  · have hf := mm_if_t c5 hf
    refine me_iconst (v := (0 : Int32)) (q := 45) C dX8_isKnown_44 (by decide) rfl ?_
    exact me_zret C hE (Nat.le_of_ble_eq_true rfl) (Nat.le_of_ble_eq_true rfl) rfl (Or.inl rfl) dX8_isKnown_45 (mm_ri hf)
  · have hf := mm_if_f c5 hf
    refine me_aload_n (q := 11) C dX8_isKnown_10 rfl rfl rfl ?_
    refine me_getR (q := 14) C dX8_isKnown_11 mf_X8_21 rfl rfl k1 rfl ?_
    refine me_iload_n (q := 15) C dX8_isKnown_14 rfl rfl rfl ?_
    obtain ⟨u6, eu6, hf⟩ := mm_rf_some hf
    obtain ⟨k7, hf⟩ := mm_ck_some hf
    obtain ⟨k8, hf⟩ := mm_ck_some hf
    refine me_iald (q := 16) C dX8_isKnown_15 eu6 k7 k8 rfl ?_
    refine me_iload_n (q := 17) C dX8_isKnown_16 rfl rfl rfl ?_
    refine me_icmp_gt (q2 := 44) (q := 20) C dX8_isKnown_17 (by decide) rfl (fun c9 => ?_) (fun c9 => ?_)
    · have hf := mm_if_t c9 hf
      refine me_iconst (v := (0 : Int32)) (q := 45) C dX8_isKnown_44 (by decide) rfl ?_
      exact me_zret C hE (Nat.le_of_ble_eq_true rfl) (Nat.le_of_ble_eq_true rfl) rfl (Or.inl rfl) dX8_isKnown_45 (mm_ri hf)
    · have hf := mm_if_f c9 hf
      refine me_aload_n (q := 21) C dX8_isKnown_20 rfl rfl rfl ?_
      refine me_getR (q := 24) C dX8_isKnown_21 mf_X8_24 rfl rfl k1 rfl ?_
      refine me_iload_n (q := 25) C dX8_isKnown_24 rfl rfl rfl ?_
      obtain ⟨u10, eu10, hf⟩ := mm_rf_some hf
      obtain ⟨k11, hf⟩ := mm_ck_some hf
      obtain ⟨k12, hf⟩ := mm_ck_some hf
      refine me_iald (q := 26) C dX8_isKnown_25 eu10 k11 k12 rfl ?_
      refine me_iconst (v := (-1 : Int32)) (q := 27) C dX8_isKnown_26 (by decide) rfl ?_
      refine me_icmp_eq (q2 := 40) (q := 30) C dX8_isKnown_27 (by decide) rfl (fun c13 => ?_) (fun c13 => ?_)
      · have hf := mm_if_t c13 hf
        refine me_iconst (v := (1 : Int32)) (q := 41) C dX8_isKnown_40 (by decide) rfl ?_
        refine me_goto (q := 45) C dX8_isKnown_41 (by decide) ?_
        exact me_zret C hE (Nat.le_of_ble_eq_true rfl) (Nat.le_of_ble_eq_true rfl) rfl (Or.inr rfl) dX8_isKnown_45 (mm_ri hf)
      · have hf := mm_if_f c13 hf
        refine me_iload_n (q := 31) C dX8_isKnown_30 rfl rfl rfl ?_
        refine me_aload_n (q := 32) C dX8_isKnown_31 rfl rfl rfl ?_
        refine me_getR (q := 35) C dX8_isKnown_32 mf_X8_24 rfl rfl k1 rfl ?_
        refine me_iload_n (q := 36) C dX8_isKnown_35 rfl rfl rfl ?_
        obtain ⟨k14, hf⟩ := mm_ck_some hf
        refine me_iald (q := 37) C dX8_isKnown_36 eu10 k11 k14 rfl ?_
        refine me_icmp_ge (q2 := 44) (q := 40) C dX8_isKnown_37 (by decide) rfl (fun c15 => ?_) (fun c15 => ?_)
        · have hf := mm_if_t c15 hf
          refine me_iconst (v := (0 : Int32)) (q := 45) C dX8_isKnown_44 (by decide) rfl ?_
          exact me_zret C hE (Nat.le_of_ble_eq_true rfl) (Nat.le_of_ble_eq_true rfl) rfl (Or.inl rfl) dX8_isKnown_45 (mm_ri hf)
        · have hf := mm_if_f c15 hf
          refine me_iconst (v := (1 : Int32)) (q := 41) C dX8_isKnown_40 (by decide) rfl ?_
          refine me_goto (q := 45) C dX8_isKnown_41 (by decide) ?_
          exact me_zret C hE (Nat.le_of_ble_eq_true rfl) (Nat.le_of_ble_eq_true rfl) rfl (Or.inr rfl) dX8_isKnown_45 (mm_ri hf)
set_option maxRecDepth 100000 in
set_option maxHeartbeats 4000000 in
theorem cX8_isWeighing_ok (l : Launch) {a0 : Nat} {a1 : Int32} {h : mm_H} {r : Int32} {h1 : mm_H} (hf : fX8_isWeighing a0 a1 h = some (r, h1)) : mm_M l yX8_isWeighing cX8_isWeighing 2 (some .boolean) 2 0 0 [vR (some a0), vI a1] h (some (vI r)) h1 := by
  refine mm_enter (lv := [some (vR (some a0)), some (vI a1)]) (by decide) rfl (Nat.le_of_ble_eq_true rfl) ?_
  intro X hl C hE
  subst hl
  unfold fX8_isWeighing at hf
  refine me_iload_n (q := 1) C dX8_isWeighing_0 rfl rfl rfl ?_
  refine me_if_lt (q2 := 16) (q := 4) C dX8_isWeighing_1 (by decide) rfl (fun c1 => ?_) (fun c1 => ?_)
  · have hf := mm_if_t c1 hf
    refine me_iconst (v := (0 : Int32)) (q := 17) C dX8_isWeighing_16 (by decide) rfl ?_
    exact me_zret C hE (Nat.le_of_ble_eq_true rfl) (Nat.le_of_ble_eq_true rfl) rfl (Or.inl rfl) dX8_isWeighing_17 (mm_ri hf)
  · have hf := mm_if_f c1 hf
    refine me_iload_n (q := 5) C dX8_isWeighing_4 rfl rfl rfl ?_
    refine me_aload_n (q := 6) C dX8_isWeighing_5 rfl rfl rfl ?_
    obtain ⟨k2, hf⟩ := mm_ck_some hf
    refine me_getI (q := 9) C dX8_isWeighing_6 mf_X8_27 rfl rfl k2 rfl ?_
    refine me_icmp_ge (q2 := 16) (q := 12) C dX8_isWeighing_9 (by decide) rfl (fun c3 => ?_) (fun c3 => ?_)
    · have hf := mm_if_t c3 hf
      refine me_iconst (v := (0 : Int32)) (q := 17) C dX8_isWeighing_16 (by decide) rfl ?_
      exact me_zret C hE (Nat.le_of_ble_eq_true rfl) (Nat.le_of_ble_eq_true rfl) rfl (Or.inl rfl) dX8_isWeighing_17 (mm_ri hf)
    · have hf := mm_if_f c3 hf
      refine me_iconst (v := (1 : Int32)) (q := 13) C dX8_isWeighing_12 (by decide) rfl ?_
      refine me_goto (q := 17) C dX8_isWeighing_13 (by decide) ?_
      exact me_zret C hE (Nat.le_of_ble_eq_true rfl) (Nat.le_of_ble_eq_true rfl) rfl (Or.inr rfl) dX8_isWeighing_17 (mm_ri hf)
set_option maxRecDepth 100000 in
set_option maxHeartbeats 4000000 in
theorem cX8_lowerAbove_ok (l : Launch) {a0 : Nat} {a1 : Int32} {h : mm_H} {r : Int32} {h1 : mm_H} (hf : fX8_lowerAbove a0 a1 h = some (r, h1)) : mm_M l yX8_lowerAbove cX8_lowerAbove 2 (some .int) 4 0 0 [vR (some a0), vI a1] h (some (vI r)) h1 := by
  refine mm_enter (lv := [some (vR (some a0)), some (vI a1)]) (by decide) rfl (Nat.le_of_ble_eq_true rfl) ?_
  intro X hl C hE
  subst hl
  unfold fX8_lowerAbove at hf
  refine me_aload_n (q := 1) C dX8_lowerAbove_0 rfl rfl rfl ?_
  refine me_iload_n (q := 2) C dX8_lowerAbove_1 rfl rfl rfl ?_
  obtain ⟨k1, hf⟩ := mm_ck_some hf
  obtain ⟨v2, g3, e4, hf⟩ := mm_cl_some hf
  refine me_callV (q := 5) (c2 := 0) (s2 := 0) (st := []) C (cX8_isWeighing_ok _ e4) mt_X8_55 mv_X8_isWeighing rfl (by decide) dX8_lowerAbove_2 rfl k1 rfl rfl rfl (Nat.le_of_ble_eq_true rfl) rfl (Nat.le_of_ble_eq_true rfl) rfl (Nat.le_of_ble_eq_true rfl) rfl rfl ?_
  refine me_if_eq (q2 := 19) (q := 8) C dX8_lowerAbove_5 (by decide) rfl (fun c5 => ?_) (fun c5 => ?_)
  · have hf := mm_if_t c5 hf
    refine me_iconst (v := (0 : Int32)) (q := 20) C dX8_lowerAbove_19 (by decide) rfl ?_
    exact me_iret C hE (Nat.le_of_ble_eq_true rfl) (Nat.le_of_ble_eq_true rfl) rfl dX8_lowerAbove_20 (mm_ri hf)
  · have hf := mm_if_f c5 hf
    refine me_aload_n (q := 9) C dX8_lowerAbove_8 rfl rfl rfl ?_
    obtain ⟨k6, hf⟩ := mm_ck_some hf
    refine me_getR (q := 12) C dX8_lowerAbove_9 mf_X8_18 rfl rfl k6 rfl ?_
    refine me_iload_n (q := 13) C dX8_lowerAbove_12 rfl rfl rfl ?_
    obtain ⟨u7, eu7, hf⟩ := mm_rf_some hf
    obtain ⟨k8, hf⟩ := mm_ck_some hf
    obtain ⟨k9, hf⟩ := mm_ck_some hf
    refine me_iald (q := 14) C dX8_lowerAbove_13 eu7 k8 k9 rfl ?_
    refine me_iconst (v := (1 : Int32)) (q := 15) C dX8_lowerAbove_14 (by decide) rfl ?_
    refine me_isub (q := 16) C dX8_lowerAbove_15 rfl ?_
    refine me_goto (q := 20) C dX8_lowerAbove_16 (by decide) ?_
    exact me_iret C hE (Nat.le_of_ble_eq_true rfl) (Nat.le_of_ble_eq_true rfl) rfl dX8_lowerAbove_20 (mm_ri hf)
set_option maxRecDepth 100000 in
set_option maxHeartbeats 4000000 in
theorem cX8_lowerBelow_ok (l : Launch) {a0 : Nat} {a1 : Int32} {h : mm_H} {r : Int32} {h1 : mm_H} (hf : fX8_lowerBelow a0 a1 h = some (r, h1)) : mm_M l yX8_lowerBelow cX8_lowerBelow 2 (some .int) 4 0 0 [vR (some a0), vI a1] h (some (vI r)) h1 := by
  refine mm_enter (lv := [some (vR (some a0)), some (vI a1)]) (by decide) rfl (Nat.le_of_ble_eq_true rfl) ?_
  intro X hl C hE
  subst hl
  unfold fX8_lowerBelow at hf
  refine me_aload_n (q := 1) C dX8_lowerBelow_0 rfl rfl rfl ?_
  refine me_iload_n (q := 2) C dX8_lowerBelow_1 rfl rfl rfl ?_
  obtain ⟨k1, hf⟩ := mm_ck_some hf
  obtain ⟨v2, g3, e4, hf⟩ := mm_cl_some hf
  refine me_callV (q := 5) (c2 := 0) (s2 := 0) (st := []) C (cX8_isWeighing_ok _ e4) mt_X8_55 mv_X8_isWeighing rfl (by decide) dX8_lowerBelow_2 rfl k1 rfl rfl rfl (Nat.le_of_ble_eq_true rfl) rfl (Nat.le_of_ble_eq_true rfl) rfl (Nat.le_of_ble_eq_true rfl) rfl rfl ?_
  refine me_if_eq (q2 := 19) (q := 8) C dX8_lowerBelow_5 (by decide) rfl (fun c5 => ?_) (fun c5 => ?_)
  · have hf := mm_if_t c5 hf
    refine me_iconst (v := (1 : Int32)) (q := 20) C dX8_lowerBelow_19 (by decide) rfl ?_
    exact me_iret C hE (Nat.le_of_ble_eq_true rfl) (Nat.le_of_ble_eq_true rfl) rfl dX8_lowerBelow_20 (mm_ri hf)
  · have hf := mm_if_f c5 hf
    refine me_aload_n (q := 9) C dX8_lowerBelow_8 rfl rfl rfl ?_
    obtain ⟨k6, hf⟩ := mm_ck_some hf
    refine me_getR (q := 12) C dX8_lowerBelow_9 mf_X8_15 rfl rfl k6 rfl ?_
    refine me_iload_n (q := 13) C dX8_lowerBelow_12 rfl rfl rfl ?_
    obtain ⟨u7, eu7, hf⟩ := mm_rf_some hf
    obtain ⟨k8, hf⟩ := mm_ck_some hf
    obtain ⟨k9, hf⟩ := mm_ck_some hf
    refine me_iald (q := 14) C dX8_lowerBelow_13 eu7 k8 k9 rfl ?_
    refine me_iconst (v := (1 : Int32)) (q := 15) C dX8_lowerBelow_14 (by decide) rfl ?_
    refine me_iadd (q := 16) C dX8_lowerBelow_15 rfl ?_
    refine me_goto (q := 20) C dX8_lowerBelow_16 (by decide) ?_
    exact me_iret C hE (Nat.le_of_ble_eq_true rfl) (Nat.le_of_ble_eq_true rfl) rfl dX8_lowerBelow_20 (mm_ri hf)
set_option maxRecDepth 100000 in
set_option maxHeartbeats 4000000 in
theorem cX8_lowerExceeds_ok (l : Launch) {a0 : Nat} {a1 : Int32} {a2 : Int32} {h : mm_H} {r : Int32} {h1 : mm_H} (hf : fX8_lowerExceeds a0 a1 a2 h = some (r, h1)) : mm_M l yX8_lowerExceeds cX8_lowerExceeds 3 (some .boolean) 6 0 0 [vR (some a0), vI a1, vI a2] h (some (vI r)) h1 := by
  refine mm_enter (lv := [some (vR (some a0)), some (vI a1), some (vI a2)]) (by decide) rfl (Nat.le_of_ble_eq_true rfl) ?_
  intro X hl C hE
  subst hl
  unfold fX8_lowerExceeds at hf
  refine me_aload_n (q := 1) C dX8_lowerExceeds_0 rfl rfl rfl ?_
  refine me_iload_n (q := 2) C dX8_lowerExceeds_1 rfl rfl rfl ?_
  obtain ⟨k1, hf⟩ := mm_ck_some hf
  obtain ⟨v2, g3, e4, hf⟩ := mm_cl_some hf
  refine me_callV (q := 5) (c2 := 0) (s2 := 0) (st := []) C (cX8_lowerAbove_ok _ e4) mt_X8_42 mv_X8_lowerAbove rfl (by decide) dX8_lowerExceeds_2 rfl k1 rfl rfl rfl (Nat.le_of_ble_eq_true rfl) rfl (Nat.le_of_ble_eq_true rfl) rfl (Nat.le_of_ble_eq_true rfl) rfl rfl ?_
  refine me_i2l (q := 6) C dX8_lowerExceeds_5 rfl ?_
  refine me_aload_n (q := 7) C dX8_lowerExceeds_6 rfl rfl rfl ?_
  refine me_iload_n (q := 8) C dX8_lowerExceeds_7 rfl rfl rfl ?_
  obtain ⟨k5, hf⟩ := mm_ck_some hf
  obtain ⟨v6, g7, e8, hf⟩ := mm_cl_some hf
  refine me_callV (q := 11) (c2 := 0) (s2 := 0) (st := [vJ (Int32.toInt64 v2)]) C (cX8_lowerBelow_ok _ e8) mt_X8_46 mv_X8_lowerBelow rfl (by decide) dX8_lowerExceeds_8 rfl k5 rfl rfl rfl (Nat.le_of_ble_eq_true rfl) rfl (Nat.le_of_ble_eq_true rfl) rfl (Nat.le_of_ble_eq_true rfl) rfl rfl ?_
  refine me_i2l (q := 12) C dX8_lowerExceeds_11 rfl ?_
  refine me_lmul (q := 13) C dX8_lowerExceeds_12 rfl ?_
  refine me_aload_n (q := 14) C dX8_lowerExceeds_13 rfl rfl rfl ?_
  refine me_iload_n (q := 15) C dX8_lowerExceeds_14 rfl rfl rfl ?_
  obtain ⟨k9, hf⟩ := mm_ck_some hf
  obtain ⟨v10, g11, e12, hf⟩ := mm_cl_some hf
  refine me_callV (q := 18) (c2 := 0) (s2 := 0) (st := [vJ ((Int32.toInt64 v2) * (Int32.toInt64 v6))]) C (cX8_lowerAbove_ok _ e12) mt_X8_42 mv_X8_lowerAbove rfl (by decide) dX8_lowerExceeds_15 rfl k9 rfl rfl rfl (Nat.le_of_ble_eq_true rfl) rfl (Nat.le_of_ble_eq_true rfl) rfl (Nat.le_of_ble_eq_true rfl) rfl rfl ?_
  refine me_i2l (q := 19) C dX8_lowerExceeds_18 rfl ?_
  refine me_aload_n (q := 20) C dX8_lowerExceeds_19 rfl rfl rfl ?_
  refine me_iload_n (q := 21) C dX8_lowerExceeds_20 rfl rfl rfl ?_
  obtain ⟨k13, hf⟩ := mm_ck_some hf
  obtain ⟨v14, g15, e16, hf⟩ := mm_cl_some hf
  refine me_callV (q := 24) (c2 := 0) (s2 := 0) (st := [vJ (Int32.toInt64 v10), vJ ((Int32.toInt64 v2) * (Int32.toInt64 v6))]) C (cX8_lowerBelow_ok _ e16) mt_X8_46 mv_X8_lowerBelow rfl (by decide) dX8_lowerExceeds_21 rfl k13 rfl rfl rfl (Nat.le_of_ble_eq_true rfl) rfl (Nat.le_of_ble_eq_true rfl) rfl (Nat.le_of_ble_eq_true rfl) rfl rfl ?_
  refine me_i2l (q := 25) C dX8_lowerExceeds_24 rfl ?_
  refine me_lmul (q := 26) C dX8_lowerExceeds_25 rfl ?_
  refine me_lcmp (q := 27) C dX8_lowerExceeds_26 rfl ?_
  refine me_if_le (q2 := 34) (q := 30) C dX8_lowerExceeds_27 (by decide) rfl (fun c17 => ?_) (fun c17 => ?_)
  · have hf := mm_if_t c17 hf
    refine me_iconst (v := (0 : Int32)) (q := 35) C dX8_lowerExceeds_34 (by decide) rfl ?_
    exact me_zret C hE (Nat.le_of_ble_eq_true rfl) (Nat.le_of_ble_eq_true rfl) rfl (Or.inl rfl) dX8_lowerExceeds_35 (mm_ri hf)
  · have hf := mm_if_f c17 hf
    refine me_iconst (v := (1 : Int32)) (q := 31) C dX8_lowerExceeds_30 (by decide) rfl ?_
    refine me_goto (q := 35) C dX8_lowerExceeds_31 (by decide) ?_
    exact me_zret C hE (Nat.le_of_ble_eq_true rfl) (Nat.le_of_ble_eq_true rfl) rfl (Or.inr rfl) dX8_lowerExceeds_35 (mm_ri hf)
set_option maxRecDepth 100000 in
set_option maxHeartbeats 4000000 in
theorem cX8_greatestLower_L5 {X : mm_X} (C : mm_C X cX8_greatestLower yX8_greatestLower 8 0 0) {r : Int32} {h1 : mm_H} (hE : mm_End X 0 0 (some .int) (some (vI r)) h1) {b0 : Nat} {b1 : Int32} {b2 : Int32} (K49 : Int32 → mm_H → Option (Int32 × mm_H)) : ∀ (n : Nat) (x3 : Int32) (x4 : Int32) (h : mm_H), fX8_greatestLower_L5 b0 b1 b2 K49 n x3 x4 h = some (r, h1) → (∀ (y3 : Int32) (h : mm_H), K49 y3 h = some (r, h1) → mm_E X h 0 0 49 [none, none, none, some (vI y3), none] []) → mm_E X h 0 0 5 [some (vR (some b0)), some (vI b1), some (vI b2), some (vI x3), some (vI x4)] [] := by
  intro n
  induction n with
  | zero =>
    intro x3 x4 h hf
    exact absurd (show (none : Option (Int32 × mm_H)) = some (r, h1) from hf) (by simp)
  | succ n ih =>
    intro x3 x4 h hf hk49
    have hf : fX8_greatestLower_L5_b b0 b1 b2 K49 (fX8_greatestLower_L5 b0 b1 b2 K49 n) x3 x4 h = some (r, h1) := hf
    unfold fX8_greatestLower_L5_b at hf
    refine me_iload (q := 7) C dX8_greatestLower_5 rfl rfl ?_
    refine me_aload_n (q := 8) C dX8_greatestLower_7 rfl rfl rfl ?_
    obtain ⟨k1, hf⟩ := mm_ck_some hf
    refine me_getI (q := 11) C dX8_greatestLower_8 mf_X8_27 rfl rfl k1 rfl ?_
    refine me_icmp_ge (q2 := 49) (q := 14) C dX8_greatestLower_11 (by decide) rfl (fun c2 => ?_) (fun c2 => ?_)
    · have hf := mm_if_t c2 hf
      refine me_mask [false, false, false, true, false] (lv2 := [none, none, none, some (vI x3), none]) rfl ?_
      exact hk49 _ _ hf
    · have hf := mm_if_f c2 hf
      refine me_aload_n (q := 15) C dX8_greatestLower_14 rfl rfl rfl ?_
      refine me_iload (q := 17) C dX8_greatestLower_15 rfl rfl ?_
      refine me_iload_n (q := 18) C dX8_greatestLower_17 rfl rfl rfl ?_
      refine me_iload_n (q := 19) C dX8_greatestLower_18 rfl rfl rfl ?_
      obtain ⟨v3, g4, e5, hf⟩ := mm_cl_some hf
      refine me_callV (q := 22) (c2 := 0) (s2 := 0) (st := []) C (cX8_isKnown_ok _ e5) mt_X8_31 mv_X8_isKnown rfl (by decide) dX8_greatestLower_19 rfl k1 rfl rfl rfl (Nat.le_of_ble_eq_true rfl) rfl (Nat.le_of_ble_eq_true rfl) rfl (Nat.le_of_ble_eq_true rfl) rfl rfl ?_
      obtain ⟨q8, eq8, hf⟩ := mm_jn_some hf
      have Hq8 : ∀ (v6 : Int32) (g7 : mm_H), q8 v6 g7 = some (r, h1) → mm_E X g7 0 0 43 [some (vR (some b0)), some (vI b1), some (vI b2), some (vI v6), some (vI x4)] [] := by
        intro v6 g7 hf
        subst eq8
        obtain ⟨v9, ev9, hf⟩ := mm_lt_some hf
        refine me_iinc (q := 46) (v := v9) (lv2 := [some (vR (some b0)), some (vI b1), some (vI b2), some (vI v6), some (vI v9)]) C dX8_greatestLower_43 rfl (by rw [ev9]; rfl) (Nat.le_of_ble_eq_true rfl) rfl rfl rfl ?_
        refine me_goto (q := 5) C dX8_greatestLower_46 (by decide) ?_
        exact ih _ _ _ hf hk49
      refine me_if_eq (q2 := 43) (q := 25) C dX8_greatestLower_22 (by decide) rfl (fun c10 => ?_) (fun c10 => ?_)
      · have hf := mm_if_t c10 hf
        exact Hq8 _ _ hf
      · have hf := mm_if_f c10 hf
        refine me_iload_n (q := 26) C dX8_greatestLower_25 rfl rfl rfl ?_
        refine me_iconst (v := (-1 : Int32)) (q := 27) C dX8_greatestLower_26 (by decide) rfl ?_
        obtain ⟨q12, eq12, hf⟩ := mm_jn_some hf
        have Hq12 : ∀ (g11 : mm_H), q12 g11 = some (r, h1) → mm_E X g11 0 0 40 [some (vR (some b0)), some (vI b1), some (vI b2), none, some (vI x4)] [] := by
          intro g11 hf
          subst eq12
          refine me_iload (q := 42) C dX8_greatestLower_40 rfl rfl ?_
          refine me_istore_n (q := 43) (lv2 := [some (vR (some b0)), some (vI b1), some (vI b2), some (vI x4), some (vI x4)]) C dX8_greatestLower_42 rfl (Nat.le_of_ble_eq_true rfl) rfl rfl rfl ?_
          exact Hq8 _ _ hf
        refine me_icmp_eq (q2 := 40) (q := 30) C dX8_greatestLower_27 (by decide) rfl (fun c13 => ?_) (fun c13 => ?_)
        · have hf := mm_if_t c13 hf
          refine me_mask [true, true, true, false, true] (lv2 := [some (vR (some b0)), some (vI b1), some (vI b2), none, some (vI x4)]) rfl ?_
          exact Hq12 _ hf
        · have hf := mm_if_f c13 hf
          refine me_aload_n (q := 31) C dX8_greatestLower_30 rfl rfl rfl ?_
          refine me_iload (q := 33) C dX8_greatestLower_31 rfl rfl ?_
          refine me_iload_n (q := 34) C dX8_greatestLower_33 rfl rfl rfl ?_
          obtain ⟨k14, hf⟩ := mm_ck_some hf
          obtain ⟨v15, g16, e17, hf⟩ := mm_cl_some hf
          refine me_callV (q := 37) (c2 := 0) (s2 := 0) (st := []) C (cX8_lowerExceeds_ok _ e17) mt_X8_35 mv_X8_lowerExceeds rfl (by decide) dX8_greatestLower_34 rfl k14 rfl rfl rfl (Nat.le_of_ble_eq_true rfl) rfl (Nat.le_of_ble_eq_true rfl) rfl (Nat.le_of_ble_eq_true rfl) rfl rfl ?_
          refine me_if_eq (q2 := 43) (q := 40) C dX8_greatestLower_37 (by decide) rfl (fun c18 => ?_) (fun c18 => ?_)
          · have hf := mm_if_t c18 hf
            exact Hq8 _ _ hf
          · have hf := mm_if_f c18 hf
            refine me_mask [true, true, true, false, true] (lv2 := [some (vR (some b0)), some (vI b1), some (vI b2), none, some (vI x4)]) rfl ?_
            exact Hq12 _ hf
set_option maxRecDepth 100000 in
set_option maxHeartbeats 4000000 in
theorem cX8_greatestLower_ok (l : Launch) {a0 : Nat} {a1 : Int32} {a2 : Int32} {h : mm_H} {r : Int32} {h1 : mm_H} (hf : fX8_greatestLower a0 a1 a2 h = some (r, h1)) : mm_M l yX8_greatestLower cX8_greatestLower 5 (some .int) 8 0 0 [vR (some a0), vI a1, vI a2] h (some (vI r)) h1 := by
  refine mm_enter (lv := [some (vR (some a0)), some (vI a1), some (vI a2), none, none]) (by decide) rfl (Nat.le_of_ble_eq_true rfl) ?_
  intro X hl C hE
  subst hl
  unfold fX8_greatestLower at hf
  refine me_iconst (v := (-1 : Int32)) (q := 1) C dX8_greatestLower_0 (by decide) rfl ?_
  refine me_istore_n (q := 2) (lv2 := [some (vR (some a0)), some (vI a1), some (vI a2), some (vI (-1 : Int32)), none]) C dX8_greatestLower_1 rfl (Nat.le_of_ble_eq_true rfl) rfl rfl rfl ?_
  refine me_iconst (v := (0 : Int32)) (q := 3) C dX8_greatestLower_2 (by decide) rfl ?_
  refine me_istore (q := 5) (lv2 := [some (vR (some a0)), some (vI a1), some (vI a2), some (vI (-1 : Int32)), some (vI (0 : Int32))]) C dX8_greatestLower_3 (Nat.le_of_ble_eq_true rfl) rfl rfl rfl ?_
  refine cX8_greatestLower_L5 C hE _ _ _ _ _ hf ?_
  · intro z19 g20 hf
    refine me_iload_n (q := 50) C dX8_greatestLower_49 rfl rfl rfl ?_
    exact me_iret C hE (Nat.le_of_ble_eq_true rfl) (Nat.le_of_ble_eq_true rfl) rfl dX8_greatestLower_50 (mm_ri hf)
set_option maxRecDepth 100000 in
set_option maxHeartbeats 4000000 in
theorem cX8_upperAbove_ok (l : Launch) {a0 : Nat} {a1 : Int32} {h : mm_H} {r : Int32} {h1 : mm_H} (hf : fX8_upperAbove a0 a1 h = some (r, h1)) : mm_M l yX8_upperAbove cX8_upperAbove 2 (some .int) 4 0 0 [vR (some a0), vI a1] h (some (vI r)) h1 := by
  refine mm_enter (lv := [some (vR (some a0)), some (vI a1)]) (by decide) rfl (Nat.le_of_ble_eq_true rfl) ?_
  intro X hl C hE
  subst hl
  unfold fX8_upperAbove at hf
  refine me_aload_n (q := 1) C dX8_upperAbove_0 rfl rfl rfl ?_
  refine me_iload_n (q := 2) C dX8_upperAbove_1 rfl rfl rfl ?_
  obtain ⟨k1, hf⟩ := mm_ck_some hf
  obtain ⟨v2, g3, e4, hf⟩ := mm_cl_some hf
  refine me_callV (q := 5) (c2 := 0) (s2 := 0) (st := []) C (cX8_isWeighing_ok _ e4) mt_X8_55 mv_X8_isWeighing rfl (by decide) dX8_upperAbove_2 rfl k1 rfl rfl rfl (Nat.le_of_ble_eq_true rfl) rfl (Nat.le_of_ble_eq_true rfl) rfl (Nat.le_of_ble_eq_true rfl) rfl rfl ?_
  refine me_if_eq (q2 := 19) (q := 8) C dX8_upperAbove_5 (by decide) rfl (fun c5 => ?_) (fun c5 => ?_)
  · have hf := mm_if_t c5 hf
    refine me_iconst (v := (1 : Int32)) (q := 20) C dX8_upperAbove_19 (by decide) rfl ?_
    exact me_iret C hE (Nat.le_of_ble_eq_true rfl) (Nat.le_of_ble_eq_true rfl) rfl dX8_upperAbove_20 (mm_ri hf)
  · have hf := mm_if_f c5 hf
    refine me_aload_n (q := 9) C dX8_upperAbove_8 rfl rfl rfl ?_
    obtain ⟨k6, hf⟩ := mm_ck_some hf
    refine me_getR (q := 12) C dX8_upperAbove_9 mf_X8_18 rfl rfl k6 rfl ?_
    refine me_iload_n (q := 13) C dX8_upperAbove_12 rfl rfl rfl ?_
    obtain ⟨u7, eu7, hf⟩ := mm_rf_some hf
    obtain ⟨k8, hf⟩ := mm_ck_some hf
    obtain ⟨k9, hf⟩ := mm_ck_some hf
    refine me_iald (q := 14) C dX8_upperAbove_13 eu7 k8 k9 rfl ?_
    refine me_iconst (v := (1 : Int32)) (q := 15) C dX8_upperAbove_14 (by decide) rfl ?_
    refine me_iadd (q := 16) C dX8_upperAbove_15 rfl ?_
    refine me_goto (q := 20) C dX8_upperAbove_16 (by decide) ?_
    exact me_iret C hE (Nat.le_of_ble_eq_true rfl) (Nat.le_of_ble_eq_true rfl) rfl dX8_upperAbove_20 (mm_ri hf)
set_option maxRecDepth 100000 in
set_option maxHeartbeats 4000000 in
theorem cX8_upperBelow_ok (l : Launch) {a0 : Nat} {a1 : Int32} {h : mm_H} {r : Int32} {h1 : mm_H} (hf : fX8_upperBelow a0 a1 h = some (r, h1)) : mm_M l yX8_upperBelow cX8_upperBelow 2 (some .int) 4 0 0 [vR (some a0), vI a1] h (some (vI r)) h1 := by
  refine mm_enter (lv := [some (vR (some a0)), some (vI a1)]) (by decide) rfl (Nat.le_of_ble_eq_true rfl) ?_
  intro X hl C hE
  subst hl
  unfold fX8_upperBelow at hf
  refine me_aload_n (q := 1) C dX8_upperBelow_0 rfl rfl rfl ?_
  refine me_iload_n (q := 2) C dX8_upperBelow_1 rfl rfl rfl ?_
  obtain ⟨k1, hf⟩ := mm_ck_some hf
  obtain ⟨v2, g3, e4, hf⟩ := mm_cl_some hf
  refine me_callV (q := 5) (c2 := 0) (s2 := 0) (st := []) C (cX8_isWeighing_ok _ e4) mt_X8_55 mv_X8_isWeighing rfl (by decide) dX8_upperBelow_2 rfl k1 rfl rfl rfl (Nat.le_of_ble_eq_true rfl) rfl (Nat.le_of_ble_eq_true rfl) rfl (Nat.le_of_ble_eq_true rfl) rfl rfl ?_
  refine me_if_eq (q2 := 19) (q := 8) C dX8_upperBelow_5 (by decide) rfl (fun c5 => ?_) (fun c5 => ?_)
  · have hf := mm_if_t c5 hf
    refine me_iconst (v := (0 : Int32)) (q := 20) C dX8_upperBelow_19 (by decide) rfl ?_
    exact me_iret C hE (Nat.le_of_ble_eq_true rfl) (Nat.le_of_ble_eq_true rfl) rfl dX8_upperBelow_20 (mm_ri hf)
  · have hf := mm_if_f c5 hf
    refine me_aload_n (q := 9) C dX8_upperBelow_8 rfl rfl rfl ?_
    obtain ⟨k6, hf⟩ := mm_ck_some hf
    refine me_getR (q := 12) C dX8_upperBelow_9 mf_X8_15 rfl rfl k6 rfl ?_
    refine me_iload_n (q := 13) C dX8_upperBelow_12 rfl rfl rfl ?_
    obtain ⟨u7, eu7, hf⟩ := mm_rf_some hf
    obtain ⟨k8, hf⟩ := mm_ck_some hf
    obtain ⟨k9, hf⟩ := mm_ck_some hf
    refine me_iald (q := 14) C dX8_upperBelow_13 eu7 k8 k9 rfl ?_
    refine me_iconst (v := (1 : Int32)) (q := 15) C dX8_upperBelow_14 (by decide) rfl ?_
    refine me_isub (q := 16) C dX8_upperBelow_15 rfl ?_
    refine me_goto (q := 20) C dX8_upperBelow_16 (by decide) ?_
    exact me_iret C hE (Nat.le_of_ble_eq_true rfl) (Nat.le_of_ble_eq_true rfl) rfl dX8_upperBelow_20 (mm_ri hf)
set_option maxRecDepth 100000 in
set_option maxHeartbeats 4000000 in
theorem cX8_upperExceeds_ok (l : Launch) {a0 : Nat} {a1 : Int32} {a2 : Int32} {h : mm_H} {r : Int32} {h1 : mm_H} (hf : fX8_upperExceeds a0 a1 a2 h = some (r, h1)) : mm_M l yX8_upperExceeds cX8_upperExceeds 3 (some .boolean) 6 0 0 [vR (some a0), vI a1, vI a2] h (some (vI r)) h1 := by
  refine mm_enter (lv := [some (vR (some a0)), some (vI a1), some (vI a2)]) (by decide) rfl (Nat.le_of_ble_eq_true rfl) ?_
  intro X hl C hE
  subst hl
  unfold fX8_upperExceeds at hf
  refine me_aload_n (q := 1) C dX8_upperExceeds_0 rfl rfl rfl ?_
  refine me_iload_n (q := 2) C dX8_upperExceeds_1 rfl rfl rfl ?_
  obtain ⟨k1, hf⟩ := mm_ck_some hf
  obtain ⟨v2, g3, e4, hf⟩ := mm_cl_some hf
  refine me_callV (q := 5) (c2 := 0) (s2 := 0) (st := []) C (cX8_upperAbove_ok _ e4) mt_X8_49 mv_X8_upperAbove rfl (by decide) dX8_upperExceeds_2 rfl k1 rfl rfl rfl (Nat.le_of_ble_eq_true rfl) rfl (Nat.le_of_ble_eq_true rfl) rfl (Nat.le_of_ble_eq_true rfl) rfl rfl ?_
  refine me_i2l (q := 6) C dX8_upperExceeds_5 rfl ?_
  refine me_aload_n (q := 7) C dX8_upperExceeds_6 rfl rfl rfl ?_
  refine me_iload_n (q := 8) C dX8_upperExceeds_7 rfl rfl rfl ?_
  obtain ⟨k5, hf⟩ := mm_ck_some hf
  obtain ⟨v6, g7, e8, hf⟩ := mm_cl_some hf
  refine me_callV (q := 11) (c2 := 0) (s2 := 0) (st := [vJ (Int32.toInt64 v2)]) C (cX8_upperBelow_ok _ e8) mt_X8_52 mv_X8_upperBelow rfl (by decide) dX8_upperExceeds_8 rfl k5 rfl rfl rfl (Nat.le_of_ble_eq_true rfl) rfl (Nat.le_of_ble_eq_true rfl) rfl (Nat.le_of_ble_eq_true rfl) rfl rfl ?_
  refine me_i2l (q := 12) C dX8_upperExceeds_11 rfl ?_
  refine me_lmul (q := 13) C dX8_upperExceeds_12 rfl ?_
  refine me_aload_n (q := 14) C dX8_upperExceeds_13 rfl rfl rfl ?_
  refine me_iload_n (q := 15) C dX8_upperExceeds_14 rfl rfl rfl ?_
  obtain ⟨k9, hf⟩ := mm_ck_some hf
  obtain ⟨v10, g11, e12, hf⟩ := mm_cl_some hf
  refine me_callV (q := 18) (c2 := 0) (s2 := 0) (st := [vJ ((Int32.toInt64 v2) * (Int32.toInt64 v6))]) C (cX8_upperAbove_ok _ e12) mt_X8_49 mv_X8_upperAbove rfl (by decide) dX8_upperExceeds_15 rfl k9 rfl rfl rfl (Nat.le_of_ble_eq_true rfl) rfl (Nat.le_of_ble_eq_true rfl) rfl (Nat.le_of_ble_eq_true rfl) rfl rfl ?_
  refine me_i2l (q := 19) C dX8_upperExceeds_18 rfl ?_
  refine me_aload_n (q := 20) C dX8_upperExceeds_19 rfl rfl rfl ?_
  refine me_iload_n (q := 21) C dX8_upperExceeds_20 rfl rfl rfl ?_
  obtain ⟨k13, hf⟩ := mm_ck_some hf
  obtain ⟨v14, g15, e16, hf⟩ := mm_cl_some hf
  refine me_callV (q := 24) (c2 := 0) (s2 := 0) (st := [vJ (Int32.toInt64 v10), vJ ((Int32.toInt64 v2) * (Int32.toInt64 v6))]) C (cX8_upperBelow_ok _ e16) mt_X8_52 mv_X8_upperBelow rfl (by decide) dX8_upperExceeds_21 rfl k13 rfl rfl rfl (Nat.le_of_ble_eq_true rfl) rfl (Nat.le_of_ble_eq_true rfl) rfl (Nat.le_of_ble_eq_true rfl) rfl rfl ?_
  refine me_i2l (q := 25) C dX8_upperExceeds_24 rfl ?_
  refine me_lmul (q := 26) C dX8_upperExceeds_25 rfl ?_
  refine me_lcmp (q := 27) C dX8_upperExceeds_26 rfl ?_
  refine me_if_le (q2 := 34) (q := 30) C dX8_upperExceeds_27 (by decide) rfl (fun c17 => ?_) (fun c17 => ?_)
  · have hf := mm_if_t c17 hf
    refine me_iconst (v := (0 : Int32)) (q := 35) C dX8_upperExceeds_34 (by decide) rfl ?_
    exact me_zret C hE (Nat.le_of_ble_eq_true rfl) (Nat.le_of_ble_eq_true rfl) rfl (Or.inl rfl) dX8_upperExceeds_35 (mm_ri hf)
  · have hf := mm_if_f c17 hf
    refine me_iconst (v := (1 : Int32)) (q := 31) C dX8_upperExceeds_30 (by decide) rfl ?_
    refine me_goto (q := 35) C dX8_upperExceeds_31 (by decide) ?_
    exact me_zret C hE (Nat.le_of_ble_eq_true rfl) (Nat.le_of_ble_eq_true rfl) rfl (Or.inr rfl) dX8_upperExceeds_35 (mm_ri hf)
set_option maxRecDepth 100000 in
set_option maxHeartbeats 4000000 in
theorem cX8_leastUpper_L5 {X : mm_X} (C : mm_C X cX8_leastUpper yX8_leastUpper 8 0 0) {r : Int32} {h1 : mm_H} (hE : mm_End X 0 0 (some .int) (some (vI r)) h1) {b0 : Nat} {b1 : Int32} {b2 : Int32} (K49 : Int32 → mm_H → Option (Int32 × mm_H)) : ∀ (n : Nat) (x3 : Int32) (x4 : Int32) (h : mm_H), fX8_leastUpper_L5 b0 b1 b2 K49 n x3 x4 h = some (r, h1) → (∀ (y3 : Int32) (h : mm_H), K49 y3 h = some (r, h1) → mm_E X h 0 0 49 [none, none, none, some (vI y3), none] []) → mm_E X h 0 0 5 [some (vR (some b0)), some (vI b1), some (vI b2), some (vI x3), some (vI x4)] [] := by
  intro n
  induction n with
  | zero =>
    intro x3 x4 h hf
    exact absurd (show (none : Option (Int32 × mm_H)) = some (r, h1) from hf) (by simp)
  | succ n ih =>
    intro x3 x4 h hf hk49
    have hf : fX8_leastUpper_L5_b b0 b1 b2 K49 (fX8_leastUpper_L5 b0 b1 b2 K49 n) x3 x4 h = some (r, h1) := hf
    unfold fX8_leastUpper_L5_b at hf
    refine me_iload (q := 7) C dX8_leastUpper_5 rfl rfl ?_
    refine me_aload_n (q := 8) C dX8_leastUpper_7 rfl rfl rfl ?_
    obtain ⟨k1, hf⟩ := mm_ck_some hf
    refine me_getI (q := 11) C dX8_leastUpper_8 mf_X8_27 rfl rfl k1 rfl ?_
    refine me_icmp_ge (q2 := 49) (q := 14) C dX8_leastUpper_11 (by decide) rfl (fun c2 => ?_) (fun c2 => ?_)
    · have hf := mm_if_t c2 hf
      refine me_mask [false, false, false, true, false] (lv2 := [none, none, none, some (vI x3), none]) rfl ?_
      exact hk49 _ _ hf
    · have hf := mm_if_f c2 hf
      refine me_aload_n (q := 15) C dX8_leastUpper_14 rfl rfl rfl ?_
      refine me_iload (q := 17) C dX8_leastUpper_15 rfl rfl ?_
      refine me_iload_n (q := 18) C dX8_leastUpper_17 rfl rfl rfl ?_
      refine me_iload_n (q := 19) C dX8_leastUpper_18 rfl rfl rfl ?_
      obtain ⟨v3, g4, e5, hf⟩ := mm_cl_some hf
      refine me_callV (q := 22) (c2 := 0) (s2 := 0) (st := []) C (cX8_isKnown_ok _ e5) mt_X8_31 mv_X8_isKnown rfl (by decide) dX8_leastUpper_19 rfl k1 rfl rfl rfl (Nat.le_of_ble_eq_true rfl) rfl (Nat.le_of_ble_eq_true rfl) rfl (Nat.le_of_ble_eq_true rfl) rfl rfl ?_
      obtain ⟨q8, eq8, hf⟩ := mm_jn_some hf
      have Hq8 : ∀ (v6 : Int32) (g7 : mm_H), q8 v6 g7 = some (r, h1) → mm_E X g7 0 0 43 [some (vR (some b0)), some (vI b1), some (vI b2), some (vI v6), some (vI x4)] [] := by
        intro v6 g7 hf
        subst eq8
        obtain ⟨v9, ev9, hf⟩ := mm_lt_some hf
        refine me_iinc (q := 46) (v := v9) (lv2 := [some (vR (some b0)), some (vI b1), some (vI b2), some (vI v6), some (vI v9)]) C dX8_leastUpper_43 rfl (by rw [ev9]; rfl) (Nat.le_of_ble_eq_true rfl) rfl rfl rfl ?_
        refine me_goto (q := 5) C dX8_leastUpper_46 (by decide) ?_
        exact ih _ _ _ hf hk49
      refine me_if_eq (q2 := 43) (q := 25) C dX8_leastUpper_22 (by decide) rfl (fun c10 => ?_) (fun c10 => ?_)
      · have hf := mm_if_t c10 hf
        exact Hq8 _ _ hf
      · have hf := mm_if_f c10 hf
        refine me_iload_n (q := 26) C dX8_leastUpper_25 rfl rfl rfl ?_
        refine me_iconst (v := (-1 : Int32)) (q := 27) C dX8_leastUpper_26 (by decide) rfl ?_
        obtain ⟨q12, eq12, hf⟩ := mm_jn_some hf
        have Hq12 : ∀ (g11 : mm_H), q12 g11 = some (r, h1) → mm_E X g11 0 0 40 [some (vR (some b0)), some (vI b1), some (vI b2), none, some (vI x4)] [] := by
          intro g11 hf
          subst eq12
          refine me_iload (q := 42) C dX8_leastUpper_40 rfl rfl ?_
          refine me_istore_n (q := 43) (lv2 := [some (vR (some b0)), some (vI b1), some (vI b2), some (vI x4), some (vI x4)]) C dX8_leastUpper_42 rfl (Nat.le_of_ble_eq_true rfl) rfl rfl rfl ?_
          exact Hq8 _ _ hf
        refine me_icmp_eq (q2 := 40) (q := 30) C dX8_leastUpper_27 (by decide) rfl (fun c13 => ?_) (fun c13 => ?_)
        · have hf := mm_if_t c13 hf
          refine me_mask [true, true, true, false, true] (lv2 := [some (vR (some b0)), some (vI b1), some (vI b2), none, some (vI x4)]) rfl ?_
          exact Hq12 _ hf
        · have hf := mm_if_f c13 hf
          refine me_aload_n (q := 31) C dX8_leastUpper_30 rfl rfl rfl ?_
          refine me_iload_n (q := 32) C dX8_leastUpper_31 rfl rfl rfl ?_
          refine me_iload (q := 34) C dX8_leastUpper_32 rfl rfl ?_
          obtain ⟨k14, hf⟩ := mm_ck_some hf
          obtain ⟨v15, g16, e17, hf⟩ := mm_cl_some hf
          refine me_callV (q := 37) (c2 := 0) (s2 := 0) (st := []) C (cX8_upperExceeds_ok _ e17) mt_X8_39 mv_X8_upperExceeds rfl (by decide) dX8_leastUpper_34 rfl k14 rfl rfl rfl (Nat.le_of_ble_eq_true rfl) rfl (Nat.le_of_ble_eq_true rfl) rfl (Nat.le_of_ble_eq_true rfl) rfl rfl ?_
          refine me_if_eq (q2 := 43) (q := 40) C dX8_leastUpper_37 (by decide) rfl (fun c18 => ?_) (fun c18 => ?_)
          · have hf := mm_if_t c18 hf
            exact Hq8 _ _ hf
          · have hf := mm_if_f c18 hf
            refine me_mask [true, true, true, false, true] (lv2 := [some (vR (some b0)), some (vI b1), some (vI b2), none, some (vI x4)]) rfl ?_
            exact Hq12 _ hf
set_option maxRecDepth 100000 in
set_option maxHeartbeats 4000000 in
theorem cX8_leastUpper_ok (l : Launch) {a0 : Nat} {a1 : Int32} {a2 : Int32} {h : mm_H} {r : Int32} {h1 : mm_H} (hf : fX8_leastUpper a0 a1 a2 h = some (r, h1)) : mm_M l yX8_leastUpper cX8_leastUpper 5 (some .int) 8 0 0 [vR (some a0), vI a1, vI a2] h (some (vI r)) h1 := by
  refine mm_enter (lv := [some (vR (some a0)), some (vI a1), some (vI a2), none, none]) (by decide) rfl (Nat.le_of_ble_eq_true rfl) ?_
  intro X hl C hE
  subst hl
  unfold fX8_leastUpper at hf
  refine me_iconst (v := (-1 : Int32)) (q := 1) C dX8_leastUpper_0 (by decide) rfl ?_
  refine me_istore_n (q := 2) (lv2 := [some (vR (some a0)), some (vI a1), some (vI a2), some (vI (-1 : Int32)), none]) C dX8_leastUpper_1 rfl (Nat.le_of_ble_eq_true rfl) rfl rfl rfl ?_
  refine me_iconst (v := (0 : Int32)) (q := 3) C dX8_leastUpper_2 (by decide) rfl ?_
  refine me_istore (q := 5) (lv2 := [some (vR (some a0)), some (vI a1), some (vI a2), some (vI (-1 : Int32)), some (vI (0 : Int32))]) C dX8_leastUpper_3 (Nat.le_of_ble_eq_true rfl) rfl rfl rfl ?_
  refine cX8_leastUpper_L5 C hE _ _ _ _ _ hf ?_
  · intro z19 g20 hf
    refine me_iload_n (q := 50) C dX8_leastUpper_49 rfl rfl rfl ?_
    exact me_iret C hE (Nat.le_of_ble_eq_true rfl) (Nat.le_of_ble_eq_true rfl) rfl dX8_leastUpper_50 (mm_ri hf)
set_option maxRecDepth 100000 in
set_option maxHeartbeats 4000000 in
theorem cX8_liesAbove_ok (l : Launch) {a0 : Nat} {a1 : Int32} {a2 : Int32} {h : mm_H} {r : Int32} {h1 : mm_H} (hf : fX8_liesAbove a0 a1 a2 h = some (r, h1)) : mm_M l yX8_liesAbove cX8_liesAbove 3 (some .boolean) 6 0 0 [vR (some a0), vI a1, vI a2] h (some (vI r)) h1 := by
  refine mm_enter (lv := [some (vR (some a0)), some (vI a1), some (vI a2)]) (by decide) rfl (Nat.le_of_ble_eq_true rfl) ?_
  intro X hl C hE
  subst hl
  unfold fX8_liesAbove at hf
  refine me_aload_n (q := 1) C dX8_liesAbove_0 rfl rfl rfl ?_
  refine me_iload_n (q := 2) C dX8_liesAbove_1 rfl rfl rfl ?_
  obtain ⟨k1, hf⟩ := mm_ck_some hf
  obtain ⟨v2, g3, e4, hf⟩ := mm_cl_some hf
  refine me_callV (q := 5) (c2 := 0) (s2 := 0) (st := []) C (cX8_lowerAbove_ok _ e4) mt_X8_42 mv_X8_lowerAbove rfl (by decide) dX8_liesAbove_2 rfl k1 rfl rfl rfl (Nat.le_of_ble_eq_true rfl) rfl (Nat.le_of_ble_eq_true rfl) rfl (Nat.le_of_ble_eq_true rfl) rfl rfl ?_
  refine me_i2l (q := 6) C dX8_liesAbove_5 rfl ?_
  refine me_aload_n (q := 7) C dX8_liesAbove_6 rfl rfl rfl ?_
  refine me_iload_n (q := 8) C dX8_liesAbove_7 rfl rfl rfl ?_
  obtain ⟨k5, hf⟩ := mm_ck_some hf
  obtain ⟨v6, g7, e8, hf⟩ := mm_cl_some hf
  refine me_callV (q := 11) (c2 := 0) (s2 := 0) (st := [vJ (Int32.toInt64 v2)]) C (cX8_upperBelow_ok _ e8) mt_X8_52 mv_X8_upperBelow rfl (by decide) dX8_liesAbove_8 rfl k5 rfl rfl rfl (Nat.le_of_ble_eq_true rfl) rfl (Nat.le_of_ble_eq_true rfl) rfl (Nat.le_of_ble_eq_true rfl) rfl rfl ?_
  refine me_i2l (q := 12) C dX8_liesAbove_11 rfl ?_
  refine me_lmul (q := 13) C dX8_liesAbove_12 rfl ?_
  refine me_aload_n (q := 14) C dX8_liesAbove_13 rfl rfl rfl ?_
  refine me_iload_n (q := 15) C dX8_liesAbove_14 rfl rfl rfl ?_
  obtain ⟨k9, hf⟩ := mm_ck_some hf
  obtain ⟨v10, g11, e12, hf⟩ := mm_cl_some hf
  refine me_callV (q := 18) (c2 := 0) (s2 := 0) (st := [vJ ((Int32.toInt64 v2) * (Int32.toInt64 v6))]) C (cX8_upperAbove_ok _ e12) mt_X8_49 mv_X8_upperAbove rfl (by decide) dX8_liesAbove_15 rfl k9 rfl rfl rfl (Nat.le_of_ble_eq_true rfl) rfl (Nat.le_of_ble_eq_true rfl) rfl (Nat.le_of_ble_eq_true rfl) rfl rfl ?_
  refine me_i2l (q := 19) C dX8_liesAbove_18 rfl ?_
  refine me_aload_n (q := 20) C dX8_liesAbove_19 rfl rfl rfl ?_
  refine me_iload_n (q := 21) C dX8_liesAbove_20 rfl rfl rfl ?_
  obtain ⟨k13, hf⟩ := mm_ck_some hf
  obtain ⟨v14, g15, e16, hf⟩ := mm_cl_some hf
  refine me_callV (q := 24) (c2 := 0) (s2 := 0) (st := [vJ (Int32.toInt64 v10), vJ ((Int32.toInt64 v2) * (Int32.toInt64 v6))]) C (cX8_lowerBelow_ok _ e16) mt_X8_46 mv_X8_lowerBelow rfl (by decide) dX8_liesAbove_21 rfl k13 rfl rfl rfl (Nat.le_of_ble_eq_true rfl) rfl (Nat.le_of_ble_eq_true rfl) rfl (Nat.le_of_ble_eq_true rfl) rfl rfl ?_
  refine me_i2l (q := 25) C dX8_liesAbove_24 rfl ?_
  refine me_lmul (q := 26) C dX8_liesAbove_25 rfl ?_
  refine me_lcmp (q := 27) C dX8_liesAbove_26 rfl ?_
  refine me_if_le (q2 := 34) (q := 30) C dX8_liesAbove_27 (by decide) rfl (fun c17 => ?_) (fun c17 => ?_)
  · have hf := mm_if_t c17 hf
    refine me_iconst (v := (0 : Int32)) (q := 35) C dX8_liesAbove_34 (by decide) rfl ?_
    exact me_zret C hE (Nat.le_of_ble_eq_true rfl) (Nat.le_of_ble_eq_true rfl) rfl (Or.inl rfl) dX8_liesAbove_35 (mm_ri hf)
  · have hf := mm_if_f c17 hf
    refine me_iconst (v := (1 : Int32)) (q := 31) C dX8_liesAbove_30 (by decide) rfl ?_
    refine me_goto (q := 35) C dX8_liesAbove_31 (by decide) ?_
    exact me_zret C hE (Nat.le_of_ble_eq_true rfl) (Nat.le_of_ble_eq_true rfl) rfl (Or.inr rfl) dX8_liesAbove_35 (mm_ri hf)
set_option maxRecDepth 100000 in
set_option maxHeartbeats 4000000 in
theorem cX8_greaterQuarreller_L8 {X : mm_X} (C : mm_C X cX8_greaterQuarreller yX8_greaterQuarreller 8 0 0) {r : Int32} {h1 : mm_H} (hE : mm_End X 0 0 (some .int) (some (vI r)) h1) {b0 : Nat} {b1 : Int32} {b2 : Int32} (K111 : mm_H → Option (Int32 × mm_H)) : ∀ (n : Nat) (x3 : Int32) (x4 : Int32) (x5 : Int32) (h : mm_H), fX8_greaterQuarreller_L8 b0 b1 b2 K111 n x3 x4 x5 h = some (r, h1) → (∀ (h : mm_H), K111 h = some (r, h1) → mm_E X h 0 0 111 [none, none, none, none, none, none] []) → mm_E X h 0 0 8 [some (vR (some b0)), some (vI b1), some (vI b2), some (vI x3), some (vI x4), some (vI x5)] [] := by
  intro n
  induction n with
  | zero =>
    intro x3 x4 x5 h hf
    exact absurd (show (none : Option (Int32 × mm_H)) = some (r, h1) from hf) (by simp)
  | succ n ih =>
    intro x3 x4 x5 h hf hk111
    have hf : fX8_greaterQuarreller_L8_b b0 b1 b2 K111 (fX8_greaterQuarreller_L8 b0 b1 b2 K111 n) x3 x4 x5 h = some (r, h1) := hf
    unfold fX8_greaterQuarreller_L8_b at hf
    refine me_iload (q := 10) C dX8_greaterQuarreller_8 rfl rfl ?_
    refine me_aload_n (q := 11) C dX8_greaterQuarreller_10 rfl rfl rfl ?_
    obtain ⟨k1, hf⟩ := mm_ck_some hf
    refine me_getI (q := 14) C dX8_greaterQuarreller_11 mf_X8_27 rfl rfl k1 rfl ?_
    refine me_icmp_ge (q2 := 111) (q := 17) C dX8_greaterQuarreller_14 (by decide) rfl (fun c2 => ?_) (fun c2 => ?_)
    · have hf := mm_if_t c2 hf
      refine me_mask [false, false, false, false, false, false] (lv2 := [none, none, none, none, none, none]) rfl ?_
      exact hk111 _ hf
    · have hf := mm_if_f c2 hf
      refine me_aload_n (q := 18) C dX8_greaterQuarreller_17 rfl rfl rfl ?_
      refine me_iload (q := 20) C dX8_greaterQuarreller_18 rfl rfl ?_
      refine me_iload_n (q := 21) C dX8_greaterQuarreller_20 rfl rfl rfl ?_
      refine me_iload_n (q := 22) C dX8_greaterQuarreller_21 rfl rfl rfl ?_
      obtain ⟨v3, g4, e5, hf⟩ := mm_cl_some hf
      refine me_callV (q := 25) (c2 := 0) (s2 := 0) (st := []) C (cX8_isKnown_ok _ e5) mt_X8_31 mv_X8_isKnown rfl (by decide) dX8_greaterQuarreller_22 rfl k1 rfl rfl rfl (Nat.le_of_ble_eq_true rfl) rfl (Nat.le_of_ble_eq_true rfl) rfl (Nat.le_of_ble_eq_true rfl) rfl rfl ?_
      obtain ⟨q9, eq9, hf⟩ := mm_jn_some hf
      have Hq9 : ∀ (v6 : Int32) (v7 : Int32) (g8 : mm_H), q9 v6 v7 g8 = some (r, h1) → mm_E X g8 0 0 105 [some (vR (some b0)), some (vI b1), some (vI b2), some (vI v6), some (vI v7), some (vI x5)] [] := by
        intro v6 v7 g8 hf
        subst eq9
        obtain ⟨v10, ev10, hf⟩ := mm_lt_some hf
        refine me_iinc (q := 108) (v := v10) (lv2 := [some (vR (some b0)), some (vI b1), some (vI b2), some (vI v6), some (vI v7), some (vI v10)]) C dX8_greaterQuarreller_105 rfl (by rw [ev10]; rfl) (Nat.le_of_ble_eq_true rfl) rfl rfl rfl ?_
        refine me_goto (q := 8) C dX8_greaterQuarreller_108 (by decide) ?_
        exact ih _ _ _ _ hf hk111
      refine me_if_eq (q2 := 105) (q := 28) C dX8_greaterQuarreller_25 (by decide) rfl (fun c11 => ?_) (fun c11 => ?_)
      · have hf := mm_if_t c11 hf
        exact Hq9 _ _ _ hf
      · have hf := mm_if_f c11 hf
        refine me_iload_n (q := 29) C dX8_greaterQuarreller_28 rfl rfl rfl ?_
        refine me_iconst (v := (-1 : Int32)) (q := 30) C dX8_greaterQuarreller_29 (by decide) rfl ?_
        obtain ⟨q13, eq13, hf⟩ := mm_jn_some hf
        have Hq13 : ∀ (g12 : mm_H), q13 g12 = some (r, h1) → mm_E X g12 0 0 57 [some (vR (some b0)), some (vI b1), some (vI b2), some (vI x3), some (vI x4), some (vI x5)] [] := by
          intro g12 hf
          subst eq13
          refine me_iload_n (q := 58) C dX8_greaterQuarreller_57 rfl rfl rfl ?_
          refine me_iconst (v := (-1 : Int32)) (q := 59) C dX8_greaterQuarreller_58 (by decide) rfl ?_
          obtain ⟨q16, eq16, hf⟩ := mm_jn_some hf
          have Hq16 : ∀ (v14 : Int32) (g15 : mm_H), q16 v14 g15 = some (r, h1) → mm_E X g15 0 0 78 [some (vR (some b0)), some (vI b1), some (vI b2), none, some (vI x4), some (vI x5)] [vI v14] := by
            intro v14 g15 hf
            subst eq16
            refine me_istore_n (q := 79) (lv2 := [some (vR (some b0)), some (vI b1), some (vI b2), some (vI v14), some (vI x4), some (vI x5)]) C dX8_greaterQuarreller_78 rfl (Nat.le_of_ble_eq_true rfl) rfl rfl rfl ?_
            refine me_iload (q := 81) C dX8_greaterQuarreller_79 rfl rfl ?_
            refine me_iconst (v := (-1 : Int32)) (q := 82) C dX8_greaterQuarreller_81 (by decide) rfl ?_
            obtain ⟨q19, eq19, hf⟩ := mm_jn_some hf
            have Hq19 : ∀ (v17 : Int32) (g18 : mm_H), q19 v17 g18 = some (r, h1) → mm_E X g18 0 0 103 [some (vR (some b0)), some (vI b1), some (vI b2), some (vI v14), none, some (vI x5)] [vI v17] := by
              intro v17 g18 hf
              subst eq19
              refine me_istore (q := 105) (lv2 := [some (vR (some b0)), some (vI b1), some (vI b2), some (vI v14), some (vI v17), some (vI x5)]) C dX8_greaterQuarreller_103 (Nat.le_of_ble_eq_true rfl) rfl rfl rfl ?_
              exact Hq9 _ _ _ hf
            obtain ⟨q21, eq21, hf⟩ := mm_jn_some hf
            have Hq21 : ∀ (g20 : mm_H), q21 g20 = some (r, h1) → mm_E X g20 0 0 96 [some (vR (some b0)), some (vI b1), some (vI b2), some (vI v14), none, some (vI x5)] [] := by
              intro g20 hf
              subst eq21
              refine me_iload (q := 98) C dX8_greaterQuarreller_96 rfl rfl ?_
              refine me_goto (q := 103) C dX8_greaterQuarreller_98 (by decide) ?_
              exact Hq19 _ _ hf
            refine me_icmp_eq (q2 := 96) (q := 85) C dX8_greaterQuarreller_82 (by decide) rfl (fun c22 => ?_) (fun c22 => ?_)
            · have hf := mm_if_t c22 hf
              refine me_mask [true, true, true, true, false, true] (lv2 := [some (vR (some b0)), some (vI b1), some (vI b2), some (vI v14), none, some (vI x5)]) rfl ?_
              exact Hq21 _ hf
            · have hf := mm_if_f c22 hf
              refine me_aload_n (q := 86) C dX8_greaterQuarreller_85 rfl rfl rfl ?_
              refine me_iload (q := 88) C dX8_greaterQuarreller_86 rfl rfl ?_
              refine me_iload (q := 90) C dX8_greaterQuarreller_88 rfl rfl ?_
              obtain ⟨k23, hf⟩ := mm_ck_some hf
              obtain ⟨v24, g25, e26, hf⟩ := mm_cl_some hf
              refine me_callV (q := 93) (c2 := 0) (s2 := 0) (st := []) C (cX8_upperExceeds_ok _ e26) mt_X8_39 mv_X8_upperExceeds rfl (by decide) dX8_greaterQuarreller_90 rfl k23 rfl rfl rfl (Nat.le_of_ble_eq_true rfl) rfl (Nat.le_of_ble_eq_true rfl) rfl (Nat.le_of_ble_eq_true rfl) rfl rfl ?_
              refine me_if_eq (q2 := 101) (q := 96) C dX8_greaterQuarreller_93 (by decide) rfl (fun c27 => ?_) (fun c27 => ?_)
              · have hf := mm_if_t c27 hf
                refine me_iload (q := 103) C dX8_greaterQuarreller_101 rfl rfl ?_
                refine me_mask [true, true, true, true, false, true] (lv2 := [some (vR (some b0)), some (vI b1), some (vI b2), some (vI v14), none, some (vI x5)]) rfl ?_
                exact Hq19 _ _ hf
              · have hf := mm_if_f c27 hf
                refine me_mask [true, true, true, true, false, true] (lv2 := [some (vR (some b0)), some (vI b1), some (vI b2), some (vI v14), none, some (vI x5)]) rfl ?_
                exact Hq21 _ hf
          obtain ⟨q29, eq29, hf⟩ := mm_jn_some hf
          have Hq29 : ∀ (g28 : mm_H), q29 g28 = some (r, h1) → mm_E X g28 0 0 72 [some (vR (some b0)), some (vI b1), some (vI b2), none, some (vI x4), some (vI x5)] [] := by
            intro g28 hf
            subst eq29
            refine me_iload (q := 74) C dX8_greaterQuarreller_72 rfl rfl ?_
            refine me_goto (q := 78) C dX8_greaterQuarreller_74 (by decide) ?_
            exact Hq16 _ _ hf
          refine me_icmp_eq (q2 := 72) (q := 62) C dX8_greaterQuarreller_59 (by decide) rfl (fun c30 => ?_) (fun c30 => ?_)
          · have hf := mm_if_t c30 hf
            refine me_mask [true, true, true, false, true, true] (lv2 := [some (vR (some b0)), some (vI b1), some (vI b2), none, some (vI x4), some (vI x5)]) rfl ?_
            exact Hq29 _ hf
          · have hf := mm_if_f c30 hf
            refine me_aload_n (q := 63) C dX8_greaterQuarreller_62 rfl rfl rfl ?_
            refine me_iload (q := 65) C dX8_greaterQuarreller_63 rfl rfl ?_
            refine me_iload_n (q := 66) C dX8_greaterQuarreller_65 rfl rfl rfl ?_
            obtain ⟨k31, hf⟩ := mm_ck_some hf
            obtain ⟨v32, g33, e34, hf⟩ := mm_cl_some hf
            refine me_callV (q := 69) (c2 := 0) (s2 := 0) (st := []) C (cX8_lowerExceeds_ok _ e34) mt_X8_35 mv_X8_lowerExceeds rfl (by decide) dX8_greaterQuarreller_66 rfl k31 rfl rfl rfl (Nat.le_of_ble_eq_true rfl) rfl (Nat.le_of_ble_eq_true rfl) rfl (Nat.le_of_ble_eq_true rfl) rfl rfl ?_
            refine me_if_eq (q2 := 77) (q := 72) C dX8_greaterQuarreller_69 (by decide) rfl (fun c35 => ?_) (fun c35 => ?_)
            · have hf := mm_if_t c35 hf
              refine me_iload_n (q := 78) C dX8_greaterQuarreller_77 rfl rfl rfl ?_
              refine me_mask [true, true, true, false, true, true] (lv2 := [some (vR (some b0)), some (vI b1), some (vI b2), none, some (vI x4), some (vI x5)]) rfl ?_
              exact Hq16 _ _ hf
            · have hf := mm_if_f c35 hf
              refine me_mask [true, true, true, false, true, true] (lv2 := [some (vR (some b0)), some (vI b1), some (vI b2), none, some (vI x4), some (vI x5)]) rfl ?_
              exact Hq29 _ hf
        refine me_icmp_eq (q2 := 57) (q := 33) C dX8_greaterQuarreller_30 (by decide) rfl (fun c36 => ?_) (fun c36 => ?_)
        · have hf := mm_if_t c36 hf
          exact Hq13 _ hf
        · have hf := mm_if_f c36 hf
          refine me_aload_n (q := 34) C dX8_greaterQuarreller_33 rfl rfl rfl ?_
          refine me_iload_n (q := 35) C dX8_greaterQuarreller_34 rfl rfl rfl ?_
          refine me_iload (q := 37) C dX8_greaterQuarreller_35 rfl rfl ?_
          obtain ⟨k37, hf⟩ := mm_ck_some hf
          obtain ⟨v38, g39, e40, hf⟩ := mm_cl_some hf
          refine me_callV (q := 40) (c2 := 0) (s2 := 0) (st := []) C (cX8_liesAbove_ok _ e40) mt_X8_59 mv_X8_liesAbove rfl (by decide) dX8_greaterQuarreller_37 rfl k37 rfl rfl rfl (Nat.le_of_ble_eq_true rfl) rfl (Nat.le_of_ble_eq_true rfl) rfl (Nat.le_of_ble_eq_true rfl) rfl rfl ?_
          refine me_if_ne (q2 := 54) (q := 43) C dX8_greaterQuarreller_40 (by decide) rfl (fun c41 => ?_) (fun c41 => ?_)
          · have hf := mm_if_t c41 hf
            refine me_iload (q := 56) C dX8_greaterQuarreller_54 rfl rfl ?_
            exact me_iret C hE (Nat.le_of_ble_eq_true rfl) (Nat.le_of_ble_eq_true rfl) rfl dX8_greaterQuarreller_56 (mm_ri hf)
          · have hf := mm_if_f c41 hf
            refine me_aload_n (q := 44) C dX8_greaterQuarreller_43 rfl rfl rfl ?_
            refine me_iload (q := 46) C dX8_greaterQuarreller_44 rfl rfl ?_
            refine me_iload (q := 48) C dX8_greaterQuarreller_46 rfl rfl ?_
            obtain ⟨k42, hf⟩ := mm_ck_some hf
            obtain ⟨v43, g44, e45, hf⟩ := mm_cl_some hf
            refine me_callV (q := 51) (c2 := 0) (s2 := 0) (st := []) C (cX8_liesAbove_ok _ e45) mt_X8_59 mv_X8_liesAbove rfl (by decide) dX8_greaterQuarreller_48 rfl k42 rfl rfl rfl (Nat.le_of_ble_eq_true rfl) rfl (Nat.le_of_ble_eq_true rfl) rfl (Nat.le_of_ble_eq_true rfl) rfl rfl ?_
            refine me_if_eq (q2 := 57) (q := 54) C dX8_greaterQuarreller_51 (by decide) rfl (fun c46 => ?_) (fun c46 => ?_)
            · have hf := mm_if_t c46 hf
              exact Hq13 _ hf
            · have hf := mm_if_f c46 hf
              refine me_iload (q := 56) C dX8_greaterQuarreller_54 rfl rfl ?_
              exact me_iret C hE (Nat.le_of_ble_eq_true rfl) (Nat.le_of_ble_eq_true rfl) rfl dX8_greaterQuarreller_56 (mm_ri hf)
set_option maxRecDepth 100000 in
set_option maxHeartbeats 4000000 in
theorem cX8_greaterQuarreller_ok (l : Launch) {a0 : Nat} {a1 : Int32} {a2 : Int32} {h : mm_H} {r : Int32} {h1 : mm_H} (hf : fX8_greaterQuarreller a0 a1 a2 h = some (r, h1)) : mm_M l yX8_greaterQuarreller cX8_greaterQuarreller 6 (some .int) 8 0 0 [vR (some a0), vI a1, vI a2] h (some (vI r)) h1 := by
  refine mm_enter (lv := [some (vR (some a0)), some (vI a1), some (vI a2), none, none, none]) (by decide) rfl (Nat.le_of_ble_eq_true rfl) ?_
  intro X hl C hE
  subst hl
  unfold fX8_greaterQuarreller at hf
  refine me_iconst (v := (-1 : Int32)) (q := 1) C dX8_greaterQuarreller_0 (by decide) rfl ?_
  refine me_istore_n (q := 2) (lv2 := [some (vR (some a0)), some (vI a1), some (vI a2), some (vI (-1 : Int32)), none, none]) C dX8_greaterQuarreller_1 rfl (Nat.le_of_ble_eq_true rfl) rfl rfl rfl ?_
  refine me_iconst (v := (-1 : Int32)) (q := 3) C dX8_greaterQuarreller_2 (by decide) rfl ?_
  refine me_istore (q := 5) (lv2 := [some (vR (some a0)), some (vI a1), some (vI a2), some (vI (-1 : Int32)), some (vI (-1 : Int32)), none]) C dX8_greaterQuarreller_3 (Nat.le_of_ble_eq_true rfl) rfl rfl rfl ?_
  refine me_iconst (v := (0 : Int32)) (q := 6) C dX8_greaterQuarreller_5 (by decide) rfl ?_
  refine me_istore (q := 8) (lv2 := [some (vR (some a0)), some (vI a1), some (vI a2), some (vI (-1 : Int32)), some (vI (-1 : Int32)), some (vI (0 : Int32))]) C dX8_greaterQuarreller_6 (Nat.le_of_ble_eq_true rfl) rfl rfl rfl ?_
  refine cX8_greaterQuarreller_L8 C hE _ _ _ _ _ _ hf ?_
  · intro g47 hf
    refine me_iconst (v := (-1 : Int32)) (q := 112) C dX8_greaterQuarreller_111 (by decide) rfl ?_
    exact me_iret C hE (Nat.le_of_ble_eq_true rfl) (Nat.le_of_ble_eq_true rfl) rfl dX8_greaterQuarreller_112 (mm_ri hf)
set_option maxRecDepth 100000 in
set_option maxHeartbeats 4000000 in
theorem cX8_lesserQuarreller_L23 {X : mm_X} (C : mm_C X cX8_lesserQuarreller yX8_lesserQuarreller 8 0 0) {r : Int32} {h1 : mm_H} (hE : mm_End X 0 0 (some .int) (some (vI r)) h1) {b0 : Nat} {b1 : Int32} {b2 : Int32} {b3 : Int32} (K69 : mm_H → Option (Int32 × mm_H)) : ∀ (n : Nat) (x4 : Int32) (h : mm_H), fX8_lesserQuarreller_L23 b0 b1 b2 b3 K69 n x4 h = some (r, h1) → (∀ (h : mm_H), K69 h = some (r, h1) → mm_E X h 0 0 69 [none, none, none, none, none] []) → mm_E X h 0 0 23 [some (vR (some b0)), some (vI b1), some (vI b2), some (vI b3), some (vI x4)] [] := by
  intro n
  induction n with
  | zero =>
    intro x4 h hf
    exact absurd (show (none : Option (Int32 × mm_H)) = some (r, h1) from hf) (by simp)
  | succ n ih =>
    intro x4 h hf hk69
    have hf : fX8_lesserQuarreller_L23_b b0 b1 b2 b3 K69 (fX8_lesserQuarreller_L23 b0 b1 b2 b3 K69 n) x4 h = some (r, h1) := hf
    unfold fX8_lesserQuarreller_L23_b at hf
    refine me_iload (q := 25) C dX8_lesserQuarreller_23 rfl rfl ?_
    refine me_iload_n (q := 26) C dX8_lesserQuarreller_25 rfl rfl rfl ?_
    refine me_icmp_ge (q2 := 69) (q := 29) C dX8_lesserQuarreller_26 (by decide) rfl (fun c11 => ?_) (fun c11 => ?_)
    · have hf := mm_if_t c11 hf
      refine me_mask [false, false, false, false, false] (lv2 := [none, none, none, none, none]) rfl ?_
      exact hk69 _ hf
    · have hf := mm_if_f c11 hf
      refine me_aload_n (q := 30) C dX8_lesserQuarreller_29 rfl rfl rfl ?_
      refine me_iload (q := 32) C dX8_lesserQuarreller_30 rfl rfl ?_
      refine me_iload_n (q := 33) C dX8_lesserQuarreller_32 rfl rfl rfl ?_
      refine me_iload_n (q := 34) C dX8_lesserQuarreller_33 rfl rfl rfl ?_
      obtain ⟨k12, hf⟩ := mm_ck_some hf
      obtain ⟨v13, g14, e15, hf⟩ := mm_cl_some hf
      refine me_callV (q := 37) (c2 := 0) (s2 := 0) (st := []) C (cX8_isKnown_ok _ e15) mt_X8_31 mv_X8_isKnown rfl (by decide) dX8_lesserQuarreller_34 rfl k12 rfl rfl rfl (Nat.le_of_ble_eq_true rfl) rfl (Nat.le_of_ble_eq_true rfl) rfl (Nat.le_of_ble_eq_true rfl) rfl rfl ?_
      obtain ⟨q17, eq17, hf⟩ := mm_jn_some hf
      have Hq17 : ∀ (g16 : mm_H), q17 g16 = some (r, h1) → mm_E X g16 0 0 63 [some (vR (some b0)), some (vI b1), some (vI b2), some (vI b3), some (vI x4)] [] := by
        intro g16 hf
        subst eq17
        obtain ⟨v18, ev18, hf⟩ := mm_lt_some hf
        refine me_iinc (q := 66) (v := v18) (lv2 := [some (vR (some b0)), some (vI b1), some (vI b2), some (vI b3), some (vI v18)]) C dX8_lesserQuarreller_63 rfl (by rw [ev18]; rfl) (Nat.le_of_ble_eq_true rfl) rfl rfl rfl ?_
        refine me_goto (q := 23) C dX8_lesserQuarreller_66 (by decide) ?_
        exact ih _ _ hf hk69
      refine me_if_eq (q2 := 63) (q := 40) C dX8_lesserQuarreller_37 (by decide) rfl (fun c19 => ?_) (fun c19 => ?_)
      · have hf := mm_if_t c19 hf
        exact Hq17 _ hf
      · have hf := mm_if_f c19 hf
        refine me_aload_n (q := 41) C dX8_lesserQuarreller_40 rfl rfl rfl ?_
        refine me_iload (q := 43) C dX8_lesserQuarreller_41 rfl rfl ?_
        refine me_iload_n (q := 44) C dX8_lesserQuarreller_43 rfl rfl rfl ?_
        obtain ⟨k20, hf⟩ := mm_ck_some hf
        obtain ⟨v21, g22, e23, hf⟩ := mm_cl_some hf
        refine me_callV (q := 47) (c2 := 0) (s2 := 0) (st := []) C (cX8_liesAbove_ok _ e23) mt_X8_59 mv_X8_liesAbove rfl (by decide) dX8_lesserQuarreller_44 rfl k20 rfl rfl rfl (Nat.le_of_ble_eq_true rfl) rfl (Nat.le_of_ble_eq_true rfl) rfl (Nat.le_of_ble_eq_true rfl) rfl rfl ?_
        refine me_if_ne (q2 := 60) (q := 50) C dX8_lesserQuarreller_47 (by decide) rfl (fun c24 => ?_) (fun c24 => ?_)
        · have hf := mm_if_t c24 hf
          refine me_iload (q := 62) C dX8_lesserQuarreller_60 rfl rfl ?_
          exact me_iret C hE (Nat.le_of_ble_eq_true rfl) (Nat.le_of_ble_eq_true rfl) rfl dX8_lesserQuarreller_62 (mm_ri hf)
        · have hf := mm_if_f c24 hf
          refine me_aload_n (q := 51) C dX8_lesserQuarreller_50 rfl rfl rfl ?_
          refine me_iload_n (q := 52) C dX8_lesserQuarreller_51 rfl rfl rfl ?_
          refine me_iload (q := 54) C dX8_lesserQuarreller_52 rfl rfl ?_
          obtain ⟨k25, hf⟩ := mm_ck_some hf
          obtain ⟨v26, g27, e28, hf⟩ := mm_cl_some hf
          refine me_callV (q := 57) (c2 := 0) (s2 := 0) (st := []) C (cX8_liesAbove_ok _ e28) mt_X8_59 mv_X8_liesAbove rfl (by decide) dX8_lesserQuarreller_54 rfl k25 rfl rfl rfl (Nat.le_of_ble_eq_true rfl) rfl (Nat.le_of_ble_eq_true rfl) rfl (Nat.le_of_ble_eq_true rfl) rfl rfl ?_
          refine me_if_eq (q2 := 63) (q := 60) C dX8_lesserQuarreller_57 (by decide) rfl (fun c29 => ?_) (fun c29 => ?_)
          · have hf := mm_if_t c29 hf
            exact Hq17 _ hf
          · have hf := mm_if_f c29 hf
            refine me_iload (q := 62) C dX8_lesserQuarreller_60 rfl rfl ?_
            exact me_iret C hE (Nat.le_of_ble_eq_true rfl) (Nat.le_of_ble_eq_true rfl) rfl dX8_lesserQuarreller_62 (mm_ri hf)
set_option maxRecDepth 100000 in
set_option maxHeartbeats 4000000 in
theorem cX8_lesserQuarreller_ok (l : Launch) {a0 : Nat} {a1 : Int32} {a2 : Int32} {a3 : Int32} {h : mm_H} {r : Int32} {h1 : mm_H} (hf : fX8_lesserQuarreller a0 a1 a2 a3 h = some (r, h1)) : mm_M l yX8_lesserQuarreller cX8_lesserQuarreller 5 (some .int) 8 0 0 [vR (some a0), vI a1, vI a2, vI a3] h (some (vI r)) h1 := by
  refine mm_enter (lv := [some (vR (some a0)), some (vI a1), some (vI a2), some (vI a3), none]) (by decide) rfl (Nat.le_of_ble_eq_true rfl) ?_
  intro X hl C hE
  subst hl
  unfold fX8_lesserQuarreller at hf
  refine me_aload_n (q := 1) C dX8_lesserQuarreller_0 rfl rfl rfl ?_
  refine me_iload_n (q := 2) C dX8_lesserQuarreller_1 rfl rfl rfl ?_
  obtain ⟨k1, hf⟩ := mm_ck_some hf
  obtain ⟨v2, g3, e4, hf⟩ := mm_cl_some hf
  refine me_callV (q := 5) (c2 := 0) (s2 := 0) (st := []) C (cX8_isWeighing_ok _ e4) mt_X8_55 mv_X8_isWeighing rfl (by decide) dX8_lesserQuarreller_2 rfl k1 rfl rfl rfl (Nat.le_of_ble_eq_true rfl) rfl (Nat.le_of_ble_eq_true rfl) rfl (Nat.le_of_ble_eq_true rfl) rfl rfl ?_
  refine me_if_eq (q2 := 18) (q := 8) C dX8_lesserQuarreller_5 (by decide) rfl (fun c5 => ?_) (fun c5 => ?_)
  · have hf := mm_if_t c5 hf
    refine me_iconst (v := (-1 : Int32)) (q := 19) C dX8_lesserQuarreller_18 (by decide) rfl ?_
    exact me_iret C hE (Nat.le_of_ble_eq_true rfl) (Nat.le_of_ble_eq_true rfl) rfl dX8_lesserQuarreller_19 (mm_ri hf)
  · have hf := mm_if_f c5 hf
    refine me_aload_n (q := 9) C dX8_lesserQuarreller_8 rfl rfl rfl ?_
    refine me_iload_n (q := 10) C dX8_lesserQuarreller_9 rfl rfl rfl ?_
    refine me_iload_n (q := 11) C dX8_lesserQuarreller_10 rfl rfl rfl ?_
    refine me_iload_n (q := 12) C dX8_lesserQuarreller_11 rfl rfl rfl ?_
    obtain ⟨k6, hf⟩ := mm_ck_some hf
    obtain ⟨v7, g8, e9, hf⟩ := mm_cl_some hf
    refine me_callV (q := 15) (c2 := 0) (s2 := 0) (st := []) C (cX8_isKnown_ok _ e9) mt_X8_31 mv_X8_isKnown rfl (by decide) dX8_lesserQuarreller_12 rfl k6 rfl rfl rfl (Nat.le_of_ble_eq_true rfl) rfl (Nat.le_of_ble_eq_true rfl) rfl (Nat.le_of_ble_eq_true rfl) rfl rfl ?_
    refine me_if_ne (q2 := 20) (q := 18) C dX8_lesserQuarreller_15 (by decide) rfl (fun c10 => ?_) (fun c10 => ?_)
    · have hf := mm_if_t c10 hf
      refine me_iconst (v := (0 : Int32)) (q := 21) C dX8_lesserQuarreller_20 (by decide) rfl ?_
      refine me_istore (q := 23) (lv2 := [some (vR (some a0)), some (vI a1), some (vI a2), some (vI a3), some (vI (0 : Int32))]) C dX8_lesserQuarreller_21 (Nat.le_of_ble_eq_true rfl) rfl rfl rfl ?_
      refine cX8_lesserQuarreller_L23 C hE _ _ _ _ hf ?_
      · intro g30 hf
        refine me_iconst (v := (-1 : Int32)) (q := 70) C dX8_lesserQuarreller_69 (by decide) rfl ?_
        exact me_iret C hE (Nat.le_of_ble_eq_true rfl) (Nat.le_of_ble_eq_true rfl) rfl dX8_lesserQuarreller_70 (mm_ri hf)
    · have hf := mm_if_f c10 hf
      refine me_iconst (v := (-1 : Int32)) (q := 19) C dX8_lesserQuarreller_18 (by decide) rfl ?_
      exact me_iret C hE (Nat.le_of_ble_eq_true rfl) (Nat.le_of_ble_eq_true rfl) rfl dX8_lesserQuarreller_19 (mm_ri hf)
set_option maxRecDepth 100000 in
set_option maxHeartbeats 4000000 in
theorem cX8_capped_ok (l : Launch) {a0 : Int64} {h : mm_H} {r : Int32} {h1 : mm_H} (hf : fX8_capped a0 h = some (r, h1)) : mm_M l yX8_capped cX8_capped 2 (some .int) 2 0 0 [vJ a0] h (some (vI r)) h1 := by
  refine mm_enter (lv := [some (vJ a0), none]) (by decide) rfl (Nat.le_of_ble_eq_true rfl) ?_
  intro X hl C hE
  subst hl
  unfold fX8_capped at hf
  refine me_lload_n (q := 1) C dX8_capped_0 rfl rfl rfl ?_
  refine me_ldc2_w (v := (2000000000 : Int64)) (q := 4) C dX8_capped_1 mc_X8_74 rfl ?_
  refine me_mminJ (q := 7) C dX8_capped_4 mm_X8_76 rfl (Nat.le_of_ble_eq_true rfl) rfl ?_
  obtain ⟨v1, ev1, hf⟩ := mm_lt_some hf
  refine me_topJ ev1 ?_
  refine me_l2i (q := 8) C dX8_capped_7 rfl ?_
  exact me_iret C hE (Nat.le_of_ble_eq_true rfl) (Nat.le_of_ble_eq_true rfl) rfl dX8_capped_8 (mm_ri hf)
set_option maxRecDepth 100000 in
set_option maxHeartbeats 4000000 in
theorem cX8_leastOf_ok (l : Launch) {a0 : Nat} {a1 : Int32} {a2 : Int32} {a3 : Int32} {h : mm_H} {r : Int32} {h1 : mm_H} (hf : fX8_leastOf a0 a1 a2 a3 h = some (r, h1)) : mm_M l yX8_leastOf cX8_leastOf 6 (some .int) 10 0 0 [vR (some a0), vI a1, vI a2, vI a3] h (some (vI r)) h1 := by
  refine mm_enter (lv := [some (vR (some a0)), some (vI a1), some (vI a2), some (vI a3), none, none]) (by decide) rfl (Nat.le_of_ble_eq_true rfl) ?_
  intro X hl C hE
  subst hl
  unfold fX8_leastOf at hf
  refine me_aload_n (q := 1) C dX8_leastOf_0 rfl rfl rfl ?_
  refine me_iload_n (q := 2) C dX8_leastOf_1 rfl rfl rfl ?_
  refine me_iload_n (q := 3) C dX8_leastOf_2 rfl rfl rfl ?_
  obtain ⟨k1, hf⟩ := mm_ck_some hf
  obtain ⟨v2, g3, e4, hf⟩ := mm_cl_some hf
  refine me_callV (q := 6) (c2 := 0) (s2 := 0) (st := []) C (cX8_greatestLower_ok _ e4) mt_X8_62 mv_X8_greatestLower rfl (by decide) dX8_leastOf_3 rfl k1 rfl rfl rfl (Nat.le_of_ble_eq_true rfl) rfl (Nat.le_of_ble_eq_true rfl) rfl (Nat.le_of_ble_eq_true rfl) rfl rfl ?_
  refine me_istore (q := 8) (lv2 := [some (vR (some a0)), some (vI a1), some (vI a2), some (vI a3), some (vI v2), none]) C dX8_leastOf_6 (Nat.le_of_ble_eq_true rfl) rfl rfl rfl ?_
  refine me_aload_n (q := 9) C dX8_leastOf_8 rfl rfl rfl ?_
  refine me_iload (q := 11) C dX8_leastOf_9 rfl rfl ?_
  obtain ⟨k5, hf⟩ := mm_ck_some hf
  obtain ⟨v6, g7, e8, hf⟩ := mm_cl_some hf
  refine me_callV (q := 14) (c2 := 0) (s2 := 0) (st := []) C (cX8_lowerBelow_ok _ e8) mt_X8_46 mv_X8_lowerBelow rfl (by decide) dX8_leastOf_11 rfl k5 rfl rfl rfl (Nat.le_of_ble_eq_true rfl) rfl (Nat.le_of_ble_eq_true rfl) rfl (Nat.le_of_ble_eq_true rfl) rfl rfl ?_
  refine me_istore (q := 16) (lv2 := [some (vR (some a0)), some (vI a1), some (vI a2), some (vI a3), some (vI v2), some (vI v6)]) C dX8_leastOf_14 (Nat.le_of_ble_eq_true rfl) rfl rfl rfl ?_
  refine me_iload (q := 18) C dX8_leastOf_16 rfl rfl ?_
  refine me_iconst (v := (1 : Int32)) (q := 19) C dX8_leastOf_18 (by decide) rfl ?_
  refine me_icmp_ge (q2 := 26) (q := 22) C dX8_leastOf_19 (by decide) rfl (fun c9 => ?_) (fun c9 => ?_)
  · have hf := mm_if_t c9 hf
    refine me_iload_n (q := 27) C dX8_leastOf_26 rfl rfl rfl ?_
    refine me_i2l (q := 28) C dX8_leastOf_27 rfl ?_
    refine me_aload_n (q := 29) C dX8_leastOf_28 rfl rfl rfl ?_
    refine me_iload (q := 31) C dX8_leastOf_29 rfl rfl ?_
    obtain ⟨k10, hf⟩ := mm_ck_some hf
    obtain ⟨v11, g12, e13, hf⟩ := mm_cl_some hf
    refine me_callV (q := 34) (c2 := 0) (s2 := 0) (st := [vJ (Int32.toInt64 a2)]) C (cX8_lowerAbove_ok _ e13) mt_X8_42 mv_X8_lowerAbove rfl (by decide) dX8_leastOf_31 rfl k10 rfl rfl rfl (Nat.le_of_ble_eq_true rfl) rfl (Nat.le_of_ble_eq_true rfl) rfl (Nat.le_of_ble_eq_true rfl) rfl rfl ?_
    refine me_i2l (q := 35) C dX8_leastOf_34 rfl ?_
    refine me_lmul (q := 36) C dX8_leastOf_35 rfl ?_
    refine me_iload (q := 38) C dX8_leastOf_36 rfl rfl ?_
    refine me_i2l (q := 39) C dX8_leastOf_38 rfl ?_
    obtain ⟨k14, hf⟩ := mm_ck_some hf
    refine me_ldiv (q := 40) C dX8_leastOf_39 k14 rfl ?_
    obtain ⟨v15, g16, e17, hf⟩ := mm_cl_some hf
    refine me_callS (q := 43) (c2 := 0) (s2 := 0) (st := []) C (cX8_capped_ok _ e17) mt_X8_66 ms_X8_capped dX8_leastOf_40 rfl rfl rfl (Nat.le_of_ble_eq_true rfl) rfl (Nat.le_of_ble_eq_true rfl) rfl (Nat.le_of_ble_eq_true rfl) rfl rfl ?_
    exact me_iret C hE (Nat.le_of_ble_eq_true rfl) (Nat.le_of_ble_eq_true rfl) rfl dX8_leastOf_43 (mm_ri hf)
  · have hf := mm_if_f c9 hf
    refine me_iconst (v := (-1 : Int32)) (q := 23) C dX8_leastOf_22 (by decide) rfl ?_
    refine me_goto (q := 43) C dX8_leastOf_23 (by decide) ?_
    exact me_iret C hE (Nat.le_of_ble_eq_true rfl) (Nat.le_of_ble_eq_true rfl) rfl dX8_leastOf_43 (mm_ri hf)
set_option maxRecDepth 100000 in
set_option maxHeartbeats 4000000 in
theorem cX8_mostOf_ok (l : Launch) {a0 : Nat} {a1 : Int32} {a2 : Int32} {a3 : Int32} {h : mm_H} {r : Int32} {h1 : mm_H} (hf : fX8_mostOf a0 a1 a2 a3 h = some (r, h1)) : mm_M l yX8_mostOf cX8_mostOf 6 (some .int) 10 0 0 [vR (some a0), vI a1, vI a2, vI a3] h (some (vI r)) h1 := by
  refine mm_enter (lv := [some (vR (some a0)), some (vI a1), some (vI a2), some (vI a3), none, none]) (by decide) rfl (Nat.le_of_ble_eq_true rfl) ?_
  intro X hl C hE
  subst hl
  unfold fX8_mostOf at hf
  refine me_aload_n (q := 1) C dX8_mostOf_0 rfl rfl rfl ?_
  refine me_iload_n (q := 2) C dX8_mostOf_1 rfl rfl rfl ?_
  refine me_iload_n (q := 3) C dX8_mostOf_2 rfl rfl rfl ?_
  obtain ⟨k1, hf⟩ := mm_ck_some hf
  obtain ⟨v2, g3, e4, hf⟩ := mm_cl_some hf
  refine me_callV (q := 6) (c2 := 0) (s2 := 0) (st := []) C (cX8_leastUpper_ok _ e4) mt_X8_70 mv_X8_leastUpper rfl (by decide) dX8_mostOf_3 rfl k1 rfl rfl rfl (Nat.le_of_ble_eq_true rfl) rfl (Nat.le_of_ble_eq_true rfl) rfl (Nat.le_of_ble_eq_true rfl) rfl rfl ?_
  refine me_istore (q := 8) (lv2 := [some (vR (some a0)), some (vI a1), some (vI a2), some (vI a3), some (vI v2), none]) C dX8_mostOf_6 (Nat.le_of_ble_eq_true rfl) rfl rfl rfl ?_
  refine me_aload_n (q := 9) C dX8_mostOf_8 rfl rfl rfl ?_
  refine me_iload (q := 11) C dX8_mostOf_9 rfl rfl ?_
  obtain ⟨k5, hf⟩ := mm_ck_some hf
  obtain ⟨v6, g7, e8, hf⟩ := mm_cl_some hf
  refine me_callV (q := 14) (c2 := 0) (s2 := 0) (st := []) C (cX8_upperBelow_ok _ e8) mt_X8_52 mv_X8_upperBelow rfl (by decide) dX8_mostOf_11 rfl k5 rfl rfl rfl (Nat.le_of_ble_eq_true rfl) rfl (Nat.le_of_ble_eq_true rfl) rfl (Nat.le_of_ble_eq_true rfl) rfl rfl ?_
  refine me_istore (q := 16) (lv2 := [some (vR (some a0)), some (vI a1), some (vI a2), some (vI a3), some (vI v2), some (vI v6)]) C dX8_mostOf_14 (Nat.le_of_ble_eq_true rfl) rfl rfl rfl ?_
  refine me_iload (q := 18) C dX8_mostOf_16 rfl rfl ?_
  refine me_iconst (v := (1 : Int32)) (q := 19) C dX8_mostOf_18 (by decide) rfl ?_
  refine me_icmp_ge (q2 := 27) (q := 22) C dX8_mostOf_19 (by decide) rfl (fun c9 => ?_) (fun c9 => ?_)
  · have hf := mm_if_t c9 hf
    refine me_iload_n (q := 28) C dX8_mostOf_27 rfl rfl rfl ?_
    refine me_i2l (q := 29) C dX8_mostOf_28 rfl ?_
    refine me_aload_n (q := 30) C dX8_mostOf_29 rfl rfl rfl ?_
    refine me_iload (q := 32) C dX8_mostOf_30 rfl rfl ?_
    obtain ⟨k10, hf⟩ := mm_ck_some hf
    obtain ⟨v11, g12, e13, hf⟩ := mm_cl_some hf
    refine me_callV (q := 35) (c2 := 0) (s2 := 0) (st := [vJ (Int32.toInt64 a2)]) C (cX8_upperAbove_ok _ e13) mt_X8_49 mv_X8_upperAbove rfl (by decide) dX8_mostOf_32 rfl k10 rfl rfl rfl (Nat.le_of_ble_eq_true rfl) rfl (Nat.le_of_ble_eq_true rfl) rfl (Nat.le_of_ble_eq_true rfl) rfl rfl ?_
    refine me_i2l (q := 36) C dX8_mostOf_35 rfl ?_
    refine me_lmul (q := 37) C dX8_mostOf_36 rfl ?_
    refine me_iload (q := 39) C dX8_mostOf_37 rfl rfl ?_
    refine me_i2l (q := 40) C dX8_mostOf_39 rfl ?_
    refine me_ladd (q := 41) C dX8_mostOf_40 rfl ?_
    refine me_lconst (v := (1 : Int64)) (q := 42) C dX8_mostOf_41 (by decide) rfl ?_
    refine me_lsub (q := 43) C dX8_mostOf_42 rfl ?_
    refine me_iload (q := 45) C dX8_mostOf_43 rfl rfl ?_
    refine me_i2l (q := 46) C dX8_mostOf_45 rfl ?_
    obtain ⟨k14, hf⟩ := mm_ck_some hf
    refine me_ldiv (q := 47) C dX8_mostOf_46 k14 rfl ?_
    obtain ⟨v15, g16, e17, hf⟩ := mm_cl_some hf
    refine me_callS (q := 50) (c2 := 0) (s2 := 0) (st := []) C (cX8_capped_ok _ e17) mt_X8_66 ms_X8_capped dX8_mostOf_47 rfl rfl rfl (Nat.le_of_ble_eq_true rfl) rfl (Nat.le_of_ble_eq_true rfl) rfl (Nat.le_of_ble_eq_true rfl) rfl rfl ?_
    exact me_iret C hE (Nat.le_of_ble_eq_true rfl) (Nat.le_of_ble_eq_true rfl) rfl dX8_mostOf_50 (mm_ri hf)
  · have hf := mm_if_f c9 hf
    refine me_ldc (v := (2000000000 : Int32)) (q := 24) C dX8_mostOf_22 mc_X8_73 rfl ?_
    refine me_goto (q := 50) C dX8_mostOf_24 (by decide) ?_
    exact me_iret C hE (Nat.le_of_ble_eq_true rfl) (Nat.le_of_ble_eq_true rfl) rfl dX8_mostOf_50 (mm_ri hf)
set_option maxRecDepth 100000 in
set_option maxHeartbeats 4000000 in
theorem cX9_init_ok (l : Launch) {a0 : Nat} {h : mm_H} {r : Unit} {h1 : mm_H} (hf : fX9_init a0 h = some (r, h1)) : mm_M l yX9_init cX9_init 1 none 2 9 84 [vR (some a0)] h none h1 := by
  refine mm_enter (lv := [some (vR (some a0))]) (by decide) rfl (Nat.le_of_ble_eq_true rfl) ?_
  intro X hl C hE
  subst hl
  unfold fX9_init at hf
  refine me_aload_n (q := 1) C dX9_init_0 rfl rfl rfl ?_
  refine me_objInit (q := 4) C dX9_init_1 mo_X9_3 rfl rfl (Nat.le_of_ble_eq_true rfl) rfl ?_
  refine me_aload_n (q := 5) C dX9_init_4 rfl rfl rfl ?_
  refine me_iconst (v := (5 : Int32)) (q := 6) C dX9_init_5 (by decide) rfl ?_
  obtain ⟨g1, eg1, hf⟩ := mm_lt_some hf
  obtain ⟨u2, eu2, hf⟩ := mm_lt_some hf
  refine me_newaI (q := 8) (B := 5) (c2 := 1) (s2 := 5) C eg1 dX9_init_6 ma_int ⟨by decide, Nat.le_of_ble_eq_true rfl⟩ (Nat.le_of_ble_eq_true rfl) rfl (Nat.le_of_ble_eq_true rfl) rfl (Nat.le_of_ble_eq_true rfl) rfl ?_
  refine me_topR (congrArg some eu2) ?_
  have k3 : mm_kd g1 u2 = 14 := by rw [eu2]; exact mm_kN eg1
  obtain ⟨k4, hf⟩ := mm_ck_some hf
  obtain ⟨g5, eg5, hf⟩ := mm_lt_some hf
  refine me_putR (q := 11) C eg5 dX9_init_8 mf_X9_11 mp_X9_10_0 (Or.inr ⟨_, rfl⟩) rfl (by decide) rfl k4 rfl ?_
  refine me_aload_n (q := 12) C dX9_init_11 rfl rfl rfl ?_
  refine me_iconst (v := (5 : Int32)) (q := 13) C dX9_init_12 (by decide) rfl ?_
  obtain ⟨g6, eg6, hf⟩ := mm_lt_some hf
  obtain ⟨u7, eu7, hf⟩ := mm_lt_some hf
  refine me_newaI (q := 15) (B := 5) (c2 := 2) (s2 := 10) C eg6 dX9_init_13 ma_int ⟨by decide, Nat.le_of_ble_eq_true rfl⟩ (Nat.le_of_ble_eq_true rfl) rfl (Nat.le_of_ble_eq_true rfl) rfl (Nat.le_of_ble_eq_true rfl) rfl ?_
  refine me_topR (congrArg some eu7) ?_
  have k8 : mm_kd g6 u7 = 14 := by rw [eu7]; exact mm_kN eg6
  obtain ⟨k9, hf⟩ := mm_ck_some hf
  obtain ⟨g10, eg10, hf⟩ := mm_lt_some hf
  refine me_putR (q := 18) C eg10 dX9_init_15 mf_X9_15 mp_X9_10_1 (Or.inr ⟨_, rfl⟩) rfl (by decide) rfl k9 rfl ?_
  refine me_aload_n (q := 19) C dX9_init_18 rfl rfl rfl ?_
  refine me_iconst (v := (4 : Int32)) (q := 20) C dX9_init_19 (by decide) rfl ?_
  obtain ⟨g11, eg11, hf⟩ := mm_lt_some hf
  obtain ⟨u12, eu12, hf⟩ := mm_lt_some hf
  refine me_newaI (q := 22) (B := 4) (c2 := 3) (s2 := 14) C eg11 dX9_init_20 ma_int ⟨by decide, Nat.le_of_ble_eq_true rfl⟩ (Nat.le_of_ble_eq_true rfl) rfl (Nat.le_of_ble_eq_true rfl) rfl (Nat.le_of_ble_eq_true rfl) rfl ?_
  refine me_topR (congrArg some eu12) ?_
  have k13 : mm_kd g11 u12 = 14 := by rw [eu12]; exact mm_kN eg11
  obtain ⟨k14, hf⟩ := mm_ck_some hf
  obtain ⟨g15, eg15, hf⟩ := mm_lt_some hf
  refine me_putR (q := 25) C eg15 dX9_init_22 mf_X9_18 mp_X9_10_3 (Or.inr ⟨_, rfl⟩) rfl (by decide) rfl k14 rfl ?_
  refine me_aload_n (q := 26) C dX9_init_25 rfl rfl rfl ?_
  refine me_iconst (v := (4 : Int32)) (q := 27) C dX9_init_26 (by decide) rfl ?_
  obtain ⟨g16, eg16, hf⟩ := mm_lt_some hf
  obtain ⟨u17, eu17, hf⟩ := mm_lt_some hf
  refine me_newaI (q := 29) (B := 4) (c2 := 4) (s2 := 18) C eg16 dX9_init_27 ma_int ⟨by decide, Nat.le_of_ble_eq_true rfl⟩ (Nat.le_of_ble_eq_true rfl) rfl (Nat.le_of_ble_eq_true rfl) rfl (Nat.le_of_ble_eq_true rfl) rfl ?_
  refine me_topR (congrArg some eu17) ?_
  have k18 : mm_kd g16 u17 = 14 := by rw [eu17]; exact mm_kN eg16
  obtain ⟨k19, hf⟩ := mm_ck_some hf
  obtain ⟨g20, eg20, hf⟩ := mm_lt_some hf
  refine me_putR (q := 32) C eg20 dX9_init_29 mf_X9_21 mp_X9_10_4 (Or.inr ⟨_, rfl⟩) rfl (by decide) rfl k19 rfl ?_
  refine me_aload_n (q := 33) C dX9_init_32 rfl rfl rfl ?_
  refine me_bipush (v := (25 : Int32)) (q := 35) C dX9_init_33 (by decide) rfl ?_
  obtain ⟨g21, eg21, hf⟩ := mm_lt_some hf
  obtain ⟨u22, eu22, hf⟩ := mm_lt_some hf
  refine me_newaJ (q := 37) (B := 25) (c2 := 5) (s2 := 43) C eg21 dX9_init_35 ma_long ⟨by decide, Nat.le_of_ble_eq_true rfl⟩ (Nat.le_of_ble_eq_true rfl) rfl (Nat.le_of_ble_eq_true rfl) rfl (Nat.le_of_ble_eq_true rfl) rfl ?_
  refine me_topR (congrArg some eu22) ?_
  have k23 : mm_kd g21 u22 = 15 := by rw [eu22]; exact mm_kN eg21
  obtain ⟨k24, hf⟩ := mm_ck_some hf
  obtain ⟨g25, eg25, hf⟩ := mm_lt_some hf
  refine me_putR (q := 40) C eg25 dX9_init_37 mf_X9_24 mp_X9_10_6 (Or.inr ⟨_, rfl⟩) rfl (by decide) rfl k24 rfl ?_
  refine me_aload_n (q := 41) C dX9_init_40 rfl rfl rfl ?_
  refine me_bipush (v := (25 : Int32)) (q := 43) C dX9_init_41 (by decide) rfl ?_
  obtain ⟨g26, eg26, hf⟩ := mm_lt_some hf
  obtain ⟨u27, eu27, hf⟩ := mm_lt_some hf
  refine me_newaJ (q := 45) (B := 25) (c2 := 6) (s2 := 68) C eg26 dX9_init_43 ma_long ⟨by decide, Nat.le_of_ble_eq_true rfl⟩ (Nat.le_of_ble_eq_true rfl) rfl (Nat.le_of_ble_eq_true rfl) rfl (Nat.le_of_ble_eq_true rfl) rfl ?_
  refine me_topR (congrArg some eu27) ?_
  have k28 : mm_kd g26 u27 = 15 := by rw [eu27]; exact mm_kN eg26
  obtain ⟨k29, hf⟩ := mm_ck_some hf
  obtain ⟨g30, eg30, hf⟩ := mm_lt_some hf
  refine me_putR (q := 48) C eg30 dX9_init_45 mf_X9_28 mp_X9_10_7 (Or.inr ⟨_, rfl⟩) rfl (by decide) rfl k29 rfl ?_
  refine me_aload_n (q := 49) C dX9_init_48 rfl rfl rfl ?_
  refine me_bipush (v := (6 : Int32)) (q := 51) C dX9_init_49 (by decide) rfl ?_
  obtain ⟨g31, eg31, hf⟩ := mm_lt_some hf
  obtain ⟨u32, eu32, hf⟩ := mm_lt_some hf
  refine me_newaJ (q := 53) (B := 6) (c2 := 7) (s2 := 74) C eg31 dX9_init_51 ma_long ⟨by decide, Nat.le_of_ble_eq_true rfl⟩ (Nat.le_of_ble_eq_true rfl) rfl (Nat.le_of_ble_eq_true rfl) rfl (Nat.le_of_ble_eq_true rfl) rfl ?_
  refine me_topR (congrArg some eu32) ?_
  have k33 : mm_kd g31 u32 = 15 := by rw [eu32]; exact mm_kN eg31
  obtain ⟨k34, hf⟩ := mm_ck_some hf
  obtain ⟨g35, eg35, hf⟩ := mm_lt_some hf
  refine me_putR (q := 56) C eg35 dX9_init_53 mf_X9_31 mp_X9_10_8 (Or.inr ⟨_, rfl⟩) rfl (by decide) rfl k34 rfl ?_
  refine me_aload_n (q := 57) C dX9_init_56 rfl rfl rfl ?_
  refine me_iconst (v := (5 : Int32)) (q := 58) C dX9_init_57 (by decide) rfl ?_
  obtain ⟨g36, eg36, hf⟩ := mm_lt_some hf
  obtain ⟨u37, eu37, hf⟩ := mm_lt_some hf
  refine me_newaI (q := 60) (B := 5) (c2 := 8) (s2 := 79) C eg36 dX9_init_58 ma_int ⟨by decide, Nat.le_of_ble_eq_true rfl⟩ (Nat.le_of_ble_eq_true rfl) rfl (Nat.le_of_ble_eq_true rfl) rfl (Nat.le_of_ble_eq_true rfl) rfl ?_
  refine me_topR (congrArg some eu37) ?_
  have k38 : mm_kd g36 u37 = 14 := by rw [eu37]; exact mm_kN eg36
  obtain ⟨k39, hf⟩ := mm_ck_some hf
  obtain ⟨g40, eg40, hf⟩ := mm_lt_some hf
  refine me_putR (q := 63) C eg40 dX9_init_60 mf_X9_34 mp_X9_10_9 (Or.inr ⟨_, rfl⟩) rfl (by decide) rfl k39 rfl ?_
  refine me_aload_n (q := 64) C dX9_init_63 rfl rfl rfl ?_
  refine me_iconst (v := (5 : Int32)) (q := 65) C dX9_init_64 (by decide) rfl ?_
  obtain ⟨g41, eg41, hf⟩ := mm_lt_some hf
  obtain ⟨u42, eu42, hf⟩ := mm_lt_some hf
  refine me_newaI (q := 67) (B := 5) (c2 := 9) (s2 := 84) C eg41 dX9_init_65 ma_int ⟨by decide, Nat.le_of_ble_eq_true rfl⟩ (Nat.le_of_ble_eq_true rfl) rfl (Nat.le_of_ble_eq_true rfl) rfl (Nat.le_of_ble_eq_true rfl) rfl ?_
  refine me_topR (congrArg some eu42) ?_
  have k43 : mm_kd g41 u42 = 14 := by rw [eu42]; exact mm_kN eg41
  obtain ⟨k44, hf⟩ := mm_ck_some hf
  obtain ⟨g45, eg45, hf⟩ := mm_lt_some hf
  refine me_putR (q := 70) C eg45 dX9_init_67 mf_X9_37 mp_X9_10_10 (Or.inr ⟨_, rfl⟩) rfl (by decide) rfl k44 rfl ?_
  exact me_vret C hE (Nat.le_of_ble_eq_true rfl) (Nat.le_of_ble_eq_true rfl) rfl dX9_init_70 (mm_ru hf)
set_option maxRecDepth 100000 in
set_option maxHeartbeats 4000000 in
theorem cX9_clearPlan_ok (l : Launch) {a0 : Nat} {h : mm_H} {r : Unit} {h1 : mm_H} (hf : fX9_clearPlan a0 h = some (r, h1)) : mm_M l yX9_clearPlan cX9_clearPlan 1 none 2 0 0 [vR (some a0)] h none h1 := by
  refine mm_enter (lv := [some (vR (some a0))]) (by decide) rfl (Nat.le_of_ble_eq_true rfl) ?_
  intro X hl C hE
  subst hl
  unfold fX9_clearPlan at hf
  refine me_aload_n (q := 1) C dX9_clearPlan_0 rfl rfl rfl ?_
  refine me_iconst (v := (0 : Int32)) (q := 2) C dX9_clearPlan_1 (by decide) rfl ?_
  obtain ⟨k1, hf⟩ := mm_ck_some hf
  obtain ⟨g2, eg2, hf⟩ := mm_lt_some hf
  refine me_putI (q := 5) C eg2 dX9_clearPlan_2 mf_X9_40 mp_X9_10_2 rfl (by decide) rfl k1 rfl ?_
  refine me_aload_n (q := 6) C dX9_clearPlan_5 rfl rfl rfl ?_
  refine me_iconst (v := (0 : Int32)) (q := 7) C dX9_clearPlan_6 (by decide) rfl ?_
  obtain ⟨g3, eg3, hf⟩ := mm_lt_some hf
  refine me_putI (q := 10) C eg3 dX9_clearPlan_7 mf_X9_44 mp_X9_10_5 rfl (by decide) rfl (mm_kI eg2 k1) rfl ?_
  exact me_vret C hE (Nat.le_of_ble_eq_true rfl) (Nat.le_of_ble_eq_true rfl) rfl dX9_clearPlan_10 (mm_ru hf)
set_option maxRecDepth 100000 in
set_option maxHeartbeats 4000000 in
theorem cX9_addLot_ok (l : Launch) {a0 : Nat} {a1 : Int32} {a2 : Int32} {h : mm_H} {r : Unit} {h1 : mm_H} (hf : fX9_addLot a0 a1 a2 h = some (r, h1)) : mm_M l yX9_addLot cX9_addLot 3 none 2 0 0 [vR (some a0), vI a1, vI a2] h none h1 := by
  refine mm_enter (lv := [some (vR (some a0)), some (vI a1), some (vI a2)]) (by decide) rfl (Nat.le_of_ble_eq_true rfl) ?_
  intro X hl C hE
  subst hl
  unfold fX9_addLot at hf
  refine me_aload_n (q := 1) C dX9_addLot_0 rfl rfl rfl ?_
  obtain ⟨k1, hf⟩ := mm_ck_some hf
  refine me_getI (q := 4) C dX9_addLot_1 mf_X9_40 rfl rfl k1 rfl ?_
  refine me_iconst (v := (5 : Int32)) (q := 5) C dX9_addLot_4 (by decide) rfl ?_
  refine me_icmp_ge (q2 := 38) (q := 8) C dX9_addLot_5 (by decide) rfl (fun c2 => ?_) (fun c2 => ?_)
  · have hf := mm_if_t c2 hf
    exact me_vret C hE (Nat.le_of_ble_eq_true rfl) (Nat.le_of_ble_eq_true rfl) rfl dX9_addLot_38 (mm_ru hf)
  · have hf := mm_if_f c2 hf
    refine me_aload_n (q := 9) C dX9_addLot_8 rfl rfl rfl ?_
    refine me_getR (q := 12) C dX9_addLot_9 mf_X9_11 rfl rfl k1 rfl ?_
    refine me_aload_n (q := 13) C dX9_addLot_12 rfl rfl rfl ?_
    refine me_getI (q := 16) C dX9_addLot_13 mf_X9_40 rfl rfl k1 rfl ?_
    refine me_iload_n (q := 17) C dX9_addLot_16 rfl rfl rfl ?_
    obtain ⟨u3, eu3, hf⟩ := mm_rf_some hf
    obtain ⟨k4, hf⟩ := mm_ck_some hf
    obtain ⟨k5, hf⟩ := mm_ck_some hf
    obtain ⟨g6, eg6, hf⟩ := mm_lt_some hf
    refine me_iastH (q := 18) C eg6 dX9_addLot_17 eu3 k4 k5 rfl ?_
    refine me_aload_n (q := 19) C dX9_addLot_18 rfl rfl rfl ?_
    refine me_getR (q := 22) C dX9_addLot_19 mf_X9_15 rfl rfl (mm_kI eg6 k1) rfl ?_
    refine me_aload_n (q := 23) C dX9_addLot_22 rfl rfl rfl ?_
    refine me_getI (q := 26) C dX9_addLot_23 mf_X9_40 rfl rfl (mm_kI eg6 k1) rfl ?_
    refine me_iload_n (q := 27) C dX9_addLot_26 rfl rfl rfl ?_
    obtain ⟨u7, eu7, hf⟩ := mm_rf_some hf
    obtain ⟨k8, hf⟩ := mm_ck_some hf
    obtain ⟨k9, hf⟩ := mm_ck_some hf
    obtain ⟨g10, eg10, hf⟩ := mm_lt_some hf
    refine me_iastH (q := 28) C eg10 dX9_addLot_27 eu7 k8 k9 rfl ?_
    refine me_aload_n (q := 29) C dX9_addLot_28 rfl rfl rfl ?_
    refine me_dup (q := 30) C dX9_addLot_29 rfl rfl ?_
    refine me_getI (q := 33) C dX9_addLot_30 mf_X9_40 rfl rfl (mm_kI eg10 (mm_kI eg6 k1)) rfl ?_
    refine me_iconst (v := (1 : Int32)) (q := 34) C dX9_addLot_33 (by decide) rfl ?_
    refine me_iadd (q := 35) C dX9_addLot_34 rfl ?_
    obtain ⟨g11, eg11, hf⟩ := mm_lt_some hf
    refine me_putI (q := 38) C eg11 dX9_addLot_35 mf_X9_40 mp_X9_10_2 rfl (by decide) rfl (mm_kI eg10 (mm_kI eg6 k1)) rfl ?_
    exact me_vret C hE (Nat.le_of_ble_eq_true rfl) (Nat.le_of_ble_eq_true rfl) rfl dX9_addLot_38 (mm_ru hf)
set_option maxRecDepth 100000 in
set_option maxHeartbeats 4000000 in
theorem cX9_addShip_ok (l : Launch) {a0 : Nat} {a1 : Int32} {a2 : Int32} {h : mm_H} {r : Unit} {h1 : mm_H} (hf : fX9_addShip a0 a1 a2 h = some (r, h1)) : mm_M l yX9_addShip cX9_addShip 3 none 2 0 0 [vR (some a0), vI a1, vI a2] h none h1 := by
  refine mm_enter (lv := [some (vR (some a0)), some (vI a1), some (vI a2)]) (by decide) rfl (Nat.le_of_ble_eq_true rfl) ?_
  intro X hl C hE
  subst hl
  unfold fX9_addShip at hf
  refine me_aload_n (q := 1) C dX9_addShip_0 rfl rfl rfl ?_
  obtain ⟨k1, hf⟩ := mm_ck_some hf
  refine me_getI (q := 4) C dX9_addShip_1 mf_X9_44 rfl rfl k1 rfl ?_
  refine me_iconst (v := (4 : Int32)) (q := 5) C dX9_addShip_4 (by decide) rfl ?_
  refine me_icmp_ge (q2 := 38) (q := 8) C dX9_addShip_5 (by decide) rfl (fun c2 => ?_) (fun c2 => ?_)
  · have hf := mm_if_t c2 hf
    exact me_vret C hE (Nat.le_of_ble_eq_true rfl) (Nat.le_of_ble_eq_true rfl) rfl dX9_addShip_38 (mm_ru hf)
  · have hf := mm_if_f c2 hf
    refine me_aload_n (q := 9) C dX9_addShip_8 rfl rfl rfl ?_
    refine me_getR (q := 12) C dX9_addShip_9 mf_X9_18 rfl rfl k1 rfl ?_
    refine me_aload_n (q := 13) C dX9_addShip_12 rfl rfl rfl ?_
    refine me_getI (q := 16) C dX9_addShip_13 mf_X9_44 rfl rfl k1 rfl ?_
    refine me_iload_n (q := 17) C dX9_addShip_16 rfl rfl rfl ?_
    obtain ⟨u3, eu3, hf⟩ := mm_rf_some hf
    obtain ⟨k4, hf⟩ := mm_ck_some hf
    obtain ⟨k5, hf⟩ := mm_ck_some hf
    obtain ⟨g6, eg6, hf⟩ := mm_lt_some hf
    refine me_iastH (q := 18) C eg6 dX9_addShip_17 eu3 k4 k5 rfl ?_
    refine me_aload_n (q := 19) C dX9_addShip_18 rfl rfl rfl ?_
    refine me_getR (q := 22) C dX9_addShip_19 mf_X9_21 rfl rfl (mm_kI eg6 k1) rfl ?_
    refine me_aload_n (q := 23) C dX9_addShip_22 rfl rfl rfl ?_
    refine me_getI (q := 26) C dX9_addShip_23 mf_X9_44 rfl rfl (mm_kI eg6 k1) rfl ?_
    refine me_iload_n (q := 27) C dX9_addShip_26 rfl rfl rfl ?_
    obtain ⟨u7, eu7, hf⟩ := mm_rf_some hf
    obtain ⟨k8, hf⟩ := mm_ck_some hf
    obtain ⟨k9, hf⟩ := mm_ck_some hf
    obtain ⟨g10, eg10, hf⟩ := mm_lt_some hf
    refine me_iastH (q := 28) C eg10 dX9_addShip_27 eu7 k8 k9 rfl ?_
    refine me_aload_n (q := 29) C dX9_addShip_28 rfl rfl rfl ?_
    refine me_dup (q := 30) C dX9_addShip_29 rfl rfl ?_
    refine me_getI (q := 33) C dX9_addShip_30 mf_X9_44 rfl rfl (mm_kI eg10 (mm_kI eg6 k1)) rfl ?_
    refine me_iconst (v := (1 : Int32)) (q := 34) C dX9_addShip_33 (by decide) rfl ?_
    refine me_iadd (q := 35) C dX9_addShip_34 rfl ?_
    obtain ⟨g11, eg11, hf⟩ := mm_lt_some hf
    refine me_putI (q := 38) C eg11 dX9_addShip_35 mf_X9_44 mp_X9_10_5 rfl (by decide) rfl (mm_kI eg10 (mm_kI eg6 k1)) rfl ?_
    exact me_vret C hE (Nat.le_of_ble_eq_true rfl) (Nat.le_of_ble_eq_true rfl) rfl dX9_addShip_38 (mm_ru hf)
set_option maxRecDepth 100000 in
set_option maxHeartbeats 4000000 in
theorem cX9_setPrices_ok (l : Launch) {a0 : Nat} {a1 : Int32} {a2 : Int32} {a3 : Int32} {a4 : Int32} {h : mm_H} {r : Unit} {h1 : mm_H} (hf : fX9_setPrices a0 a1 a2 a3 a4 h = some (r, h1)) : mm_M l yX9_setPrices cX9_setPrices 5 none 2 0 0 [vR (some a0), vI a1, vI a2, vI a3, vI a4] h none h1 := by
  refine mm_enter (lv := [some (vR (some a0)), some (vI a1), some (vI a2), some (vI a3), some (vI a4)]) (by decide) rfl (Nat.le_of_ble_eq_true rfl) ?_
  intro X hl C hE
  subst hl
  unfold fX9_setPrices at hf
  refine me_iload_n (q := 1) C dX9_setPrices_0 rfl rfl rfl ?_
  refine me_if_lt (q2 := 59) (q := 4) C dX9_setPrices_1 (by decide) rfl (fun c1 => ?_) (fun c1 => ?_)
  · have hf := mm_if_t c1 hf
    exact me_vret C hE (Nat.le_of_ble_eq_true rfl) (Nat.le_of_ble_eq_true rfl) rfl dX9_setPrices_59 (mm_ru hf)
  · have hf := mm_if_f c1 hf
    refine me_iload_n (q := 5) C dX9_setPrices_4 rfl rfl rfl ?_
    refine me_iconst (v := (5 : Int32)) (q := 6) C dX9_setPrices_5 (by decide) rfl ?_
    refine me_icmp_ge (q2 := 59) (q := 9) C dX9_setPrices_6 (by decide) rfl (fun c2 => ?_) (fun c2 => ?_)
    · have hf := mm_if_t c2 hf
      exact me_vret C hE (Nat.le_of_ble_eq_true rfl) (Nat.le_of_ble_eq_true rfl) rfl dX9_setPrices_59 (mm_ru hf)
    · have hf := mm_if_f c2 hf
      refine me_iload_n (q := 10) C dX9_setPrices_9 rfl rfl rfl ?_
      refine me_if_lt (q2 := 59) (q := 13) C dX9_setPrices_10 (by decide) rfl (fun c3 => ?_) (fun c3 => ?_)
      · have hf := mm_if_t c3 hf
        exact me_vret C hE (Nat.le_of_ble_eq_true rfl) (Nat.le_of_ble_eq_true rfl) rfl dX9_setPrices_59 (mm_ru hf)
      · have hf := mm_if_f c3 hf
        refine me_iload_n (q := 14) C dX9_setPrices_13 rfl rfl rfl ?_
        refine me_iconst (v := (5 : Int32)) (q := 15) C dX9_setPrices_14 (by decide) rfl ?_
        refine me_icmp_ge (q2 := 59) (q := 18) C dX9_setPrices_15 (by decide) rfl (fun c4 => ?_) (fun c4 => ?_)
        · have hf := mm_if_t c4 hf
          exact me_vret C hE (Nat.le_of_ble_eq_true rfl) (Nat.le_of_ble_eq_true rfl) rfl dX9_setPrices_59 (mm_ru hf)
        · have hf := mm_if_f c4 hf
          refine me_aload_n (q := 19) C dX9_setPrices_18 rfl rfl rfl ?_
          obtain ⟨k5, hf⟩ := mm_ck_some hf
          refine me_getR (q := 22) C dX9_setPrices_19 mf_X9_24 rfl rfl k5 rfl ?_
          refine me_iload_n (q := 23) C dX9_setPrices_22 rfl rfl rfl ?_
          refine me_iconst (v := (5 : Int32)) (q := 24) C dX9_setPrices_23 (by decide) rfl ?_
          refine me_imul (q := 25) C dX9_setPrices_24 rfl ?_
          refine me_iload_n (q := 26) C dX9_setPrices_25 rfl rfl rfl ?_
          refine me_iadd (q := 27) C dX9_setPrices_26 rfl ?_
          refine me_aload_n (q := 28) C dX9_setPrices_27 rfl rfl rfl ?_
          refine me_getR (q := 31) C dX9_setPrices_28 mf_X9_15 rfl rfl k5 rfl ?_
          refine me_iload_n (q := 32) C dX9_setPrices_31 rfl rfl rfl ?_
          obtain ⟨u6, eu6, hf⟩ := mm_rf_some hf
          obtain ⟨k7, hf⟩ := mm_ck_some hf
          obtain ⟨k8, hf⟩ := mm_ck_some hf
          refine me_iald (q := 33) C dX9_setPrices_32 eu6 k7 k8 rfl ?_
          refine me_i2l (q := 34) C dX9_setPrices_33 rfl ?_
          refine me_iload_n (q := 35) C dX9_setPrices_34 rfl rfl rfl ?_
          refine me_i2l (q := 36) C dX9_setPrices_35 rfl ?_
          refine me_lmul (q := 37) C dX9_setPrices_36 rfl ?_
          obtain ⟨u9, eu9, hf⟩ := mm_rf_some hf
          obtain ⟨k10, hf⟩ := mm_ck_some hf
          obtain ⟨k11, hf⟩ := mm_ck_some hf
          obtain ⟨g12, eg12, hf⟩ := mm_lt_some hf
          refine me_lastH (q := 38) C eg12 dX9_setPrices_37 eu9 k10 k11 rfl ?_
          refine me_aload_n (q := 39) C dX9_setPrices_38 rfl rfl rfl ?_
          refine me_getR (q := 42) C dX9_setPrices_39 mf_X9_28 rfl rfl (mm_kJ eg12 k5) rfl ?_
          refine me_iload_n (q := 43) C dX9_setPrices_42 rfl rfl rfl ?_
          refine me_iconst (v := (5 : Int32)) (q := 44) C dX9_setPrices_43 (by decide) rfl ?_
          refine me_imul (q := 45) C dX9_setPrices_44 rfl ?_
          refine me_iload_n (q := 46) C dX9_setPrices_45 rfl rfl rfl ?_
          refine me_iadd (q := 47) C dX9_setPrices_46 rfl ?_
          refine me_aload_n (q := 48) C dX9_setPrices_47 rfl rfl rfl ?_
          refine me_getR (q := 51) C dX9_setPrices_48 mf_X9_15 rfl rfl (mm_kJ eg12 k5) rfl ?_
          refine me_iload_n (q := 52) C dX9_setPrices_51 rfl rfl rfl ?_
          obtain ⟨u13, eu13, hf⟩ := mm_rf_some hf
          obtain ⟨k14, hf⟩ := mm_ck_some hf
          obtain ⟨k15, hf⟩ := mm_ck_some hf
          refine me_iald (q := 53) C dX9_setPrices_52 eu13 k14 k15 rfl ?_
          refine me_i2l (q := 54) C dX9_setPrices_53 rfl ?_
          refine me_iload (q := 56) C dX9_setPrices_54 rfl rfl ?_
          refine me_i2l (q := 57) C dX9_setPrices_56 rfl ?_
          refine me_lmul (q := 58) C dX9_setPrices_57 rfl ?_
          obtain ⟨u16, eu16, hf⟩ := mm_rf_some hf
          obtain ⟨k17, hf⟩ := mm_ck_some hf
          obtain ⟨k18, hf⟩ := mm_ck_some hf
          obtain ⟨g19, eg19, hf⟩ := mm_lt_some hf
          refine me_lastH (q := 59) C eg19 dX9_setPrices_58 eu16 k17 k18 rfl ?_
          exact me_vret C hE (Nat.le_of_ble_eq_true rfl) (Nat.le_of_ble_eq_true rfl) rfl dX9_setPrices_59 (mm_ru hf)
set_option maxRecDepth 100000 in
set_option maxHeartbeats 4000000 in
theorem cX9_shipOf_ok (l : Launch) {a0 : Nat} {a1 : Int32} {h : mm_H} {r : Int32} {h1 : mm_H} (hf : fX9_shipOf a0 a1 h = some (r, h1)) : mm_M l yX9_shipOf cX9_shipOf 2 (some .int) 2 0 0 [vR (some a0), vI a1] h (some (vI r)) h1 := by
  refine mm_enter (lv := [some (vR (some a0)), some (vI a1)]) (by decide) rfl (Nat.le_of_ble_eq_true rfl) ?_
  intro X hl C hE
  subst hl
  unfold fX9_shipOf at hf
  refine me_iload_n (q := 1) C dX9_shipOf_0 rfl rfl rfl ?_
  refine me_if_lt (q2 := 34) (q := 4) C dX9_shipOf_1 (by decide) rfl (fun c1 => ?_) (fun c1 => ?_)
  · have hf := mm_if_t c1 hf
    refine me_iconst (v := (-1 : Int32)) (q := 35) C dX9_shipOf_34 (by decide) rfl ?_
    exact me_iret C hE (Nat.le_of_ble_eq_true rfl) (Nat.le_of_ble_eq_true rfl) rfl dX9_shipOf_35 (mm_ri hf)
  · have hf := mm_if_f c1 hf
    refine me_iload_n (q := 5) C dX9_shipOf_4 rfl rfl rfl ?_
    refine me_aload_n (q := 6) C dX9_shipOf_5 rfl rfl rfl ?_
    obtain ⟨k2, hf⟩ := mm_ck_some hf
    refine me_getI (q := 9) C dX9_shipOf_6 mf_X9_40 rfl rfl k2 rfl ?_
    refine me_icmp_ge (q2 := 34) (q := 12) C dX9_shipOf_9 (by decide) rfl (fun c3 => ?_) (fun c3 => ?_)
    · have hf := mm_if_t c3 hf
      refine me_iconst (v := (-1 : Int32)) (q := 35) C dX9_shipOf_34 (by decide) rfl ?_
      exact me_iret C hE (Nat.le_of_ble_eq_true rfl) (Nat.le_of_ble_eq_true rfl) rfl dX9_shipOf_35 (mm_ri hf)
    · have hf := mm_if_f c3 hf
      refine me_aload_n (q := 13) C dX9_shipOf_12 rfl rfl rfl ?_
      refine me_getR (q := 16) C dX9_shipOf_13 mf_X9_37 rfl rfl k2 rfl ?_
      refine me_iload_n (q := 17) C dX9_shipOf_16 rfl rfl rfl ?_
      obtain ⟨u4, eu4, hf⟩ := mm_rf_some hf
      obtain ⟨k5, hf⟩ := mm_ck_some hf
      obtain ⟨k6, hf⟩ := mm_ck_some hf
      refine me_iald (q := 18) C dX9_shipOf_17 eu4 k5 k6 rfl ?_
      refine me_if_lt (q2 := 34) (q := 21) C dX9_shipOf_18 (by decide) rfl (fun c7 => ?_) (fun c7 => ?_)
      · have hf := mm_if_t c7 hf
        refine me_iconst (v := (-1 : Int32)) (q := 35) C dX9_shipOf_34 (by decide) rfl ?_
        exact me_iret C hE (Nat.le_of_ble_eq_true rfl) (Nat.le_of_ble_eq_true rfl) rfl dX9_shipOf_35 (mm_ri hf)
      · have hf := mm_if_f c7 hf
        refine me_aload_n (q := 22) C dX9_shipOf_21 rfl rfl rfl ?_
        refine me_getR (q := 25) C dX9_shipOf_22 mf_X9_37 rfl rfl k2 rfl ?_
        refine me_iload_n (q := 26) C dX9_shipOf_25 rfl rfl rfl ?_
        obtain ⟨k8, hf⟩ := mm_ck_some hf
        refine me_iald (q := 27) C dX9_shipOf_26 eu4 k5 k8 rfl ?_
        refine me_aload_n (q := 28) C dX9_shipOf_27 rfl rfl rfl ?_
        refine me_getI (q := 31) C dX9_shipOf_28 mf_X9_44 rfl rfl k2 rfl ?_
        refine me_icmp_lt (q2 := 36) (q := 34) C dX9_shipOf_31 (by decide) rfl (fun c9 => ?_) (fun c9 => ?_)
        · have hf := mm_if_t c9 hf
          refine me_aload_n (q := 37) C dX9_shipOf_36 rfl rfl rfl ?_
          refine me_getR (q := 40) C dX9_shipOf_37 mf_X9_18 rfl rfl k2 rfl ?_
          refine me_aload_n (q := 41) C dX9_shipOf_40 rfl rfl rfl ?_
          refine me_getR (q := 44) C dX9_shipOf_41 mf_X9_37 rfl rfl k2 rfl ?_
          refine me_iload_n (q := 45) C dX9_shipOf_44 rfl rfl rfl ?_
          obtain ⟨k10, hf⟩ := mm_ck_some hf
          refine me_iald (q := 46) C dX9_shipOf_45 eu4 k5 k10 rfl ?_
          obtain ⟨u11, eu11, hf⟩ := mm_rf_some hf
          obtain ⟨k12, hf⟩ := mm_ck_some hf
          obtain ⟨k13, hf⟩ := mm_ck_some hf
          refine me_iald (q := 47) C dX9_shipOf_46 eu11 k12 k13 rfl ?_
          exact me_iret C hE (Nat.le_of_ble_eq_true rfl) (Nat.le_of_ble_eq_true rfl) rfl dX9_shipOf_47 (mm_ri hf)
        · have hf := mm_if_f c9 hf
          refine me_iconst (v := (-1 : Int32)) (q := 35) C dX9_shipOf_34 (by decide) rfl ?_
          exact me_iret C hE (Nat.le_of_ble_eq_true rfl) (Nat.le_of_ble_eq_true rfl) rfl dX9_shipOf_35 (mm_ri hf)
set_option maxRecDepth 100000 in
set_option maxHeartbeats 4000000 in
theorem cX9_keepIfBetter_ok (l : Launch) {a0 : Nat} {a1 : Int64} {a3 : Int64} {h : mm_H} {r : Unit} {h1 : mm_H} (hf : fX9_keepIfBetter a0 a1 a3 h = some (r, h1)) : mm_M l yX9_keepIfBetter cX9_keepIfBetter 5 none 2 0 0 [vR (some a0), vJ a1, vJ a3] h none h1 := by
  refine mm_enter (lv := [some (vR (some a0)), some (vJ a1), none, some (vJ a3), none]) (by decide) rfl (Nat.le_of_ble_eq_true rfl) ?_
  intro X hl C hE
  subst hl
  unfold fX9_keepIfBetter at hf
  refine me_lload_n (q := 1) C dX9_keepIfBetter_0 rfl rfl rfl ?_
  refine me_aload_n (q := 2) C dX9_keepIfBetter_1 rfl rfl rfl ?_
  obtain ⟨k1, hf⟩ := mm_ck_some hf
  refine me_getJ (q := 5) C dX9_keepIfBetter_2 mf_X9_53 rfl rfl k1 rfl ?_
  refine me_lcmp (q := 6) C dX9_keepIfBetter_5 rfl ?_
  obtain ⟨q2, eq2, hf⟩ := mm_jn_some hf
  have Hq2 : ∀ (_u : Unit), q2 _u = some (r, h1) → mm_E X h 0 0 27 [some (vR (some a0)), some (vJ a1), none, some (vJ a3), none] [] := by
    intro _u hf
    subst eq2
    refine me_aload_n (q := 28) C dX9_keepIfBetter_27 rfl rfl rfl ?_
    refine me_lload_n (q := 29) C dX9_keepIfBetter_28 rfl rfl rfl ?_
    obtain ⟨g3, eg3, hf⟩ := mm_lt_some hf
    refine me_putJ (q := 32) C eg3 dX9_keepIfBetter_29 mf_X9_53 mp_X9_10_11 rfl (by decide) rfl k1 rfl ?_
    refine me_aload_n (q := 33) C dX9_keepIfBetter_32 rfl rfl rfl ?_
    refine me_lload_n (q := 34) C dX9_keepIfBetter_33 rfl rfl rfl ?_
    obtain ⟨g4, eg4, hf⟩ := mm_lt_some hf
    refine me_putJ (q := 37) C eg4 dX9_keepIfBetter_34 mf_X9_57 mp_X9_10_12 rfl (by decide) rfl (mm_kJ eg3 k1) rfl ?_
    refine me_aload_n (q := 38) C dX9_keepIfBetter_37 rfl rfl rfl ?_
    refine me_getR (q := 41) C dX9_keepIfBetter_38 mf_X9_34 rfl rfl (mm_kJ eg4 (mm_kJ eg3 k1)) rfl ?_
    refine me_iconst (v := (0 : Int32)) (q := 42) C dX9_keepIfBetter_41 (by decide) rfl ?_
    refine me_aload_n (q := 43) C dX9_keepIfBetter_42 rfl rfl rfl ?_
    refine me_getR (q := 46) C dX9_keepIfBetter_43 mf_X9_37 rfl rfl (mm_kJ eg4 (mm_kJ eg3 k1)) rfl ?_
    refine me_iconst (v := (0 : Int32)) (q := 47) C dX9_keepIfBetter_46 (by decide) rfl ?_
    refine me_aload_n (q := 48) C dX9_keepIfBetter_47 rfl rfl rfl ?_
    refine me_getI (q := 51) C dX9_keepIfBetter_48 mf_X9_40 rfl rfl (mm_kJ eg4 (mm_kJ eg3 k1)) rfl ?_
    obtain ⟨u5, eu5, hf⟩ := mm_rf_some hf
    obtain ⟨u6, eu6, hf⟩ := mm_rf_some hf
    obtain ⟨k7, hf⟩ := mm_ck_some hf
    obtain ⟨k8, hf⟩ := mm_ck_some hf
    obtain ⟨k9, hf⟩ := mm_ck_some hf
    obtain ⟨g10, eg10, hf⟩ := mm_lt_some hf
    refine me_cpI (q := 54) C eg10 dX9_keepIfBetter_51 mw_X9_74 eu5 eu6 k7 k8 k9 rfl (Nat.le_of_ble_eq_true rfl) rfl ?_
    exact me_vret C hE (Nat.le_of_ble_eq_true rfl) (Nat.le_of_ble_eq_true rfl) rfl dX9_keepIfBetter_54 (mm_ru hf)
  refine me_if_gt (q2 := 27) (q := 9) C dX9_keepIfBetter_6 (by decide) rfl (fun c11 => ?_) (fun c11 => ?_)
  · have hf := mm_if_t c11 hf
    exact Hq2 () hf
  · have hf := mm_if_f c11 hf
    refine me_lload_n (q := 10) C dX9_keepIfBetter_9 rfl rfl rfl ?_
    refine me_aload_n (q := 11) C dX9_keepIfBetter_10 rfl rfl rfl ?_
    refine me_getJ (q := 14) C dX9_keepIfBetter_11 mf_X9_53 rfl rfl k1 rfl ?_
    refine me_lcmp (q := 15) C dX9_keepIfBetter_14 rfl ?_
    refine me_if_ne (q2 := 54) (q := 18) C dX9_keepIfBetter_15 (by decide) rfl (fun c12 => ?_) (fun c12 => ?_)
    · have hf := mm_if_t c12 hf
      exact me_vret C hE (Nat.le_of_ble_eq_true rfl) (Nat.le_of_ble_eq_true rfl) rfl dX9_keepIfBetter_54 (mm_ru hf)
    · have hf := mm_if_f c12 hf
      refine me_lload_n (q := 19) C dX9_keepIfBetter_18 rfl rfl rfl ?_
      refine me_aload_n (q := 20) C dX9_keepIfBetter_19 rfl rfl rfl ?_
      refine me_getJ (q := 23) C dX9_keepIfBetter_20 mf_X9_57 rfl rfl k1 rfl ?_
      refine me_lcmp (q := 24) C dX9_keepIfBetter_23 rfl ?_
      refine me_if_le (q2 := 54) (q := 27) C dX9_keepIfBetter_24 (by decide) rfl (fun c13 => ?_) (fun c13 => ?_)
      · have hf := mm_if_t c13 hf
        exact me_vret C hE (Nat.le_of_ble_eq_true rfl) (Nat.le_of_ble_eq_true rfl) rfl dX9_keepIfBetter_54 (mm_ru hf)
      · have hf := mm_if_f c13 hf
        exact Hq2 () hf
set_option maxRecDepth 100000 in
set_option maxHeartbeats 4000000 in
theorem cX9_tryWays_L53 {lx : Nat} {X : mm_X} (C : mm_C X cX9_tryWays yX9_tryWays (lx + 1) 0 0) {r : Unit} {h1 : mm_H} (hE : mm_End X 0 0 none none h1) (hlx : 3 ≤ lx) {rc0 : Nat → Int32 → Int64 → Int64 → mm_H → Option (Unit × mm_H)} (hr0 : ∀ {a0 : Nat} {a1 : Int32} {a2 : Int64} {a4 : Int64} {h : mm_H} {r : Unit} {h1 : mm_H}, rc0 a0 a1 a2 a4 h = some (r, h1) → mm_M (mx_l X) yX9_tryWays cX9_tryWays 7 none lx 0 0 [vR (some a0), vI a1, vJ a2, vJ a4] h none h1) {b0 : Nat} {b1 : Int32} {b2 : Int64} {b4 : Int64} (K158 : mm_H → Option (Unit × mm_H)) : ∀ (n : Nat) (x6 : Int32) (h : mm_H), fX9_tryWays_L53 rc0 b0 b1 b2 b4 K158 n x6 h = some (r, h1) → (∀ (h : mm_H), K158 h = some (r, h1) → mm_E X h 0 0 158 [some (vR (some b0)), some (vI b1), some (vJ b2), none, some (vJ b4), none, none] []) → mm_E X h 0 0 53 [some (vR (some b0)), some (vI b1), some (vJ b2), none, some (vJ b4), none, some (vI x6)] [] := by
  intro n
  induction n with
  | zero =>
    intro x6 h hf
    exact absurd (show (none : Option (Unit × mm_H)) = some (r, h1) from hf) (by simp)
  | succ n ih =>
    intro x6 h hf hk158
    have hf : fX9_tryWays_L53_b rc0 b0 b1 b2 b4 K158 (fX9_tryWays_L53 rc0 b0 b1 b2 b4 K158 n) x6 h = some (r, h1) := hf
    unfold fX9_tryWays_L53_b at hf
    refine me_iload (q := 55) C dX9_tryWays_53 rfl rfl ?_
    refine me_aload_n (q := 56) C dX9_tryWays_55 rfl rfl rfl ?_
    obtain ⟨k9, hf⟩ := mm_ck_some hf
    refine me_getI (q := 59) C dX9_tryWays_56 mf_X9_44 rfl rfl k9 rfl ?_
    refine me_icmp_ge (q2 := 158) (q := 62) C dX9_tryWays_59 (by decide) rfl (fun c10 => ?_) (fun c10 => ?_)
    · have hf := mm_if_t c10 hf
      refine me_mask [true, true, true, false, true, false, false] (lv2 := [some (vR (some b0)), some (vI b1), some (vJ b2), none, some (vJ b4), none, none]) rfl ?_
      exact hk158 _ hf
    · have hf := mm_if_f c10 hf
      refine me_aload_n (q := 63) C dX9_tryWays_62 rfl rfl rfl ?_
      refine me_getR (q := 66) C dX9_tryWays_63 mf_X9_15 rfl rfl k9 rfl ?_
      refine me_iload_n (q := 67) C dX9_tryWays_66 rfl rfl rfl ?_
      obtain ⟨u11, eu11, hf⟩ := mm_rf_some hf
      obtain ⟨k12, hf⟩ := mm_ck_some hf
      obtain ⟨k13, hf⟩ := mm_ck_some hf
      refine me_iald (q := 68) C dX9_tryWays_67 eu11 k12 k13 rfl ?_
      refine me_aload_n (q := 69) C dX9_tryWays_68 rfl rfl rfl ?_
      refine me_getR (q := 72) C dX9_tryWays_69 mf_X9_21 rfl rfl k9 rfl ?_
      refine me_iload (q := 74) C dX9_tryWays_72 rfl rfl ?_
      obtain ⟨u14, eu14, hf⟩ := mm_rf_some hf
      obtain ⟨k15, hf⟩ := mm_ck_some hf
      obtain ⟨k16, hf⟩ := mm_ck_some hf
      refine me_iald (q := 75) C dX9_tryWays_74 eu14 k15 k16 rfl ?_
      obtain ⟨q18, eq18, hf⟩ := mm_jn_some hf
      have Hq18 : ∀ (g17 : mm_H), q18 g17 = some (r, h1) → mm_E X g17 0 0 152 [some (vR (some b0)), some (vI b1), some (vJ b2), none, some (vJ b4), none, some (vI x6)] [] := by
        intro g17 hf
        subst eq18
        obtain ⟨v19, ev19, hf⟩ := mm_lt_some hf
        refine me_iinc (q := 155) (v := v19) (lv2 := [some (vR (some b0)), some (vI b1), some (vJ b2), none, some (vJ b4), none, some (vI v19)]) C dX9_tryWays_152 rfl (by rw [ev19]; rfl) (Nat.le_of_ble_eq_true rfl) rfl rfl rfl ?_
        refine me_goto (q := 53) C dX9_tryWays_155 (by decide) ?_
        exact ih _ _ hf hk158
      refine me_icmp_gt (q2 := 152) (q := 78) C dX9_tryWays_75 (by decide) rfl (fun c20 => ?_) (fun c20 => ?_)
      · have hf := mm_if_t c20 hf
        exact Hq18 _ hf
      · have hf := mm_if_f c20 hf
        refine me_aload_n (q := 79) C dX9_tryWays_78 rfl rfl rfl ?_
        refine me_getR (q := 82) C dX9_tryWays_79 mf_X9_21 rfl rfl k9 rfl ?_
        refine me_iload (q := 84) C dX9_tryWays_82 rfl rfl ?_
        refine me_dup2_11 (q := 85) C dX9_tryWays_84 rfl rfl rfl ?_
        obtain ⟨k21, hf⟩ := mm_ck_some hf
        refine me_iald (q := 86) C dX9_tryWays_85 eu14 k15 k21 rfl ?_
        refine me_aload_n (q := 87) C dX9_tryWays_86 rfl rfl rfl ?_
        refine me_getR (q := 90) C dX9_tryWays_87 mf_X9_15 rfl rfl k9 rfl ?_
        refine me_iload_n (q := 91) C dX9_tryWays_90 rfl rfl rfl ?_
        obtain ⟨k22, hf⟩ := mm_ck_some hf
        refine me_iald (q := 92) C dX9_tryWays_91 eu11 k12 k22 rfl ?_
        refine me_isub (q := 93) C dX9_tryWays_92 rfl ?_
        obtain ⟨k23, hf⟩ := mm_ck_some hf
        obtain ⟨g24, eg24, hf⟩ := mm_lt_some hf
        refine me_iastH (q := 94) C eg24 dX9_tryWays_93 eu14 k15 k23 rfl ?_
        refine me_aload_n (q := 95) C dX9_tryWays_94 rfl rfl rfl ?_
        refine me_getR (q := 98) C dX9_tryWays_95 mf_X9_34 rfl rfl (mm_kI eg24 k9) rfl ?_
        refine me_iload_n (q := 99) C dX9_tryWays_98 rfl rfl rfl ?_
        refine me_iload (q := 101) C dX9_tryWays_99 rfl rfl ?_
        obtain ⟨u25, eu25, hf⟩ := mm_rf_some hf
        obtain ⟨k26, hf⟩ := mm_ck_some hf
        obtain ⟨k27, hf⟩ := mm_ck_some hf
        obtain ⟨g28, eg28, hf⟩ := mm_lt_some hf
        refine me_iastH (q := 102) C eg28 dX9_tryWays_101 eu25 k26 k27 rfl ?_
        refine me_aload_n (q := 103) C dX9_tryWays_102 rfl rfl rfl ?_
        refine me_iload_n (q := 104) C dX9_tryWays_103 rfl rfl rfl ?_
        refine me_iconst (v := (1 : Int32)) (q := 105) C dX9_tryWays_104 (by decide) rfl ?_
        refine me_iadd (q := 106) C dX9_tryWays_105 rfl ?_
        refine me_lload_n (q := 107) C dX9_tryWays_106 rfl rfl rfl ?_
        refine me_aload_n (q := 108) C dX9_tryWays_107 rfl rfl rfl ?_
        refine me_getR (q := 111) C dX9_tryWays_108 mf_X9_24 rfl rfl (mm_kI eg28 (mm_kI eg24 k9)) rfl ?_
        refine me_iload_n (q := 112) C dX9_tryWays_111 rfl rfl rfl ?_
        refine me_iconst (v := (5 : Int32)) (q := 113) C dX9_tryWays_112 (by decide) rfl ?_
        refine me_imul (q := 114) C dX9_tryWays_113 rfl ?_
        refine me_iload (q := 116) C dX9_tryWays_114 rfl rfl ?_
        refine me_iadd (q := 117) C dX9_tryWays_116 rfl ?_
        obtain ⟨u29, eu29, hf⟩ := mm_rf_some hf
        obtain ⟨k30, hf⟩ := mm_ck_some hf
        obtain ⟨k31, hf⟩ := mm_ck_some hf
        refine me_lald (q := 118) C dX9_tryWays_117 eu29 k30 k31 rfl ?_
        refine me_ladd (q := 119) C dX9_tryWays_118 rfl ?_
        refine me_lload (q := 121) C dX9_tryWays_119 rfl rfl ?_
        refine me_aload_n (q := 122) C dX9_tryWays_121 rfl rfl rfl ?_
        refine me_getR (q := 125) C dX9_tryWays_122 mf_X9_28 rfl rfl (mm_kI eg28 (mm_kI eg24 k9)) rfl ?_
        refine me_iload_n (q := 126) C dX9_tryWays_125 rfl rfl rfl ?_
        refine me_iconst (v := (5 : Int32)) (q := 127) C dX9_tryWays_126 (by decide) rfl ?_
        refine me_imul (q := 128) C dX9_tryWays_127 rfl ?_
        refine me_iload (q := 130) C dX9_tryWays_128 rfl rfl ?_
        refine me_iadd (q := 131) C dX9_tryWays_130 rfl ?_
        obtain ⟨u32, eu32, hf⟩ := mm_rf_some hf
        obtain ⟨k33, hf⟩ := mm_ck_some hf
        obtain ⟨k34, hf⟩ := mm_ck_some hf
        refine me_lald (q := 132) C dX9_tryWays_131 eu32 k33 k34 rfl ?_
        refine me_ladd (q := 133) C dX9_tryWays_132 rfl ?_
        obtain ⟨_, g35, e36, hf⟩ := mm_cl_some hf
        refine me_callV (q := 136) (c2 := 0) (s2 := 0) (st := []) C (hr0 e36) mt_X9_66 mv_X9_tryWays rfl (by decide) dX9_tryWays_133 rfl (mm_kI eg28 (mm_kI eg24 k9)) rfl rfl rfl (by omega) rfl (Nat.le_of_ble_eq_true rfl) rfl (Nat.le_of_ble_eq_true rfl) rfl rfl ?_
        refine me_aload_n (q := 137) C dX9_tryWays_136 rfl rfl rfl ?_
        obtain ⟨k37, hf⟩ := mm_ck_some hf
        refine me_getR (q := 140) C dX9_tryWays_137 mf_X9_21 rfl rfl k37 rfl ?_
        refine me_iload (q := 142) C dX9_tryWays_140 rfl rfl ?_
        refine me_dup2_11 (q := 143) C dX9_tryWays_142 rfl rfl rfl ?_
        obtain ⟨u38, eu38, hf⟩ := mm_rf_some hf
        obtain ⟨k39, hf⟩ := mm_ck_some hf
        obtain ⟨k40, hf⟩ := mm_ck_some hf
        refine me_iald (q := 144) C dX9_tryWays_143 eu38 k39 k40 rfl ?_
        refine me_aload_n (q := 145) C dX9_tryWays_144 rfl rfl rfl ?_
        refine me_getR (q := 148) C dX9_tryWays_145 mf_X9_15 rfl rfl k37 rfl ?_
        refine me_iload_n (q := 149) C dX9_tryWays_148 rfl rfl rfl ?_
        obtain ⟨u41, eu41, hf⟩ := mm_rf_some hf
        obtain ⟨k42, hf⟩ := mm_ck_some hf
        obtain ⟨k43, hf⟩ := mm_ck_some hf
        refine me_iald (q := 150) C dX9_tryWays_149 eu41 k42 k43 rfl ?_
        refine me_iadd (q := 151) C dX9_tryWays_150 rfl ?_
        obtain ⟨k44, hf⟩ := mm_ck_some hf
        obtain ⟨g45, eg45, hf⟩ := mm_lt_some hf
        refine me_iastH (q := 152) C eg45 dX9_tryWays_151 eu38 k39 k44 rfl ?_
        exact Hq18 _ hf
set_option maxRecDepth 100000 in
set_option maxHeartbeats 4000000 in
theorem cX9_tryWays_g_ok (l : Launch) {lx : Nat} (hlx : 3 ≤ lx) {rc0 : Nat → Int32 → Int64 → Int64 → mm_H → Option (Unit × mm_H)} (hr0 : ∀ {a0 : Nat} {a1 : Int32} {a2 : Int64} {a4 : Int64} {h : mm_H} {r : Unit} {h1 : mm_H}, rc0 a0 a1 a2 a4 h = some (r, h1) → mm_M l yX9_tryWays cX9_tryWays 7 none lx 0 0 [vR (some a0), vI a1, vJ a2, vJ a4] h none h1) {a0 : Nat} {a1 : Int32} {a2 : Int64} {a4 : Int64} {h : mm_H} {r : Unit} {h1 : mm_H} (hf : fX9_tryWays_g rc0 a0 a1 a2 a4 h = some (r, h1)) : mm_M l yX9_tryWays cX9_tryWays 7 none (lx + 1) 0 0 [vR (some a0), vI a1, vJ a2, vJ a4] h none h1 := by
  refine mm_enter (lv := [some (vR (some a0)), some (vI a1), some (vJ a2), none, some (vJ a4), none, none]) (by decide) rfl (Nat.le_of_ble_eq_true rfl) ?_
  intro X hl C hE
  subst hl
  unfold fX9_tryWays_g at hf
  refine me_iload_n (q := 1) C dX9_tryWays_0 rfl rfl rfl ?_
  refine me_aload_n (q := 2) C dX9_tryWays_1 rfl rfl rfl ?_
  obtain ⟨k1, hf⟩ := mm_ck_some hf
  refine me_getI (q := 5) C dX9_tryWays_2 mf_X9_40 rfl rfl k1 rfl ?_
  refine me_icmp_gt (q2 := 33) (q := 8) C dX9_tryWays_5 (by decide) rfl (fun c2 => ?_) (fun c2 => ?_)
  · have hf := mm_if_t c2 hf
    exact me_vret C hE (Nat.le_of_ble_eq_true rfl) (Nat.le_of_ble_eq_true rfl) rfl dX9_tryWays_33 (mm_ru hf)
  · have hf := mm_if_f c2 hf
    refine me_iload_n (q := 9) C dX9_tryWays_8 rfl rfl rfl ?_
    refine me_aload_n (q := 10) C dX9_tryWays_9 rfl rfl rfl ?_
    refine me_getR (q := 13) C dX9_tryWays_10 mf_X9_31 rfl rfl k1 rfl ?_
    obtain ⟨u3, eu3, hf⟩ := mm_rf_some hf
    obtain ⟨k4, hf⟩ := mm_ck_some hf
    refine me_alen (q := 14) C 1 rfl (by decide) dX9_tryWays_13 eu3 k4 rfl ?_
    refine me_icmp_ge (q2 := 33) (q := 17) C dX9_tryWays_14 (by decide) rfl (fun c5 => ?_) (fun c5 => ?_)
    · have hf := mm_if_t c5 hf
      exact me_vret C hE (Nat.le_of_ble_eq_true rfl) (Nat.le_of_ble_eq_true rfl) rfl dX9_tryWays_33 (mm_ru hf)
    · have hf := mm_if_f c5 hf
      refine me_lload_n (q := 18) C dX9_tryWays_17 rfl rfl rfl ?_
      refine me_aload_n (q := 19) C dX9_tryWays_18 rfl rfl rfl ?_
      refine me_getR (q := 22) C dX9_tryWays_19 mf_X9_31 rfl rfl k1 rfl ?_
      refine me_iload_n (q := 23) C dX9_tryWays_22 rfl rfl rfl ?_
      obtain ⟨k6, hf⟩ := mm_ck_some hf
      refine me_lald (q := 24) C dX9_tryWays_23 eu3 k4 k6 rfl ?_
      refine me_ladd (q := 25) C dX9_tryWays_24 rfl ?_
      refine me_aload_n (q := 26) C dX9_tryWays_25 rfl rfl rfl ?_
      refine me_getJ (q := 29) C dX9_tryWays_26 mf_X9_53 rfl rfl k1 rfl ?_
      refine me_lcmp (q := 30) C dX9_tryWays_29 rfl ?_
      refine me_if_ge (q2 := 34) (q := 33) C dX9_tryWays_30 (by decide) rfl (fun c7 => ?_) (fun c7 => ?_)
      · have hf := mm_if_t c7 hf
        refine me_iload_n (q := 35) C dX9_tryWays_34 rfl rfl rfl ?_
        refine me_aload_n (q := 36) C dX9_tryWays_35 rfl rfl rfl ?_
        refine me_getI (q := 39) C dX9_tryWays_36 mf_X9_40 rfl rfl k1 rfl ?_
        refine me_icmp_ne (q2 := 50) (q := 42) C dX9_tryWays_39 (by decide) rfl (fun c8 => ?_) (fun c8 => ?_)
        · have hf := mm_if_t c8 hf
          refine me_iconst (v := (0 : Int32)) (q := 51) C dX9_tryWays_50 (by decide) rfl ?_
          refine me_istore (q := 53) (lv2 := [some (vR (some a0)), some (vI a1), some (vJ a2), none, some (vJ a4), none, some (vI (0 : Int32))]) C dX9_tryWays_51 (Nat.le_of_ble_eq_true rfl) rfl rfl rfl ?_
          refine cX9_tryWays_L53 C hE hlx hr0 _ _ _ _ hf ?_
          · intro g46 hf
            refine me_aload_n (q := 159) C dX9_tryWays_158 rfl rfl rfl ?_
            obtain ⟨k47, hf⟩ := mm_ck_some hf
            refine me_getR (q := 162) C dX9_tryWays_159 mf_X9_34 rfl rfl k47 rfl ?_
            refine me_iload_n (q := 163) C dX9_tryWays_162 rfl rfl rfl ?_
            refine me_iconst (v := (4 : Int32)) (q := 164) C dX9_tryWays_163 (by decide) rfl ?_
            obtain ⟨u48, eu48, hf⟩ := mm_rf_some hf
            obtain ⟨k49, hf⟩ := mm_ck_some hf
            obtain ⟨k50, hf⟩ := mm_ck_some hf
            obtain ⟨g51, eg51, hf⟩ := mm_lt_some hf
            refine me_iastH (q := 165) C eg51 dX9_tryWays_164 eu48 k49 k50 rfl ?_
            refine me_aload_n (q := 166) C dX9_tryWays_165 rfl rfl rfl ?_
            refine me_iload_n (q := 167) C dX9_tryWays_166 rfl rfl rfl ?_
            refine me_iconst (v := (1 : Int32)) (q := 168) C dX9_tryWays_167 (by decide) rfl ?_
            refine me_iadd (q := 169) C dX9_tryWays_168 rfl ?_
            refine me_lload_n (q := 170) C dX9_tryWays_169 rfl rfl rfl ?_
            refine me_aload_n (q := 171) C dX9_tryWays_170 rfl rfl rfl ?_
            refine me_getR (q := 174) C dX9_tryWays_171 mf_X9_24 rfl rfl (mm_kI eg51 k47) rfl ?_
            refine me_iload_n (q := 175) C dX9_tryWays_174 rfl rfl rfl ?_
            refine me_iconst (v := (5 : Int32)) (q := 176) C dX9_tryWays_175 (by decide) rfl ?_
            refine me_imul (q := 177) C dX9_tryWays_176 rfl ?_
            refine me_iconst (v := (4 : Int32)) (q := 178) C dX9_tryWays_177 (by decide) rfl ?_
            refine me_iadd (q := 179) C dX9_tryWays_178 rfl ?_
            obtain ⟨u52, eu52, hf⟩ := mm_rf_some hf
            obtain ⟨k53, hf⟩ := mm_ck_some hf
            obtain ⟨k54, hf⟩ := mm_ck_some hf
            refine me_lald (q := 180) C dX9_tryWays_179 eu52 k53 k54 rfl ?_
            refine me_ladd (q := 181) C dX9_tryWays_180 rfl ?_
            refine me_lload (q := 183) C dX9_tryWays_181 rfl rfl ?_
            refine me_aload_n (q := 184) C dX9_tryWays_183 rfl rfl rfl ?_
            refine me_getR (q := 187) C dX9_tryWays_184 mf_X9_28 rfl rfl (mm_kI eg51 k47) rfl ?_
            refine me_iload_n (q := 188) C dX9_tryWays_187 rfl rfl rfl ?_
            refine me_iconst (v := (5 : Int32)) (q := 189) C dX9_tryWays_188 (by decide) rfl ?_
            refine me_imul (q := 190) C dX9_tryWays_189 rfl ?_
            refine me_iconst (v := (4 : Int32)) (q := 191) C dX9_tryWays_190 (by decide) rfl ?_
            refine me_iadd (q := 192) C dX9_tryWays_191 rfl ?_
            obtain ⟨u55, eu55, hf⟩ := mm_rf_some hf
            obtain ⟨k56, hf⟩ := mm_ck_some hf
            obtain ⟨k57, hf⟩ := mm_ck_some hf
            refine me_lald (q := 193) C dX9_tryWays_192 eu55 k56 k57 rfl ?_
            refine me_ladd (q := 194) C dX9_tryWays_193 rfl ?_
            obtain ⟨_, g58, e59, hf⟩ := mm_cl_some hf
            refine me_callV (q := 197) (c2 := 0) (s2 := 0) (st := []) C (hr0 e59) mt_X9_66 mv_X9_tryWays rfl (by decide) dX9_tryWays_194 rfl (mm_kI eg51 k47) rfl rfl rfl (by omega) rfl (Nat.le_of_ble_eq_true rfl) rfl (Nat.le_of_ble_eq_true rfl) rfl rfl ?_
            exact me_vret C hE (Nat.le_of_ble_eq_true rfl) (Nat.le_of_ble_eq_true rfl) rfl dX9_tryWays_197 (mm_ru hf)
        · have hf := mm_if_f c8 hf
          refine me_aload_n (q := 43) C dX9_tryWays_42 rfl rfl rfl ?_
          refine me_lload_n (q := 44) C dX9_tryWays_43 rfl rfl rfl ?_
          refine me_lload (q := 46) C dX9_tryWays_44 rfl rfl ?_
          obtain ⟨_, g60, e61, hf⟩ := mm_cl_some hf
          refine me_callV (q := 49) (c2 := 0) (s2 := 0) (st := []) C (cX9_keepIfBetter_ok _ e61) mt_X9_70 mv_X9_keepIfBetter rfl (by decide) dX9_tryWays_46 rfl k1 rfl rfl rfl (by omega) rfl (Nat.le_of_ble_eq_true rfl) rfl (Nat.le_of_ble_eq_true rfl) rfl rfl ?_
          exact me_vret C hE (Nat.le_of_ble_eq_true rfl) (Nat.le_of_ble_eq_true rfl) rfl dX9_tryWays_49 (mm_ru hf)
      · have hf := mm_if_f c7 hf
        exact me_vret C hE (Nat.le_of_ble_eq_true rfl) (Nat.le_of_ble_eq_true rfl) rfl dX9_tryWays_33 (mm_ru hf)


theorem cgG3_ok (l : Launch) : ∀ n : Nat, (∀ {a0 : Nat} {a1 : Int32} {a2 : Int64} {a4 : Int64} {h : mm_H} {r : Unit} {h1 : mm_H}, (fgG3 n) a0 a1 a2 a4 h = some (r, h1) → mm_M l yX9_tryWays cX9_tryWays 7 none (3 + n) 0 0 [vR (some a0), vI a1, vJ a2, vJ a4] h none h1) := by
  intro n
  induction n with
  | zero =>
    exact (by intro a0 a1 a2 a4 h r h1 hf; cases (show (none : Option (Unit × mm_H)) = some (r, h1) from hf))
  | succ n ih =>
    exact fun hf => cX9_tryWays_g_ok l (lx := 3 + n) (Nat.le_add_right _ _) (ih) hf


theorem cX9_tryWays_ok (l : Launch) {a0 : Nat} {a1 : Int32} {a2 : Int64} {a4 : Int64} {h : mm_H} {r : Unit} {h1 : mm_H} (hf : fX9_tryWays a0 a1 a2 a4 h = some (r, h1)) : mm_M l yX9_tryWays cX9_tryWays 7 none 13 0 0 [vR (some a0), vI a1, vJ a2, vJ a4] h none h1 := by
  exact (cgG3_ok l 10) hf
set_option maxRecDepth 100000 in
set_option maxHeartbeats 4000000 in
theorem cX9_findBest_L54 {X : mm_X} (C : mm_C X cX9_findBest yX9_findBest 15 0 0) {r : Unit} {h1 : mm_H} (hE : mm_End X 0 0 none none h1) {b0 : Nat} {b1 : Int32} (K85 : Int64 → mm_H → Option (Unit × mm_H)) : ∀ (n : Nat) (x2 : Int64) (x4 : Int32) (h : mm_H), fX9_findBest_L54 b0 b1 K85 n x2 x4 h = some (r, h1) → (∀ (y2 : Int64) (h : mm_H), K85 y2 h = some (r, h1) → mm_E X h 0 0 85 [some (vR (some b0)), some (vI b1), some (vJ y2), none, none] []) → mm_E X h 0 0 54 [some (vR (some b0)), some (vI b1), some (vJ x2), none, some (vI x4)] [] := by
  intro n
  induction n with
  | zero =>
    intro x2 x4 h hf
    exact absurd (show (none : Option (Unit × mm_H)) = some (r, h1) from hf) (by simp)
  | succ n ih =>
    intro x2 x4 h hf hk85
    have hf : fX9_findBest_L54_b b0 b1 K85 (fX9_findBest_L54 b0 b1 K85 n) x2 x4 h = some (r, h1) := hf
    unfold fX9_findBest_L54_b at hf
    refine me_iload (q := 56) C dX9_findBest_54 rfl rfl ?_
    refine me_aload_n (q := 57) C dX9_findBest_56 rfl rfl rfl ?_
    obtain ⟨k16, hf⟩ := mm_ck_some hf
    refine me_getI (q := 60) C dX9_findBest_57 mf_X9_44 rfl rfl k16 rfl ?_
    refine me_icmp_ge (q2 := 85) (q := 63) C dX9_findBest_60 (by decide) rfl (fun c17 => ?_) (fun c17 => ?_)
    · have hf := mm_if_t c17 hf
      refine me_mask [true, true, true, false, false] (lv2 := [some (vR (some b0)), some (vI b1), some (vJ x2), none, none]) rfl ?_
      exact hk85 _ _ hf
    · have hf := mm_if_f c17 hf
      refine me_lload_n (q := 64) C dX9_findBest_63 rfl rfl rfl ?_
      refine me_aload_n (q := 65) C dX9_findBest_64 rfl rfl rfl ?_
      refine me_getR (q := 68) C dX9_findBest_65 mf_X9_24 rfl rfl k16 rfl ?_
      refine me_iload_n (q := 69) C dX9_findBest_68 rfl rfl rfl ?_
      refine me_iconst (v := (5 : Int32)) (q := 70) C dX9_findBest_69 (by decide) rfl ?_
      refine me_imul (q := 71) C dX9_findBest_70 rfl ?_
      refine me_iload (q := 73) C dX9_findBest_71 rfl rfl ?_
      refine me_iadd (q := 74) C dX9_findBest_73 rfl ?_
      obtain ⟨u18, eu18, hf⟩ := mm_rf_some hf
      obtain ⟨k19, hf⟩ := mm_ck_some hf
      obtain ⟨k20, hf⟩ := mm_ck_some hf
      refine me_lald (q := 75) C dX9_findBest_74 eu18 k19 k20 rfl ?_
      refine me_mmaxJ (q := 78) C dX9_findBest_75 mm_X9_60 rfl (Nat.le_of_ble_eq_true rfl) rfl ?_
      obtain ⟨v21, ev21, hf⟩ := mm_lt_some hf
      refine me_topJ ev21 ?_
      refine me_lstore_n (q := 79) (lv2 := [some (vR (some b0)), some (vI b1), some (vJ v21), none, some (vI x4)]) C dX9_findBest_78 rfl (Nat.le_of_ble_eq_true rfl) rfl rfl rfl ?_
      obtain ⟨v22, ev22, hf⟩ := mm_lt_some hf
      refine me_iinc (q := 82) (v := v22) (lv2 := [some (vR (some b0)), some (vI b1), some (vJ v21), none, some (vI v22)]) C dX9_findBest_79 rfl (by rw [ev22]; rfl) (Nat.le_of_ble_eq_true rfl) rfl rfl rfl ?_
      refine me_goto (q := 54) C dX9_findBest_82 (by decide) ?_
      exact ih _ _ _ hf hk85
set_option maxRecDepth 100000 in
set_option maxHeartbeats 4000000 in
theorem cX9_findBest_L36 {X : mm_X} (C : mm_C X cX9_findBest yX9_findBest 15 0 0) {r : Unit} {h1 : mm_H} (hE : mm_End X 0 0 none none h1) {b0 : Nat} (K107 : mm_H → Option (Unit × mm_H)) : ∀ (n : Nat) (x1 : Int32) (h : mm_H), fX9_findBest_L36 b0 K107 n x1 h = some (r, h1) → (∀ (h : mm_H), K107 h = some (r, h1) → mm_E X h 0 0 107 [some (vR (some b0)), none, none, none, none] []) → mm_E X h 0 0 36 [some (vR (some b0)), some (vI x1), none, none, none] [] := by
  intro n
  induction n with
  | zero =>
    intro x1 h hf
    exact absurd (show (none : Option (Unit × mm_H)) = some (r, h1) from hf) (by simp)
  | succ n ih =>
    intro x1 h hf hk107
    have hf : fX9_findBest_L36_b b0 K107 (fX9_findBest_L36 b0 K107 n) x1 h = some (r, h1) := hf
    unfold fX9_findBest_L36_b at hf
    refine me_iload_n (q := 37) C dX9_findBest_36 rfl rfl rfl ?_
    refine me_if_lt (q2 := 107) (q := 40) C dX9_findBest_37 (by decide) rfl (fun c10 => ?_) (fun c10 => ?_)
    · have hf := mm_if_t c10 hf
      refine me_mask [true, false, false, false, false] (lv2 := [some (vR (some b0)), none, none, none, none]) rfl ?_
      exact hk107 _ hf
    · have hf := mm_if_f c10 hf
      refine me_aload_n (q := 41) C dX9_findBest_40 rfl rfl rfl ?_
      obtain ⟨k11, hf⟩ := mm_ck_some hf
      refine me_getR (q := 44) C dX9_findBest_41 mf_X9_24 rfl rfl k11 rfl ?_
      refine me_iload_n (q := 45) C dX9_findBest_44 rfl rfl rfl ?_
      refine me_iconst (v := (5 : Int32)) (q := 46) C dX9_findBest_45 (by decide) rfl ?_
      refine me_imul (q := 47) C dX9_findBest_46 rfl ?_
      refine me_iconst (v := (4 : Int32)) (q := 48) C dX9_findBest_47 (by decide) rfl ?_
      refine me_iadd (q := 49) C dX9_findBest_48 rfl ?_
      obtain ⟨u12, eu12, hf⟩ := mm_rf_some hf
      obtain ⟨k13, hf⟩ := mm_ck_some hf
      obtain ⟨k14, hf⟩ := mm_ck_some hf
      refine me_lald (q := 50) C dX9_findBest_49 eu12 k13 k14 rfl ?_
      obtain ⟨v15, ev15, hf⟩ := mm_lt_some hf
      refine me_topJ ev15 ?_
      refine me_lstore_n (q := 51) (lv2 := [some (vR (some b0)), some (vI x1), some (vJ v15), none, none]) C dX9_findBest_50 rfl (Nat.le_of_ble_eq_true rfl) rfl rfl rfl ?_
      refine me_iconst (v := (0 : Int32)) (q := 52) C dX9_findBest_51 (by decide) rfl ?_
      refine me_istore (q := 54) (lv2 := [some (vR (some b0)), some (vI x1), some (vJ v15), none, some (vI (0 : Int32))]) C dX9_findBest_52 (Nat.le_of_ble_eq_true rfl) rfl rfl rfl ?_
      refine cX9_findBest_L54 C hE _ _ _ _ _ hf ?_
      · intro z23 g24 hf
        refine me_aload_n (q := 86) C dX9_findBest_85 rfl rfl rfl ?_
        obtain ⟨k25, hf⟩ := mm_ck_some hf
        refine me_getR (q := 89) C dX9_findBest_86 mf_X9_31 rfl rfl k25 rfl ?_
        refine me_iload_n (q := 90) C dX9_findBest_89 rfl rfl rfl ?_
        refine me_aload_n (q := 91) C dX9_findBest_90 rfl rfl rfl ?_
        refine me_getR (q := 94) C dX9_findBest_91 mf_X9_31 rfl rfl k25 rfl ?_
        refine me_iload_n (q := 95) C dX9_findBest_94 rfl rfl rfl ?_
        refine me_iconst (v := (1 : Int32)) (q := 96) C dX9_findBest_95 (by decide) rfl ?_
        refine me_iadd (q := 97) C dX9_findBest_96 rfl ?_
        obtain ⟨u26, eu26, hf⟩ := mm_rf_some hf
        obtain ⟨k27, hf⟩ := mm_ck_some hf
        obtain ⟨k28, hf⟩ := mm_ck_some hf
        refine me_lald (q := 98) C dX9_findBest_97 eu26 k27 k28 rfl ?_
        refine me_lload_n (q := 99) C dX9_findBest_98 rfl rfl rfl ?_
        refine me_ladd (q := 100) C dX9_findBest_99 rfl ?_
        obtain ⟨k29, hf⟩ := mm_ck_some hf
        obtain ⟨g30, eg30, hf⟩ := mm_lt_some hf
        refine me_lastH (q := 101) C eg30 dX9_findBest_100 eu26 k27 k29 rfl ?_
        obtain ⟨v31, ev31, hf⟩ := mm_lt_some hf
        refine me_iinc (q := 104) (v := v31) (lv2 := [some (vR (some b0)), some (vI v31), some (vJ z23), none, none]) C dX9_findBest_101 rfl (by rw [ev31]; rfl) (Nat.le_of_ble_eq_true rfl) rfl rfl rfl ?_
        refine me_goto (q := 36) C dX9_findBest_104 (by decide) ?_
        refine me_mask [true, true, false, false, false] (lv2 := [some (vR (some b0)), some (vI v31), none, none, none]) rfl ?_
        exact ih _ _ hf hk107
set_option maxRecDepth 100000 in
set_option maxHeartbeats 4000000 in
theorem cX9_findBest_ok (l : Launch) {a0 : Nat} {h : mm_H} {r : Unit} {h1 : mm_H} (hf : fX9_findBest a0 h = some (r, h1)) : mm_M l yX9_findBest cX9_findBest 5 none 15 0 0 [vR (some a0)] h none h1 := by
  refine mm_enter (lv := [some (vR (some a0)), none, none, none, none]) (by decide) rfl (Nat.le_of_ble_eq_true rfl) ?_
  intro X hl C hE
  subst hl
  unfold fX9_findBest at hf
  refine me_aload_n (q := 1) C dX9_findBest_0 rfl rfl rfl ?_
  refine me_iconst (v := (1 : Int32)) (q := 2) C dX9_findBest_1 (by decide) rfl ?_
  obtain ⟨k1, hf⟩ := mm_ck_some hf
  obtain ⟨g2, eg2, hf⟩ := mm_lt_some hf
  refine me_putZ (q := 5) C (Or.inr rfl) eg2 dX9_findBest_2 mf_X9_47 mp_X9_10_13 rfl (by decide) rfl k1 rfl ?_
  refine me_aload_n (q := 6) C dX9_findBest_5 rfl rfl rfl ?_
  refine me_ldc2_w (v := (-1 : Int64)) (q := 9) C dX9_findBest_6 mc_X9_51 rfl ?_
  obtain ⟨g3, eg3, hf⟩ := mm_lt_some hf
  refine me_putJ (q := 12) C eg3 dX9_findBest_9 mf_X9_53 mp_X9_10_11 rfl (by decide) rfl (mm_kI eg2 k1) rfl ?_
  refine me_aload_n (q := 13) C dX9_findBest_12 rfl rfl rfl ?_
  refine me_ldc2_w (v := (-1 : Int64)) (q := 16) C dX9_findBest_13 mc_X9_51 rfl ?_
  obtain ⟨g4, eg4, hf⟩ := mm_lt_some hf
  refine me_putJ (q := 19) C eg4 dX9_findBest_16 mf_X9_57 mp_X9_10_12 rfl (by decide) rfl (mm_kJ eg3 (mm_kI eg2 k1)) rfl ?_
  refine me_aload_n (q := 20) C dX9_findBest_19 rfl rfl rfl ?_
  refine me_getR (q := 23) C dX9_findBest_20 mf_X9_31 rfl rfl (mm_kJ eg4 (mm_kJ eg3 (mm_kI eg2 k1))) rfl ?_
  refine me_aload_n (q := 24) C dX9_findBest_23 rfl rfl rfl ?_
  refine me_getI (q := 27) C dX9_findBest_24 mf_X9_40 rfl rfl (mm_kJ eg4 (mm_kJ eg3 (mm_kI eg2 k1))) rfl ?_
  refine me_lconst (v := (0 : Int64)) (q := 28) C dX9_findBest_27 (by decide) rfl ?_
  obtain ⟨u5, eu5, hf⟩ := mm_rf_some hf
  obtain ⟨k6, hf⟩ := mm_ck_some hf
  obtain ⟨k7, hf⟩ := mm_ck_some hf
  obtain ⟨g8, eg8, hf⟩ := mm_lt_some hf
  refine me_lastH (q := 29) C eg8 dX9_findBest_28 eu5 k6 k7 rfl ?_
  refine me_aload_n (q := 30) C dX9_findBest_29 rfl rfl rfl ?_
  refine me_getI (q := 33) C dX9_findBest_30 mf_X9_40 rfl rfl (mm_kJ eg8 (mm_kJ eg4 (mm_kJ eg3 (mm_kI eg2 k1)))) rfl ?_
  refine me_iconst (v := (1 : Int32)) (q := 34) C dX9_findBest_33 (by decide) rfl ?_
  refine me_isub (q := 35) C dX9_findBest_34 rfl ?_
  obtain ⟨v9, ev9, hf⟩ := mm_lt_some hf
  refine me_topI ev9 ?_
  refine me_istore_n (q := 36) (lv2 := [some (vR (some a0)), some (vI v9), none, none, none]) C dX9_findBest_35 rfl (Nat.le_of_ble_eq_true rfl) rfl rfl rfl ?_
  refine cX9_findBest_L36 C hE _ _ _ _ hf ?_
  · intro g32 hf
    refine me_aload_n (q := 108) C dX9_findBest_107 rfl rfl rfl ?_
    refine me_iconst (v := (0 : Int32)) (q := 109) C dX9_findBest_108 (by decide) rfl ?_
    refine me_lconst (v := (0 : Int64)) (q := 110) C dX9_findBest_109 (by decide) rfl ?_
    refine me_lconst (v := (0 : Int64)) (q := 111) C dX9_findBest_110 (by decide) rfl ?_
    obtain ⟨k33, hf⟩ := mm_ck_some hf
    obtain ⟨_, g34, e35, hf⟩ := mm_cl_some hf
    refine me_callV (q := 114) (c2 := 0) (s2 := 0) (st := []) C (cX9_tryWays_ok _ e35) mt_X9_66 mv_X9_tryWays rfl (by decide) dX9_findBest_111 rfl k33 rfl rfl rfl (Nat.le_of_ble_eq_true rfl) rfl (Nat.le_of_ble_eq_true rfl) rfl (Nat.le_of_ble_eq_true rfl) rfl rfl ?_
    exact me_vret C hE (Nat.le_of_ble_eq_true rfl) (Nat.le_of_ble_eq_true rfl) rfl dX9_findBest_114 (mm_ru hf)
