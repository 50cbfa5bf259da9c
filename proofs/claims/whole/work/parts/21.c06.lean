set_option maxRecDepth 100000 in
set_option maxHeartbeats 4000000 in
theorem cX11_elderOn_L28 {X : mm_X} (C : mm_C X cX11_elderOn yX11_elderOn 10 0 0) {r : Int32} {h1 : mm_H} (hE : mm_End X 0 0 (some .int) (some (vI r)) h1) {b0 : Nat} {b2 : Int32} (K78 : mm_H → Option (Int32 × mm_H)) : ∀ (n : Nat) (x3 : Int32) (h : mm_H), fX11_elderOn_L28 b0 b2 K78 n x3 h = some (r, h1) → (∀ (h : mm_H), K78 h = some (r, h1) → mm_E X h 0 0 78 [none, none, none, none, none] []) → mm_E X h 0 0 28 [some (vR (some b0)), none, some (vI b2), some (vI x3), none] [] := by
  intro n
  induction n with
  | zero =>
    intro x3 h hf
    exact absurd (show (none : Option (Int32 × mm_H)) = some (r, h1) from hf) (by simp)
  | succ n ih =>
    intro x3 h hf hk78
    have hf : fX11_elderOn_L28_b b0 b2 K78 (fX11_elderOn_L28 b0 b2 K78 n) x3 h = some (r, h1) := hf
    unfold fX11_elderOn_L28_b at hf
    refine me_iload_n (q := 29) C dX11_elderOn_28 rfl rfl rfl ?_
    refine me_aload_n (q := 30) C dX11_elderOn_29 rfl rfl rfl ?_
    obtain ⟨k8, hf⟩ := mm_ck_some hf
    refine me_getR (q := 33) C dX11_elderOn_30 mf_X11_83 rfl rfl k8 rfl ?_
    obtain ⟨u9, eu9, hf⟩ := mm_rf_some hf
    obtain ⟨k10, hf⟩ := mm_ck_some hf
    refine me_alen (q := 34) C 0 rfl (by decide) dX11_elderOn_33 eu9 k10 rfl ?_
    refine me_icmp_ge (q2 := 78) (q := 37) C dX11_elderOn_34 (by decide) rfl (fun c11 => ?_) (fun c11 => ?_)
    · have hf := mm_if_t c11 hf
      refine me_mask [false, false, false, false, false] (lv2 := [none, none, none, none, none]) rfl ?_
      exact hk78 _ hf
    · have hf := mm_if_f c11 hf
      refine me_aload_n (q := 38) C dX11_elderOn_37 rfl rfl rfl ?_
      refine me_aload_n (q := 39) C dX11_elderOn_38 rfl rfl rfl ?_
      refine me_getR (q := 42) C dX11_elderOn_39 mf_X11_83 rfl rfl k8 rfl ?_
      refine me_iload_n (q := 43) C dX11_elderOn_42 rfl rfl rfl ?_
      refine me_iload_n (q := 44) C dX11_elderOn_43 rfl rfl rfl ?_
      refine me_iadd (q := 45) C dX11_elderOn_44 rfl ?_
      refine me_aload_n (q := 46) C dX11_elderOn_45 rfl rfl rfl ?_
      refine me_getR (q := 49) C dX11_elderOn_46 mf_X11_83 rfl rfl k8 rfl ?_
      refine me_alen (q := 50) C 0 rfl (by decide) dX11_elderOn_49 eu9 k10 rfl ?_
      obtain ⟨k12, hf⟩ := mm_ck_some hf
      refine me_irem (q := 51) C dX11_elderOn_50 k12 rfl ?_
      obtain ⟨k13, hf⟩ := mm_ck_some hf
      refine me_iald (q := 52) C dX11_elderOn_51 eu9 k10 k13 rfl ?_
      refine me_iload_n (q := 53) C dX11_elderOn_52 rfl rfl rfl ?_
      refine me_aload_n (q := 54) C dX11_elderOn_53 rfl rfl rfl ?_
      refine me_getI (q := 57) C dX11_elderOn_54 mf_X11_86 rfl rfl k8 rfl ?_
      refine me_imul (q := 58) C dX11_elderOn_57 rfl ?_
      obtain ⟨v14, g15, e16, hf⟩ := mm_cl_some hf
      refine me_callV (q := 61) (c2 := 0) (s2 := 0) (st := []) C (cX11_leastMan_ok _ e16) mt_X11_511 mv_X11_leastMan rfl (by decide) dX11_elderOn_58 rfl k8 rfl rfl rfl (Nat.le_of_ble_eq_true rfl) rfl (Nat.le_of_ble_eq_true rfl) rfl (Nat.le_of_ble_eq_true rfl) rfl rfl ?_
      refine me_istore (q := 63) (lv2 := [some (vR (some b0)), none, some (vI b2), some (vI x3), some (vI v14)]) C dX11_elderOn_61 (Nat.le_of_ble_eq_true rfl) rfl rfl rfl ?_
      refine me_iload (q := 65) C dX11_elderOn_63 rfl rfl ?_
      refine me_iconst (v := (-1 : Int32)) (q := 66) C dX11_elderOn_65 (by decide) rfl ?_
      refine me_icmp_eq (q2 := 72) (q := 69) C dX11_elderOn_66 (by decide) rfl (fun c17 => ?_) (fun c17 => ?_)
      · have hf := mm_if_t c17 hf
        obtain ⟨v18, ev18, hf⟩ := mm_lt_some hf
        refine me_iinc (q := 75) (v := v18) (lv2 := [some (vR (some b0)), none, some (vI b2), some (vI v18), some (vI v14)]) C dX11_elderOn_72 rfl (by rw [ev18]; rfl) (Nat.le_of_ble_eq_true rfl) rfl rfl rfl ?_
        refine me_goto (q := 28) C dX11_elderOn_75 (by decide) ?_
        refine me_mask [true, false, true, true, false] (lv2 := [some (vR (some b0)), none, some (vI b2), some (vI v18), none]) rfl ?_
        exact ih _ _ hf hk78
      · have hf := mm_if_f c17 hf
        refine me_iload (q := 71) C dX11_elderOn_69 rfl rfl ?_
        exact me_iret C hE (Nat.le_of_ble_eq_true rfl) (Nat.le_of_ble_eq_true rfl) rfl dX11_elderOn_71 (mm_ri hf)
set_option maxRecDepth 100000 in
set_option maxHeartbeats 4000000 in
theorem cX11_elderOn_ok (l : Launch) {a0 : Nat} {a1 : Int32} {h : mm_H} {r : Int32} {h1 : mm_H} (hf : fX11_elderOn a0 a1 h = some (r, h1)) : mm_M l yX11_elderOn cX11_elderOn 5 (some .int) 10 0 0 [vR (some a0), vI a1] h (some (vI r)) h1 := by
  refine mm_enter (lv := [some (vR (some a0)), some (vI a1), none, none, none]) (by decide) rfl (Nat.le_of_ble_eq_true rfl) ?_
  intro X hl C hE
  subst hl
  unfold fX11_elderOn at hf
  refine me_aload_n (q := 1) C dX11_elderOn_0 rfl rfl rfl ?_
  obtain ⟨k1, hf⟩ := mm_ck_some hf
  refine me_getI (q := 4) C dX11_elderOn_1 mf_X11_86 rfl rfl k1 rfl ?_
  refine me_iconst (v := (1 : Int32)) (q := 5) C dX11_elderOn_4 (by decide) rfl ?_
  refine me_icmp_lt (q2 := 17) (q := 8) C dX11_elderOn_5 (by decide) rfl (fun c2 => ?_) (fun c2 => ?_)
  · have hf := mm_if_t c2 hf
    refine me_iconst (v := (-1 : Int32)) (q := 18) C dX11_elderOn_17 (by decide) rfl ?_
    exact me_iret C hE (Nat.le_of_ble_eq_true rfl) (Nat.le_of_ble_eq_true rfl) rfl dX11_elderOn_18 (mm_ri hf)
  · have hf := mm_if_f c2 hf
    refine me_aload_n (q := 9) C dX11_elderOn_8 rfl rfl rfl ?_
    refine me_getR (q := 12) C dX11_elderOn_9 mf_X11_83 rfl rfl k1 rfl ?_
    obtain ⟨u3, eu3, hf⟩ := mm_rf_some hf
    obtain ⟨k4, hf⟩ := mm_ck_some hf
    refine me_alen (q := 13) C 0 rfl (by decide) dX11_elderOn_12 eu3 k4 rfl ?_
    refine me_iconst (v := (1 : Int32)) (q := 14) C dX11_elderOn_13 (by decide) rfl ?_
    refine me_icmp_ge (q2 := 19) (q := 17) C dX11_elderOn_14 (by decide) rfl (fun c5 => ?_) (fun c5 => ?_)
    · have hf := mm_if_t c5 hf
      refine me_iload_n (q := 20) C dX11_elderOn_19 rfl rfl rfl ?_
      refine me_aload_n (q := 21) C dX11_elderOn_20 rfl rfl rfl ?_
      refine me_getI (q := 24) C dX11_elderOn_21 mf_X11_86 rfl rfl k1 rfl ?_
      obtain ⟨k6, hf⟩ := mm_ck_some hf
      refine me_idiv (q := 25) C dX11_elderOn_24 k6 rfl ?_
      obtain ⟨v7, ev7, hf⟩ := mm_lt_some hf
      refine me_topI ev7 ?_
      refine me_istore_n (q := 26) (lv2 := [some (vR (some a0)), some (vI a1), some (vI v7), none, none]) C dX11_elderOn_25 rfl (Nat.le_of_ble_eq_true rfl) rfl rfl rfl ?_
      refine me_iconst (v := (0 : Int32)) (q := 27) C dX11_elderOn_26 (by decide) rfl ?_
      refine me_istore_n (q := 28) (lv2 := [some (vR (some a0)), some (vI a1), some (vI v7), some (vI (0 : Int32)), none]) C dX11_elderOn_27 rfl (Nat.le_of_ble_eq_true rfl) rfl rfl rfl ?_
      refine me_mask [true, false, true, true, false] (lv2 := [some (vR (some a0)), none, some (vI v7), some (vI (0 : Int32)), none]) rfl ?_
      refine cX11_elderOn_L28 C hE _ _ _ _ hf ?_
      · intro g19 hf
        refine me_iconst (v := (-1 : Int32)) (q := 79) C dX11_elderOn_78 (by decide) rfl ?_
        exact me_iret C hE (Nat.le_of_ble_eq_true rfl) (Nat.le_of_ble_eq_true rfl) rfl dX11_elderOn_79 (mm_ri hf)
    · have hf := mm_if_f c5 hf
      refine me_iconst (v := (-1 : Int32)) (q := 18) C dX11_elderOn_17 (by decide) rfl ?_
      exact me_iret C hE (Nat.le_of_ble_eq_true rfl) (Nat.le_of_ble_eq_true rfl) rfl dX11_elderOn_18 (mm_ri hf)
set_option maxRecDepth 100000 in
set_option maxHeartbeats 4000000 in
theorem cX11_judge_ok (l : Launch) {a0 : Nat} {a1 : Int32} {a2 : Int32} {a3 : Int32} {a4 : Int32} {a5 : Int32} {a6 : Int32} {a7 : Int32} {h : mm_H} {r : Int32} {h1 : mm_H} (hf : fX11_judge a0 a1 a2 a3 a4 a5 a6 a7 h = some (r, h1)) : mm_M l yX11_judge cX11_judge 14 (some .int) 12 0 0 [vR (some a0), vI a1, vI a2, vI a3, vI a4, vI a5, vI a6, vI a7] h (some (vI r)) h1 := by
  refine mm_enter (lv := [some (vR (some a0)), some (vI a1), some (vI a2), some (vI a3), some (vI a4), some (vI a5), some (vI a6), some (vI a7), none, none, none, none, none, none]) (by decide) rfl (Nat.le_of_ble_eq_true rfl) ?_
  intro X hl C hE
  subst hl
  unfold fX11_judge at hf
  refine me_aload_n (q := 1) C dX11_judge_0 rfl rfl rfl ?_
  obtain ⟨k1, hf⟩ := mm_ck_some hf
  refine me_getR (q := 4) C dX11_judge_1 mf_X11_10 rfl rfl k1 rfl ?_
  refine me_iload_n (q := 5) C dX11_judge_4 rfl rfl rfl ?_
  obtain ⟨u2, eu2, hf⟩ := mm_rf_some hf
  obtain ⟨k3, hf⟩ := mm_ck_some hf
  obtain ⟨v4, g5, e6, hf⟩ := mm_cl_some hf
  refine me_callV (q := 8) (c2 := 0) (s2 := 0) (st := []) C (cJx4a65c_get_915e3_ok _ e6) mt_X11_151 mv_Jx4a65c_get_915e3 rfl (by decide) dX11_judge_5 eu2 k3 rfl rfl rfl (Nat.le_of_ble_eq_true rfl) rfl (Nat.le_of_ble_eq_true rfl) rfl (Nat.le_of_ble_eq_true rfl) rfl rfl ?_
  obtain ⟨u7, eu7, hf⟩ := mm_rf_some hf
  obtain ⟨k8, hf⟩ := mm_ck_some hf
  refine me_cast (q := 11) C dX11_judge_8 mk_X11_98 eu7 k8 rfl ?_
  refine me_astore (q := 13) (lv2 := [some (vR (some a0)), some (vI a1), some (vI a2), some (vI a3), some (vI a4), some (vI a5), some (vI a6), some (vI a7), some (vR v4), none, none, none, none, none]) C dX11_judge_11 (Nat.le_of_ble_eq_true rfl) rfl rfl rfl ?_
  refine me_aload_n (q := 14) C dX11_judge_13 rfl rfl rfl ?_
  obtain ⟨k9, hf⟩ := mm_ck_some hf
  refine me_getR (q := 17) C dX11_judge_14 mf_X11_10 rfl rfl k9 rfl ?_
  refine me_iload_n (q := 18) C dX11_judge_17 rfl rfl rfl ?_
  obtain ⟨u10, eu10, hf⟩ := mm_rf_some hf
  obtain ⟨k11, hf⟩ := mm_ck_some hf
  obtain ⟨v12, g13, e14, hf⟩ := mm_cl_some hf
  refine me_callV (q := 21) (c2 := 0) (s2 := 0) (st := []) C (cJx4a65c_get_915e3_ok _ e14) mt_X11_151 mv_Jx4a65c_get_915e3 rfl (by decide) dX11_judge_18 eu10 k11 rfl rfl rfl (Nat.le_of_ble_eq_true rfl) rfl (Nat.le_of_ble_eq_true rfl) rfl (Nat.le_of_ble_eq_true rfl) rfl rfl ?_
  obtain ⟨u15, eu15, hf⟩ := mm_rf_some hf
  obtain ⟨k16, hf⟩ := mm_ck_some hf
  refine me_cast (q := 24) C dX11_judge_21 mk_X11_98 eu15 k16 rfl ?_
  refine me_astore (q := 26) (lv2 := [some (vR (some a0)), some (vI a1), some (vI a2), some (vI a3), some (vI a4), some (vI a5), some (vI a6), some (vI a7), some (vR v4), some (vR v12), none, none, none, none]) C dX11_judge_24 (Nat.le_of_ble_eq_true rfl) rfl rfl rfl ?_
  refine me_aload_n (q := 27) C dX11_judge_26 rfl rfl rfl ?_
  obtain ⟨k17, hf⟩ := mm_ck_some hf
  refine me_getR (q := 30) C dX11_judge_27 mf_X11_16 rfl rfl k17 rfl ?_
  refine me_iload_n (q := 31) C dX11_judge_30 rfl rfl rfl ?_
  obtain ⟨u18, eu18, hf⟩ := mm_rf_some hf
  obtain ⟨k19, hf⟩ := mm_ck_some hf
  obtain ⟨v20, g21, e22, hf⟩ := mm_cl_some hf
  refine me_callV (q := 34) (c2 := 0) (s2 := 0) (st := []) C (cJx4a65c_get_915e3_ok _ e22) mt_X11_151 mv_Jx4a65c_get_915e3 rfl (by decide) dX11_judge_31 eu18 k19 rfl rfl rfl (Nat.le_of_ble_eq_true rfl) rfl (Nat.le_of_ble_eq_true rfl) rfl (Nat.le_of_ble_eq_true rfl) rfl rfl ?_
  obtain ⟨u23, eu23, hf⟩ := mm_rf_some hf
  obtain ⟨k24, hf⟩ := mm_ck_some hf
  refine me_cast (q := 37) C dX11_judge_34 mk_X11_146 eu23 k24 rfl ?_
  refine me_getI (q := 40) C dX11_judge_37 mf_X11_155 rfl eu23 k24 rfl ?_
  obtain ⟨v25, ev25, hf⟩ := mm_lt_some hf
  refine me_topI ev25 ?_
  refine me_istore (q := 42) (lv2 := [some (vR (some a0)), some (vI a1), some (vI a2), some (vI a3), some (vI a4), some (vI a5), some (vI a6), some (vI a7), some (vR v4), some (vR v12), some (vI v25), none, none, none]) C dX11_judge_40 (Nat.le_of_ble_eq_true rfl) rfl rfl rfl ?_
  refine me_aload_n (q := 43) C dX11_judge_42 rfl rfl rfl ?_
  refine me_aload_n (q := 44) C dX11_judge_43 rfl rfl rfl ?_
  obtain ⟨k26, hf⟩ := mm_ck_some hf
  refine me_getI (q := 47) C dX11_judge_44 mf_X11_75 rfl rfl k26 rfl ?_
  obtain ⟨v27, g28, e29, hf⟩ := mm_cl_some hf
  refine me_callV (q := 50) (c2 := 0) (s2 := 0) (st := []) C (cX11_elderOn_ok _ e29) mt_X11_364 mv_X11_elderOn rfl (by decide) dX11_judge_47 rfl k26 rfl rfl rfl (Nat.le_of_ble_eq_true rfl) rfl (Nat.le_of_ble_eq_true rfl) rfl (Nat.le_of_ble_eq_true rfl) rfl rfl ?_
  refine me_istore (q := 52) (lv2 := [some (vR (some a0)), some (vI a1), some (vI a2), some (vI a3), some (vI a4), some (vI a5), some (vI a6), some (vI a7), some (vR v4), some (vR v12), some (vI v25), some (vI v27), none, none]) C dX11_judge_50 (Nat.le_of_ble_eq_true rfl) rfl rfl rfl ?_
  refine me_aload_n (q := 53) C dX11_judge_52 rfl rfl rfl ?_
  obtain ⟨k30, hf⟩ := mm_ck_some hf
  refine me_getR (q := 56) C dX11_judge_53 mf_X11_50 rfl rfl k30 rfl ?_
  refine me_aload (q := 58) C dX11_judge_56 rfl rfl ?_
  obtain ⟨k31, hf⟩ := mm_ck_some hf
  refine me_getI (q := 61) C dX11_judge_58 mf_X11_121 rfl eu7 k31 rfl ?_
  refine me_aload_n (q := 62) C dX11_judge_61 rfl rfl rfl ?_
  refine me_getI (q := 65) C dX11_judge_62 mf_X11_75 rfl rfl k30 rfl ?_
  refine me_aload_n (q := 66) C dX11_judge_65 rfl rfl rfl ?_
  refine me_getI (q := 69) C dX11_judge_66 mf_X11_75 rfl rfl k30 rfl ?_
  obtain ⟨u32, eu32, hf⟩ := mm_rf_some hf
  obtain ⟨k33, hf⟩ := mm_ck_some hf
  obtain ⟨v34, g35, e36, hf⟩ := mm_cl_some hf
  refine me_callV (q := 72) (c2 := 0) (s2 := 0) (st := []) C (cX10_closedBy_ok _ e36) mt_X11_250 mv_X10_closedBy rfl (by decide) dX11_judge_69 eu32 k33 rfl rfl rfl (Nat.le_of_ble_eq_true rfl) rfl (Nat.le_of_ble_eq_true rfl) rfl (Nat.le_of_ble_eq_true rfl) rfl rfl ?_
  obtain ⟨q39, eq39, hf⟩ := mm_jn_some hf
  have Hq39 : ∀ (v37 : Int32) (g38 : mm_H), q39 v37 g38 = some (r, h1) → mm_E X g38 0 0 103 [some (vR (some a0)), some (vI a1), some (vI a2), none, some (vI a4), some (vI a5), some (vI a6), some (vI a7), some (vR v4), some (vR v12), some (vI v25), some (vI v27), none, none] [vI v37] := by
    intro v37 g38 hf
    subst eq39
    refine me_istore (q := 105) (lv2 := [some (vR (some a0)), some (vI a1), some (vI a2), none, some (vI a4), some (vI a5), some (vI a6), some (vI a7), some (vR v4), some (vR v12), some (vI v25), some (vI v27), some (vI v37), none]) C dX11_judge_103 (Nat.le_of_ble_eq_true rfl) rfl rfl rfl ?_
    refine me_aload_n (q := 106) C dX11_judge_105 rfl rfl rfl ?_
    obtain ⟨k40, hf⟩ := mm_ck_some hf
    refine me_getR (q := 109) C dX11_judge_106 mf_X11_36 rfl rfl k40 rfl ?_
    obtain ⟨u41, eu41, hf⟩ := mm_rf_some hf
    obtain ⟨k42, hf⟩ := mm_ck_some hf
    refine me_getR (q := 112) C dX11_judge_109 mf_X11_504 rfl eu41 k42 rfl ?_
    obtain ⟨v43, ev43, hf⟩ := mm_lt_some hf
    refine me_topR ev43 ?_
    refine me_astore (q := 114) (lv2 := [some (vR (some a0)), some (vI a1), some (vI a2), none, some (vI a4), some (vI a5), some (vI a6), some (vI a7), some (vR v4), some (vR v12), some (vI v25), some (vI v27), some (vI v37), some (vR v43)]) C dX11_judge_112 (Nat.le_of_ble_eq_true rfl) rfl rfl rfl ?_
    refine me_aload (q := 116) C dX11_judge_114 rfl rfl ?_
    refine me_iconst (v := (0 : Int32)) (q := 117) C dX11_judge_116 (by decide) rfl ?_
    refine me_aload (q := 119) C dX11_judge_117 rfl rfl ?_
    obtain ⟨k44, hf⟩ := mm_ck_some hf
    refine me_getI (q := 122) C dX11_judge_119 mf_X11_121 rfl eu7 k44 rfl ?_
    refine me_i2l (q := 123) C dX11_judge_122 rfl ?_
    obtain ⟨u45, eu45, hf⟩ := mm_rf_some hf
    obtain ⟨k46, hf⟩ := mm_ck_some hf
    obtain ⟨k47, hf⟩ := mm_ck_some hf
    obtain ⟨g48, eg48, hf⟩ := mm_lt_some hf
    refine me_lastH (q := 124) C eg48 dX11_judge_123 eu45 k46 k47 rfl ?_
    refine me_aload (q := 126) C dX11_judge_124 rfl rfl ?_
    refine me_iconst (v := (1 : Int32)) (q := 127) C dX11_judge_126 (by decide) rfl ?_
    refine me_aload (q := 129) C dX11_judge_127 rfl rfl ?_
    obtain ⟨k49, hf⟩ := mm_ck_some hf
    refine me_getI (q := 132) C dX11_judge_129 mf_X11_121 rfl eu15 k49 rfl ?_
    refine me_i2l (q := 133) C dX11_judge_132 rfl ?_
    obtain ⟨k50, hf⟩ := mm_ck_some hf
    obtain ⟨g51, eg51, hf⟩ := mm_lt_some hf
    refine me_lastH (q := 134) C eg51 dX11_judge_133 eu45 (mm_kJ eg48 k46) k50 rfl ?_
    refine me_aload (q := 136) C dX11_judge_134 rfl rfl ?_
    refine me_iconst (v := (2 : Int32)) (q := 137) C dX11_judge_136 (by decide) rfl ?_
    refine me_iload (q := 139) C dX11_judge_137 rfl rfl ?_
    refine me_i2l (q := 140) C dX11_judge_139 rfl ?_
    obtain ⟨k52, hf⟩ := mm_ck_some hf
    obtain ⟨g53, eg53, hf⟩ := mm_lt_some hf
    refine me_lastH (q := 141) C eg53 dX11_judge_140 eu45 (mm_kJ eg51 (mm_kJ eg48 k46)) k52 rfl ?_
    refine me_aload (q := 143) C dX11_judge_141 rfl rfl ?_
    refine me_iconst (v := (3 : Int32)) (q := 144) C dX11_judge_143 (by decide) rfl ?_
    refine me_iload (q := 146) C dX11_judge_144 rfl rfl ?_
    refine me_i2l (q := 147) C dX11_judge_146 rfl ?_
    obtain ⟨k54, hf⟩ := mm_ck_some hf
    obtain ⟨g55, eg55, hf⟩ := mm_lt_some hf
    refine me_lastH (q := 148) C eg55 dX11_judge_147 eu45 (mm_kJ eg53 (mm_kJ eg51 (mm_kJ eg48 k46))) k54 rfl ?_
    refine me_aload (q := 150) C dX11_judge_148 rfl rfl ?_
    refine me_iconst (v := (4 : Int32)) (q := 151) C dX11_judge_150 (by decide) rfl ?_
    refine me_iload (q := 153) C dX11_judge_151 rfl rfl ?_
    refine me_i2l (q := 154) C dX11_judge_153 rfl ?_
    obtain ⟨k56, hf⟩ := mm_ck_some hf
    obtain ⟨g57, eg57, hf⟩ := mm_lt_some hf
    refine me_lastH (q := 155) C eg57 dX11_judge_154 eu45 (mm_kJ eg55 (mm_kJ eg53 (mm_kJ eg51 (mm_kJ eg48 k46)))) k56 rfl ?_
    refine me_aload (q := 157) C dX11_judge_155 rfl rfl ?_
    refine me_iconst (v := (5 : Int32)) (q := 158) C dX11_judge_157 (by decide) rfl ?_
    refine me_iload (q := 160) C dX11_judge_158 rfl rfl ?_
    refine me_i2l (q := 161) C dX11_judge_160 rfl ?_
    obtain ⟨k58, hf⟩ := mm_ck_some hf
    obtain ⟨g59, eg59, hf⟩ := mm_lt_some hf
    refine me_lastH (q := 162) C eg59 dX11_judge_161 eu45 (mm_kJ eg57 (mm_kJ eg55 (mm_kJ eg53 (mm_kJ eg51 (mm_kJ eg48 k46))))) k58 rfl ?_
    refine me_aload (q := 164) C dX11_judge_162 rfl rfl ?_
    refine me_bipush (v := (6 : Int32)) (q := 166) C dX11_judge_164 (by decide) rfl ?_
    refine me_iload (q := 168) C dX11_judge_166 rfl rfl ?_
    refine me_i2l (q := 169) C dX11_judge_168 rfl ?_
    obtain ⟨k60, hf⟩ := mm_ck_some hf
    obtain ⟨g61, eg61, hf⟩ := mm_lt_some hf
    refine me_lastH (q := 170) C eg61 dX11_judge_169 eu45 (mm_kJ eg59 (mm_kJ eg57 (mm_kJ eg55 (mm_kJ eg53 (mm_kJ eg51 (mm_kJ eg48 k46)))))) k60 rfl ?_
    refine me_aload (q := 172) C dX11_judge_170 rfl rfl ?_
    refine me_bipush (v := (7 : Int32)) (q := 174) C dX11_judge_172 (by decide) rfl ?_
    refine me_aload_n (q := 175) C dX11_judge_174 rfl rfl rfl ?_
    refine me_getI (q := 178) C dX11_judge_175 mf_X11_75 rfl rfl (mm_kJ eg61 (mm_kJ eg59 (mm_kJ eg57 (mm_kJ eg55 (mm_kJ eg53 (mm_kJ eg51 (mm_kJ eg48 k40))))))) rfl ?_
    refine me_i2l (q := 179) C dX11_judge_178 rfl ?_
    obtain ⟨k62, hf⟩ := mm_ck_some hf
    obtain ⟨g63, eg63, hf⟩ := mm_lt_some hf
    refine me_lastH (q := 180) C eg63 dX11_judge_179 eu45 (mm_kJ eg61 (mm_kJ eg59 (mm_kJ eg57 (mm_kJ eg55 (mm_kJ eg53 (mm_kJ eg51 (mm_kJ eg48 k46))))))) k62 rfl ?_
    refine me_aload (q := 182) C dX11_judge_180 rfl rfl ?_
    refine me_bipush (v := (8 : Int32)) (q := 184) C dX11_judge_182 (by decide) rfl ?_
    refine me_aload (q := 186) C dX11_judge_184 rfl rfl ?_
    refine me_getI (q := 189) C dX11_judge_186 mf_X11_174 rfl eu7 (mm_kJ eg63 (mm_kJ eg61 (mm_kJ eg59 (mm_kJ eg57 (mm_kJ eg55 (mm_kJ eg53 (mm_kJ eg51 (mm_kJ eg48 k44)))))))) rfl ?_
    obtain ⟨q65, eq65, hf⟩ := mm_jn_some hf
    have Hq65 : ∀ (v64 : Int64), q65 v64 = some (r, h1) → mm_E X g63 0 0 205 [some (vR (some a0)), some (vI a1), some (vI a2), none, none, none, none, none, none, none, some (vI v25), some (vI v27), some (vI v37), some (vR v43)] [vJ v64, vI (8 : Int32), vR v43] := by
      intro v64 hf
      subst eq65
      obtain ⟨k66, hf⟩ := mm_ck_some hf
      obtain ⟨g67, eg67, hf⟩ := mm_lt_some hf
      refine me_lastH (q := 206) C eg67 dX11_judge_205 eu45 (mm_kJ eg63 (mm_kJ eg61 (mm_kJ eg59 (mm_kJ eg57 (mm_kJ eg55 (mm_kJ eg53 (mm_kJ eg51 (mm_kJ eg48 k46)))))))) k66 rfl ?_
      refine me_aload (q := 208) C dX11_judge_206 rfl rfl ?_
      refine me_bipush (v := (9 : Int32)) (q := 210) C dX11_judge_208 (by decide) rfl ?_
      refine me_iload (q := 212) C dX11_judge_210 rfl rfl ?_
      refine me_iload_n (q := 213) C dX11_judge_212 rfl rfl rfl ?_
      obtain ⟨q69, eq69, hf⟩ := mm_jn_some hf
      have Hq69 : ∀ (v68 : Int64), q69 v68 = some (r, h1) → mm_E X g67 0 0 227 [some (vR (some a0)), none, some (vI a2), none, none, none, none, none, none, none, some (vI v25), none, some (vI v37), some (vR v43)] [vJ v68, vI (9 : Int32), vR v43] := by
        intro v68 hf
        subst eq69
        obtain ⟨k70, hf⟩ := mm_ck_some hf
        obtain ⟨g71, eg71, hf⟩ := mm_lt_some hf
        refine me_lastH (q := 228) C eg71 dX11_judge_227 eu45 (mm_kJ eg67 (mm_kJ eg63 (mm_kJ eg61 (mm_kJ eg59 (mm_kJ eg57 (mm_kJ eg55 (mm_kJ eg53 (mm_kJ eg51 (mm_kJ eg48 k46))))))))) k70 rfl ?_
        refine me_aload (q := 230) C dX11_judge_228 rfl rfl ?_
        refine me_bipush (v := (10 : Int32)) (q := 232) C dX11_judge_230 (by decide) rfl ?_
        refine me_aload_n (q := 233) C dX11_judge_232 rfl rfl rfl ?_
        refine me_iload_n (q := 234) C dX11_judge_233 rfl rfl rfl ?_
        refine me_iconst (v := (0 : Int32)) (q := 235) C dX11_judge_234 (by decide) rfl ?_
        obtain ⟨v72, g73, e74, hf⟩ := mm_cl_some hf
        refine me_callV (q := 238) (c2 := 0) (s2 := 0) (st := [vI (10 : Int32), vR v43]) C (cX11_owedBy_ok _ e74) mt_X11_170 mv_X11_owedBy rfl (by decide) dX11_judge_235 rfl (mm_kJ eg71 (mm_kJ eg67 (mm_kJ eg63 (mm_kJ eg61 (mm_kJ eg59 (mm_kJ eg57 (mm_kJ eg55 (mm_kJ eg53 (mm_kJ eg51 (mm_kJ eg48 k40)))))))))) rfl rfl rfl (Nat.le_of_ble_eq_true rfl) rfl (Nat.le_of_ble_eq_true rfl) rfl (Nat.le_of_ble_eq_true rfl) rfl rfl ?_
        refine me_i2l (q := 239) C dX11_judge_238 rfl ?_
        obtain ⟨k75, hf⟩ := mm_ck_some hf
        obtain ⟨k76, hf⟩ := mm_ck_some hf
        obtain ⟨g77, eg77, hf⟩ := mm_lt_some hf
        refine me_lastH (q := 240) C eg77 dX11_judge_239 eu45 k75 k76 rfl ?_
        refine me_aload (q := 242) C dX11_judge_240 rfl rfl ?_
        refine me_bipush (v := (11 : Int32)) (q := 244) C dX11_judge_242 (by decide) rfl ?_
        refine me_aload_n (q := 245) C dX11_judge_244 rfl rfl rfl ?_
        refine me_iload_n (q := 246) C dX11_judge_245 rfl rfl rfl ?_
        refine me_iconst (v := (1 : Int32)) (q := 247) C dX11_judge_246 (by decide) rfl ?_
        obtain ⟨k78, hf⟩ := mm_ck_some hf
        obtain ⟨v79, g80, e81, hf⟩ := mm_cl_some hf
        refine me_callV (q := 250) (c2 := 0) (s2 := 0) (st := [vI (11 : Int32), vR v43]) C (cX11_owedBy_ok _ e81) mt_X11_170 mv_X11_owedBy rfl (by decide) dX11_judge_247 rfl k78 rfl rfl rfl (Nat.le_of_ble_eq_true rfl) rfl (Nat.le_of_ble_eq_true rfl) rfl (Nat.le_of_ble_eq_true rfl) rfl rfl ?_
        refine me_i2l (q := 251) C dX11_judge_250 rfl ?_
        obtain ⟨k82, hf⟩ := mm_ck_some hf
        obtain ⟨k83, hf⟩ := mm_ck_some hf
        obtain ⟨g84, eg84, hf⟩ := mm_lt_some hf
        refine me_lastH (q := 252) C eg84 dX11_judge_251 eu45 k82 k83 rfl ?_
        refine me_aload (q := 254) C dX11_judge_252 rfl rfl ?_
        refine me_bipush (v := (12 : Int32)) (q := 256) C dX11_judge_254 (by decide) rfl ?_
        refine me_iload (q := 258) C dX11_judge_256 rfl rfl ?_
        obtain ⟨q86, eq86, hf⟩ := mm_jn_some hf
        have Hq86 : ∀ (v85 : Int64), q86 v85 = some (r, h1) → mm_E X g84 0 0 266 [some (vR (some a0)), none, none, none, none, none, none, none, none, none, some (vI v25), none, none, some (vR v43)] [vJ v85, vI (12 : Int32), vR v43] := by
          intro v85 hf
          subst eq86
          obtain ⟨k87, hf⟩ := mm_ck_some hf
          obtain ⟨g88, eg88, hf⟩ := mm_lt_some hf
          refine me_lastH (q := 267) C eg88 dX11_judge_266 eu45 (mm_kJ eg84 k82) k87 rfl ?_
          refine me_aload (q := 269) C dX11_judge_267 rfl rfl ?_
          refine me_bipush (v := (13 : Int32)) (q := 271) C dX11_judge_269 (by decide) rfl ?_
          refine me_aload_n (q := 272) C dX11_judge_271 rfl rfl rfl ?_
          obtain ⟨k89, hf⟩ := mm_ck_some hf
          refine me_getR (q := 275) C dX11_judge_272 mf_X11_50 rfl rfl k89 rfl ?_
          refine me_bipush (v := (8 : Int32)) (q := 277) C dX11_judge_275 (by decide) rfl ?_
          refine me_iload (q := 279) C dX11_judge_277 rfl rfl ?_
          refine me_aload_n (q := 280) C dX11_judge_279 rfl rfl rfl ?_
          refine me_getI (q := 283) C dX11_judge_280 mf_X11_75 rfl rfl k89 rfl ?_
          obtain ⟨u90, eu90, hf⟩ := mm_rf_some hf
          obtain ⟨k91, hf⟩ := mm_ck_some hf
          obtain ⟨v92, g93, e94, hf⟩ := mm_cl_some hf
          refine me_callV (q := 286) (c2 := 0) (s2 := 0) (st := [vI (13 : Int32), vR v43]) C (cX10_lowPrice_ok _ e94) mt_X11_374 mv_X10_lowPrice rfl (by decide) dX11_judge_283 eu90 k91 rfl rfl rfl (Nat.le_of_ble_eq_true rfl) rfl (Nat.le_of_ble_eq_true rfl) rfl (Nat.le_of_ble_eq_true rfl) rfl rfl ?_
          refine me_i2l (q := 287) C dX11_judge_286 rfl ?_
          obtain ⟨k95, hf⟩ := mm_ck_some hf
          obtain ⟨k96, hf⟩ := mm_ck_some hf
          obtain ⟨g97, eg97, hf⟩ := mm_lt_some hf
          refine me_lastH (q := 288) C eg97 dX11_judge_287 eu45 k95 k96 rfl ?_
          refine me_aload_n (q := 289) C dX11_judge_288 rfl rfl rfl ?_
          obtain ⟨k98, hf⟩ := mm_ck_some hf
          refine me_getR (q := 292) C dX11_judge_289 mf_X11_36 rfl rfl k98 rfl ?_
          refine me_aload_n (q := 293) C dX11_judge_292 rfl rfl rfl ?_
          refine me_getI (q := 296) C dX11_judge_293 mf_X11_75 rfl rfl k98 rfl ?_
          obtain ⟨u99, eu99, hf⟩ := mm_rf_some hf
          obtain ⟨k100, hf⟩ := mm_ck_some hf
          obtain ⟨v101, g102, e103, hf⟩ := mm_cl_some hf
          refine me_callV (q := 299) (c2 := 0) (s2 := 0) (st := []) C (cX2_decide_ok _ e103) mt_X11_508 mv_X2_decide rfl (by decide) dX11_judge_296 eu99 k100 rfl rfl rfl (Nat.le_of_ble_eq_true rfl) rfl (Nat.le_of_ble_eq_true rfl) rfl (Nat.le_of_ble_eq_true rfl) rfl rfl ?_
          exact me_iret C hE (Nat.le_of_ble_eq_true rfl) (Nat.le_of_ble_eq_true rfl) rfl dX11_judge_299 (mm_ri hf)
        refine me_if_eq (q2 := 265) (q := 261) C dX11_judge_258 (by decide) rfl (fun c104 => ?_) (fun c104 => ?_)
        · have hf := mm_if_t c104 hf
          refine me_lconst (v := (0 : Int64)) (q := 266) C dX11_judge_265 (by decide) rfl ?_
          refine me_mask [true, false, false, false, false, false, false, false, false, false, true, false, false, true] (lv2 := [some (vR (some a0)), none, none, none, none, none, none, none, none, none, some (vI v25), none, none, some (vR v43)]) rfl ?_
          exact Hq86 _ hf
        · have hf := mm_if_f c104 hf
          refine me_lconst (v := (1 : Int64)) (q := 262) C dX11_judge_261 (by decide) rfl ?_
          refine me_goto (q := 266) C dX11_judge_262 (by decide) ?_
          refine me_mask [true, false, false, false, false, false, false, false, false, false, true, false, false, true] (lv2 := [some (vR (some a0)), none, none, none, none, none, none, none, none, none, some (vI v25), none, none, some (vR v43)]) rfl ?_
          exact Hq86 _ hf
      obtain ⟨q105, eq105, hf⟩ := mm_jn_some hf
      have Hq105 : ∀ (_u : Unit), q105 _u = some (r, h1) → mm_E X g67 0 0 222 [some (vR (some a0)), none, some (vI a2), none, none, none, none, none, none, none, some (vI v25), none, some (vI v37), some (vR v43)] [vI (9 : Int32), vR v43] := by
        intro _u hf
        subst eq105
        refine me_lconst (v := (1 : Int64)) (q := 223) C dX11_judge_222 (by decide) rfl ?_
        refine me_goto (q := 227) C dX11_judge_223 (by decide) ?_
        exact Hq69 _ hf
      refine me_icmp_eq (q2 := 222) (q := 216) C dX11_judge_213 (by decide) rfl (fun c106 => ?_) (fun c106 => ?_)
      · have hf := mm_if_t c106 hf
        refine me_mask [true, false, true, false, false, false, false, false, false, false, true, false, true, true] (lv2 := [some (vR (some a0)), none, some (vI a2), none, none, none, none, none, none, none, some (vI v25), none, some (vI v37), some (vR v43)]) rfl ?_
        exact Hq105 () hf
      · have hf := mm_if_f c106 hf
        refine me_iload (q := 218) C dX11_judge_216 rfl rfl ?_
        refine me_iload_n (q := 219) C dX11_judge_218 rfl rfl rfl ?_
        refine me_icmp_ne (q2 := 226) (q := 222) C dX11_judge_219 (by decide) rfl (fun c107 => ?_) (fun c107 => ?_)
        · have hf := mm_if_t c107 hf
          refine me_lconst (v := (0 : Int64)) (q := 227) C dX11_judge_226 (by decide) rfl ?_
          refine me_mask [true, false, true, false, false, false, false, false, false, false, true, false, true, true] (lv2 := [some (vR (some a0)), none, some (vI a2), none, none, none, none, none, none, none, some (vI v25), none, some (vI v37), some (vR v43)]) rfl ?_
          exact Hq69 _ hf
        · have hf := mm_if_f c107 hf
          refine me_mask [true, false, true, false, false, false, false, false, false, false, true, false, true, true] (lv2 := [some (vR (some a0)), none, some (vI a2), none, none, none, none, none, none, none, some (vI v25), none, some (vI v37), some (vR v43)]) rfl ?_
          exact Hq105 () hf
    obtain ⟨q108, eq108, hf⟩ := mm_jn_some hf
    have Hq108 : ∀ (_u : Unit), q108 _u = some (r, h1) → mm_E X g63 0 0 200 [some (vR (some a0)), some (vI a1), some (vI a2), none, none, none, none, none, none, none, some (vI v25), some (vI v27), some (vI v37), some (vR v43)] [vI (8 : Int32), vR v43] := by
      intro _u hf
      subst eq108
      refine me_lconst (v := (1 : Int64)) (q := 201) C dX11_judge_200 (by decide) rfl ?_
      refine me_goto (q := 205) C dX11_judge_201 (by decide) ?_
      exact Hq65 _ hf
    refine me_if_ne (q2 := 200) (q := 192) C dX11_judge_189 (by decide) rfl (fun c109 => ?_) (fun c109 => ?_)
    · have hf := mm_if_t c109 hf
      refine me_mask [true, true, true, false, false, false, false, false, false, false, true, true, true, true] (lv2 := [some (vR (some a0)), some (vI a1), some (vI a2), none, none, none, none, none, none, none, some (vI v25), some (vI v27), some (vI v37), some (vR v43)]) rfl ?_
      exact Hq108 () hf
    · have hf := mm_if_f c109 hf
      refine me_aload (q := 194) C dX11_judge_192 rfl rfl ?_
      refine me_getI (q := 197) C dX11_judge_194 mf_X11_174 rfl eu15 (mm_kJ eg63 (mm_kJ eg61 (mm_kJ eg59 (mm_kJ eg57 (mm_kJ eg55 (mm_kJ eg53 (mm_kJ eg51 k49))))))) rfl ?_
      refine me_if_eq (q2 := 204) (q := 200) C dX11_judge_197 (by decide) rfl (fun c110 => ?_) (fun c110 => ?_)
      · have hf := mm_if_t c110 hf
        refine me_lconst (v := (0 : Int64)) (q := 205) C dX11_judge_204 (by decide) rfl ?_
        refine me_mask [true, true, true, false, false, false, false, false, false, false, true, true, true, true] (lv2 := [some (vR (some a0)), some (vI a1), some (vI a2), none, none, none, none, none, none, none, some (vI v25), some (vI v27), some (vI v37), some (vR v43)]) rfl ?_
        exact Hq65 _ hf
      · have hf := mm_if_f c110 hf
        refine me_mask [true, true, true, false, false, false, false, false, false, false, true, true, true, true] (lv2 := [some (vR (some a0)), some (vI a1), some (vI a2), none, none, none, none, none, none, none, some (vI v25), some (vI v27), some (vI v37), some (vR v43)]) rfl ?_
        exact Hq108 () hf
  obtain ⟨q112, eq112, hf⟩ := mm_jn_some hf
  have Hq112 : ∀ (g111 : mm_H), q112 g111 = some (r, h1) → mm_E X g111 0 0 98 [some (vR (some a0)), some (vI a1), some (vI a2), none, some (vI a4), some (vI a5), some (vI a6), some (vI a7), some (vR v4), some (vR v12), some (vI v25), some (vI v27), none, none] [] := by
    intro g111 hf
    subst eq112
    refine me_iconst (v := (1 : Int32)) (q := 99) C dX11_judge_98 (by decide) rfl ?_
    refine me_goto (q := 103) C dX11_judge_99 (by decide) ?_
    exact Hq39 _ _ hf
  refine me_if_ne (q2 := 98) (q := 75) C dX11_judge_72 (by decide) rfl (fun c113 => ?_) (fun c113 => ?_)
  · have hf := mm_if_t c113 hf
    refine me_mask [true, true, true, false, true, true, true, true, true, true, true, true, false, false] (lv2 := [some (vR (some a0)), some (vI a1), some (vI a2), none, some (vI a4), some (vI a5), some (vI a6), some (vI a7), some (vR v4), some (vR v12), some (vI v25), some (vI v27), none, none]) rfl ?_
    exact Hq112 _ hf
  · have hf := mm_if_f c113 hf
    refine me_aload_n (q := 76) C dX11_judge_75 rfl rfl rfl ?_
    obtain ⟨k114, hf⟩ := mm_ck_some hf
    refine me_getR (q := 79) C dX11_judge_76 mf_X11_50 rfl rfl k114 rfl ?_
    refine me_aload (q := 81) C dX11_judge_79 rfl rfl ?_
    obtain ⟨k115, hf⟩ := mm_ck_some hf
    refine me_getI (q := 84) C dX11_judge_81 mf_X11_121 rfl eu15 k115 rfl ?_
    refine me_aload_n (q := 85) C dX11_judge_84 rfl rfl rfl ?_
    refine me_getI (q := 88) C dX11_judge_85 mf_X11_75 rfl rfl k114 rfl ?_
    refine me_aload_n (q := 89) C dX11_judge_88 rfl rfl rfl ?_
    refine me_getI (q := 92) C dX11_judge_89 mf_X11_75 rfl rfl k114 rfl ?_
    obtain ⟨u116, eu116, hf⟩ := mm_rf_some hf
    obtain ⟨k117, hf⟩ := mm_ck_some hf
    obtain ⟨v118, g119, e120, hf⟩ := mm_cl_some hf
    refine me_callV (q := 95) (c2 := 0) (s2 := 0) (st := []) C (cX10_closedBy_ok _ e120) mt_X11_250 mv_X10_closedBy rfl (by decide) dX11_judge_92 eu116 k117 rfl rfl rfl (Nat.le_of_ble_eq_true rfl) rfl (Nat.le_of_ble_eq_true rfl) rfl (Nat.le_of_ble_eq_true rfl) rfl rfl ?_
    refine me_if_eq (q2 := 102) (q := 98) C dX11_judge_95 (by decide) rfl (fun c121 => ?_) (fun c121 => ?_)
    · have hf := mm_if_t c121 hf
      refine me_iconst (v := (0 : Int32)) (q := 103) C dX11_judge_102 (by decide) rfl ?_
      refine me_mask [true, true, true, false, true, true, true, true, true, true, true, true, false, false] (lv2 := [some (vR (some a0)), some (vI a1), some (vI a2), none, some (vI a4), some (vI a5), some (vI a6), some (vI a7), some (vR v4), some (vR v12), some (vI v25), some (vI v27), none, none]) rfl ?_
      exact Hq39 _ _ hf
    · have hf := mm_if_f c121 hf
      refine me_mask [true, true, true, false, true, true, true, true, true, true, true, true, false, false] (lv2 := [some (vR (some a0)), some (vI a1), some (vI a2), none, some (vI a4), some (vI a5), some (vI a6), some (vI a7), some (vR v4), some (vR v12), some (vI v25), some (vI v27), none, none]) rfl ?_
      exact Hq112 _ hf
set_option maxRecDepth 100000 in
set_option maxHeartbeats 4000000 in
theorem cX11_verdict_ok (l : Launch) {a0 : Nat} {a1 : Int32} {a2 : Int32} {a3 : Int32} {a4 : Int32} {a5 : Int32} {a6 : Int32} {a7 : Int32} {h : mm_H} {r : Int32} {h1 : mm_H} (hf : fX11_verdict a0 a1 a2 a3 a4 a5 a6 a7 h = some (r, h1)) : mm_M l yX11_verdict cX11_verdict 8 (some .int) 14 0 0 [vR (some a0), vI a1, vI a2, vI a3, vI a4, vI a5, vI a6, vI a7] h (some (vI r)) h1 := by
  refine mm_enter (lv := [some (vR (some a0)), some (vI a1), some (vI a2), some (vI a3), some (vI a4), some (vI a5), some (vI a6), some (vI a7)]) (by decide) rfl (Nat.le_of_ble_eq_true rfl) ?_
  intro X hl C hE
  subst hl
  unfold fX11_verdict at hf
  refine me_aload_n (q := 1) C dX11_verdict_0 rfl rfl rfl ?_
  refine me_iload_n (q := 2) C dX11_verdict_1 rfl rfl rfl ?_
  refine me_iload_n (q := 3) C dX11_verdict_2 rfl rfl rfl ?_
  refine me_iload_n (q := 4) C dX11_verdict_3 rfl rfl rfl ?_
  refine me_iload (q := 6) C dX11_verdict_4 rfl rfl ?_
  refine me_iload (q := 8) C dX11_verdict_6 rfl rfl ?_
  refine me_iload (q := 10) C dX11_verdict_8 rfl rfl ?_
  refine me_iload (q := 12) C dX11_verdict_10 rfl rfl ?_
  obtain ⟨k1, hf⟩ := mm_ck_some hf
  obtain ⟨v2, g3, e4, hf⟩ := mm_cl_some hf
  refine me_callV (q := 15) (c2 := 0) (s2 := 0) (st := []) C (cX11_refusal_ok _ e4) mt_X11_226 mv_X11_refusal rfl (by decide) dX11_verdict_12 rfl k1 rfl rfl rfl (Nat.le_of_ble_eq_true rfl) rfl (Nat.le_of_ble_eq_true rfl) rfl (Nat.le_of_ble_eq_true rfl) rfl rfl ?_
  refine me_if_eq (q2 := 20) (q := 18) C dX11_verdict_15 (by decide) rfl (fun c5 => ?_) (fun c5 => ?_)
  · have hf := mm_if_t c5 hf
    refine me_aload_n (q := 21) C dX11_verdict_20 rfl rfl rfl ?_
    refine me_iload_n (q := 22) C dX11_verdict_21 rfl rfl rfl ?_
    refine me_iload_n (q := 23) C dX11_verdict_22 rfl rfl rfl ?_
    refine me_iload_n (q := 24) C dX11_verdict_23 rfl rfl rfl ?_
    refine me_iload (q := 26) C dX11_verdict_24 rfl rfl ?_
    refine me_iload (q := 28) C dX11_verdict_26 rfl rfl ?_
    refine me_iload (q := 30) C dX11_verdict_28 rfl rfl ?_
    refine me_iload (q := 32) C dX11_verdict_30 rfl rfl ?_
    obtain ⟨k6, hf⟩ := mm_ck_some hf
    obtain ⟨v7, g8, e9, hf⟩ := mm_cl_some hf
    refine me_callV (q := 35) (c2 := 0) (s2 := 0) (st := []) C (cX11_judge_ok _ e9) mt_X11_230 mv_X11_judge rfl (by decide) dX11_verdict_32 rfl k6 rfl rfl rfl (Nat.le_of_ble_eq_true rfl) rfl (Nat.le_of_ble_eq_true rfl) rfl (Nat.le_of_ble_eq_true rfl) rfl rfl ?_
    exact me_iret C hE (Nat.le_of_ble_eq_true rfl) (Nat.le_of_ble_eq_true rfl) rfl dX11_verdict_35 (mm_ri hf)
  · have hf := mm_if_f c5 hf
    refine me_iconst (v := (-1 : Int32)) (q := 19) C dX11_verdict_18 (by decide) rfl ?_
    exact me_iret C hE (Nat.le_of_ble_eq_true rfl) (Nat.le_of_ble_eq_true rfl) rfl dX11_verdict_19 (mm_ri hf)
set_option maxRecDepth 100000 in
set_option maxHeartbeats 4000000 in
theorem cX11_told_ok (l : Launch) {a0 : Nat} {a1 : Int32} {h : mm_H} {r : Int32} {h1 : mm_H} (hf : fX11_told a0 a1 h = some (r, h1)) : mm_M l yX11_told cX11_told 2 (some .int) 2 0 0 [vR (some a0), vI a1] h (some (vI r)) h1 := by
  refine mm_enter (lv := [some (vR (some a0)), some (vI a1)]) (by decide) rfl (Nat.le_of_ble_eq_true rfl) ?_
  intro X hl C hE
  subst hl
  unfold fX11_told at hf
  refine me_iload_n (q := 1) C dX11_told_0 rfl rfl rfl ?_
  by_cases c1 : a1 = 0
  · have hf := mm_if_t c1 hf
    refine me_lookup (q := 28) C dX11_told_1 (by decide) (by first | (rw [c1]; done) | (rw [c1]; rfl)) (by decide) ?_
    refine me_aload_n (q := 29) C dX11_told_28 rfl rfl rfl ?_
    obtain ⟨k2, hf⟩ := mm_ck_some hf
    refine me_getR (q := 32) C dX11_told_29 mf_X11_36 rfl rfl k2 rfl ?_
    obtain ⟨u3, eu3, hf⟩ := mm_rf_some hf
    obtain ⟨k4, hf⟩ := mm_ck_some hf
    refine me_getI (q := 35) C dX11_told_32 mf_X11_233 rfl eu3 k4 rfl ?_
    exact me_iret C hE (Nat.le_of_ble_eq_true rfl) (Nat.le_of_ble_eq_true rfl) rfl dX11_told_35 (mm_ri hf)
  have hf := mm_if_f c1 hf
  by_cases c5 : a1 = 1
  · have hf := mm_if_t c5 hf
    refine me_lookup (q := 36) C dX11_told_1 (by decide) (by first | (rw [c5]; done) | (rw [c5]; rfl)) (by decide) ?_
    refine me_aload_n (q := 37) C dX11_told_36 rfl rfl rfl ?_
    obtain ⟨k6, hf⟩ := mm_ck_some hf
    refine me_getR (q := 40) C dX11_told_37 mf_X11_36 rfl rfl k6 rfl ?_
    obtain ⟨u7, eu7, hf⟩ := mm_rf_some hf
    obtain ⟨k8, hf⟩ := mm_ck_some hf
    refine me_getI (q := 43) C dX11_told_40 mf_X11_236 rfl eu7 k8 rfl ?_
    exact me_iret C hE (Nat.le_of_ble_eq_true rfl) (Nat.le_of_ble_eq_true rfl) rfl dX11_told_43 (mm_ri hf)
  have hf := mm_if_f c5 hf
  have wc1 : ¬ a1.toInt = 0 := fun z => c1 (mm_sw z)
  have xc1 : ¬ (0 : Int) = a1.toInt := fun z => c1 (mm_sw z.symm)
  have wc5 : ¬ a1.toInt = 1 := fun z => c5 (mm_sw z)
  have xc5 : ¬ (1 : Int) = a1.toInt := fun z => c5 (mm_sw z.symm)
  refine me_lookup (q := 44) (off := 43) C dX11_told_1 (by decide) (by simp [Op.lookupswitch.offset, wc1, xc1, wc5, xc5]) (by decide) ?_
  refine me_iconst (v := (-1 : Int32)) (q := 45) C dX11_told_44 (by decide) rfl ?_
  exact me_iret C hE (Nat.le_of_ble_eq_true rfl) (Nat.le_of_ble_eq_true rfl) rfl dX11_told_45 (mm_ri hf)
set_option maxRecDepth 100000 in
set_option maxHeartbeats 4000000 in
theorem cX11_isTown_ok (l : Launch) {a0 : Int32} {h : mm_H} {r : Int32} {h1 : mm_H} (hf : fX11_isTown a0 h = some (r, h1)) : mm_M l yX11_isTown cX11_isTown 1 (some .boolean) 2 0 0 [vI a0] h (some (vI r)) h1 := by
  refine mm_enter (lv := [some (vI a0)]) (by decide) rfl (Nat.le_of_ble_eq_true rfl) ?_
  intro X hl C hE
  subst hl
  unfold fX11_isTown at hf
  refine me_iload_n (q := 1) C dX11_isTown_0 rfl rfl rfl ?_
  refine me_if_lt (q2 := 14) (q := 4) C dX11_isTown_1 (by decide) rfl (fun c1 => ?_) (fun c1 => ?_)
  · have hf := mm_if_t c1 hf
    refine me_iconst (v := (0 : Int32)) (q := 15) C dX11_isTown_14 (by decide) rfl ?_
    exact me_zret C hE (Nat.le_of_ble_eq_true rfl) (Nat.le_of_ble_eq_true rfl) rfl (Or.inl rfl) dX11_isTown_15 (mm_ri hf)
  · have hf := mm_if_f c1 hf
    refine me_iload_n (q := 5) C dX11_isTown_4 rfl rfl rfl ?_
    refine me_bipush (v := (8 : Int32)) (q := 7) C dX11_isTown_5 (by decide) rfl ?_
    refine me_icmp_ge (q2 := 14) (q := 10) C dX11_isTown_7 (by decide) rfl (fun c2 => ?_) (fun c2 => ?_)
    · have hf := mm_if_t c2 hf
      refine me_iconst (v := (0 : Int32)) (q := 15) C dX11_isTown_14 (by decide) rfl ?_
      exact me_zret C hE (Nat.le_of_ble_eq_true rfl) (Nat.le_of_ble_eq_true rfl) rfl (Or.inl rfl) dX11_isTown_15 (mm_ri hf)
    · have hf := mm_if_f c2 hf
      refine me_iconst (v := (1 : Int32)) (q := 11) C dX11_isTown_10 (by decide) rfl ?_
      refine me_goto (q := 15) C dX11_isTown_11 (by decide) ?_
      exact me_zret C hE (Nat.le_of_ble_eq_true rfl) (Nat.le_of_ble_eq_true rfl) rfl (Or.inr rfl) dX11_isTown_15 (mm_ri hf)
set_option maxRecDepth 100000 in
set_option maxHeartbeats 4000000 in
theorem cX11_shut_ok (l : Launch) {a0 : Nat} {a1 : Int32} {a2 : Int32} {a3 : Int32} {h : mm_H} {r : Int32} {h1 : mm_H} (hf : fX11_shut a0 a1 a2 a3 h = some (r, h1)) : mm_M l yX11_shut cX11_shut 4 (some .int) 4 0 0 [vR (some a0), vI a1, vI a2, vI a3] h (some (vI r)) h1 := by
  refine mm_enter (lv := [some (vR (some a0)), some (vI a1), some (vI a2), some (vI a3)]) (by decide) rfl (Nat.le_of_ble_eq_true rfl) ?_
  intro X hl C hE
  subst hl
  unfold fX11_shut at hf
  refine me_iload_n (q := 1) C dX11_shut_0 rfl rfl rfl ?_
  obtain ⟨v1, g2, e3, hf⟩ := mm_cl_some hf
  refine me_callS (q := 4) (c2 := 0) (s2 := 0) (st := []) C (cX11_isTown_ok _ e3) mt_X11_239 ms_X11_isTown dX11_shut_1 rfl rfl rfl (Nat.le_of_ble_eq_true rfl) rfl (Nat.le_of_ble_eq_true rfl) rfl (Nat.le_of_ble_eq_true rfl) rfl rfl ?_
  refine me_if_eq (q2 := 26) (q := 7) C dX11_shut_4 (by decide) rfl (fun c4 => ?_) (fun c4 => ?_)
  · have hf := mm_if_t c4 hf
    refine me_iconst (v := (-1 : Int32)) (q := 27) C dX11_shut_26 (by decide) rfl ?_
    exact me_iret C hE (Nat.le_of_ble_eq_true rfl) (Nat.le_of_ble_eq_true rfl) rfl dX11_shut_27 (mm_ri hf)
  · have hf := mm_if_f c4 hf
    refine me_iload_n (q := 8) C dX11_shut_7 rfl rfl rfl ?_
    obtain ⟨v5, g6, e7, hf⟩ := mm_cl_some hf
    refine me_callS (q := 11) (c2 := 0) (s2 := 0) (st := []) C (cX11_isDay_ok _ e7) mt_X11_219 ms_X11_isDay dX11_shut_8 rfl rfl rfl (Nat.le_of_ble_eq_true rfl) rfl (Nat.le_of_ble_eq_true rfl) rfl (Nat.le_of_ble_eq_true rfl) rfl rfl ?_
    refine me_if_eq (q2 := 26) (q := 14) C dX11_shut_11 (by decide) rfl (fun c8 => ?_) (fun c8 => ?_)
    · have hf := mm_if_t c8 hf
      refine me_iconst (v := (-1 : Int32)) (q := 27) C dX11_shut_26 (by decide) rfl ?_
      exact me_iret C hE (Nat.le_of_ble_eq_true rfl) (Nat.le_of_ble_eq_true rfl) rfl dX11_shut_27 (mm_ri hf)
    · have hf := mm_if_f c8 hf
      refine me_iload_n (q := 15) C dX11_shut_14 rfl rfl rfl ?_
      obtain ⟨v9, g10, e11, hf⟩ := mm_cl_some hf
      refine me_callS (q := 18) (c2 := 0) (s2 := 0) (st := []) C (cX11_isDay_ok _ e11) mt_X11_219 ms_X11_isDay dX11_shut_15 rfl rfl rfl (Nat.le_of_ble_eq_true rfl) rfl (Nat.le_of_ble_eq_true rfl) rfl (Nat.le_of_ble_eq_true rfl) rfl rfl ?_
      refine me_if_eq (q2 := 26) (q := 21) C dX11_shut_18 (by decide) rfl (fun c12 => ?_) (fun c12 => ?_)
      · have hf := mm_if_t c12 hf
        refine me_iconst (v := (-1 : Int32)) (q := 27) C dX11_shut_26 (by decide) rfl ?_
        exact me_iret C hE (Nat.le_of_ble_eq_true rfl) (Nat.le_of_ble_eq_true rfl) rfl dX11_shut_27 (mm_ri hf)
      · have hf := mm_if_f c12 hf
        refine me_iload_n (q := 22) C dX11_shut_21 rfl rfl rfl ?_
        refine me_iload_n (q := 23) C dX11_shut_22 rfl rfl rfl ?_
        refine me_icmp_le (q2 := 28) (q := 26) C dX11_shut_23 (by decide) rfl (fun c13 => ?_) (fun c13 => ?_)
        · have hf := mm_if_t c13 hf
          refine me_aload_n (q := 29) C dX11_shut_28 rfl rfl rfl ?_
          obtain ⟨k14, hf⟩ := mm_ck_some hf
          refine me_getR (q := 32) C dX11_shut_29 mf_X11_50 rfl rfl k14 rfl ?_
          refine me_iload_n (q := 33) C dX11_shut_32 rfl rfl rfl ?_
          refine me_iload_n (q := 34) C dX11_shut_33 rfl rfl rfl ?_
          refine me_iload_n (q := 35) C dX11_shut_34 rfl rfl rfl ?_
          obtain ⟨u15, eu15, hf⟩ := mm_rf_some hf
          obtain ⟨k16, hf⟩ := mm_ck_some hf
          obtain ⟨v17, g18, e19, hf⟩ := mm_cl_some hf
          refine me_callV (q := 38) (c2 := 0) (s2 := 0) (st := []) C (cX10_addClosing_ok _ e19) mt_X11_242 mv_X10_addClosing rfl (by decide) dX11_shut_35 eu15 k16 rfl rfl rfl (Nat.le_of_ble_eq_true rfl) rfl (Nat.le_of_ble_eq_true rfl) rfl (Nat.le_of_ble_eq_true rfl) rfl rfl ?_
          exact me_iret C hE (Nat.le_of_ble_eq_true rfl) (Nat.le_of_ble_eq_true rfl) rfl dX11_shut_38 (mm_ri hf)
        · have hf := mm_if_f c13 hf
          refine me_iconst (v := (-1 : Int32)) (q := 27) C dX11_shut_26 (by decide) rfl ?_
          exact me_iret C hE (Nat.le_of_ble_eq_true rfl) (Nat.le_of_ble_eq_true rfl) rfl dX11_shut_27 (mm_ri hf)
set_option maxRecDepth 100000 in
set_option maxHeartbeats 4000000 in
theorem cX11_readShut_ok (l : Launch) {a0 : Nat} {a1 : Int32} {h : mm_H} {r : Int32} {h1 : mm_H} (hf : fX11_readShut a0 a1 h = some (r, h1)) : mm_M l yX11_readShut cX11_readShut 2 (some .boolean) 4 0 0 [vR (some a0), vI a1] h (some (vI r)) h1 := by
  refine mm_enter (lv := [some (vR (some a0)), some (vI a1)]) (by decide) rfl (Nat.le_of_ble_eq_true rfl) ?_
  intro X hl C hE
  subst hl
  unfold fX11_readShut at hf
  refine me_aload_n (q := 1) C dX11_readShut_0 rfl rfl rfl ?_
  obtain ⟨k1, hf⟩ := mm_ck_some hf
  refine me_getR (q := 4) C dX11_readShut_1 mf_X11_50 rfl rfl k1 rfl ?_
  refine me_iload_n (q := 5) C dX11_readShut_4 rfl rfl rfl ?_
  refine me_aload_n (q := 6) C dX11_readShut_5 rfl rfl rfl ?_
  refine me_getI (q := 9) C dX11_readShut_6 mf_X11_75 rfl rfl k1 rfl ?_
  obtain ⟨u2, eu2, hf⟩ := mm_rf_some hf
  obtain ⟨k3, hf⟩ := mm_ck_some hf
  obtain ⟨v4, g5, e6, hf⟩ := mm_cl_some hf
  refine me_callV (q := 12) (c2 := 0) (s2 := 0) (st := []) C (cX10_readClosing_ok _ e6) mt_X11_246 mv_X10_readClosing rfl (by decide) dX11_readShut_9 eu2 k3 rfl rfl rfl (Nat.le_of_ble_eq_true rfl) rfl (Nat.le_of_ble_eq_true rfl) rfl (Nat.le_of_ble_eq_true rfl) rfl rfl ?_
  obtain ⟨k7, hf⟩ := mm_ck_some hf
  exact me_zret C hE (Nat.le_of_ble_eq_true rfl) (Nat.le_of_ble_eq_true rfl) rfl k7 dX11_readShut_12 (mm_ri hf)
set_option maxRecDepth 100000 in
set_option maxHeartbeats 4000000 in
theorem cX11_isShut_ok (l : Launch) {a0 : Nat} {a1 : Int32} {a2 : Int32} {a3 : Int32} {h : mm_H} {r : Int32} {h1 : mm_H} (hf : fX11_isShut a0 a1 a2 a3 h = some (r, h1)) : mm_M l yX11_isShut cX11_isShut 4 (some .int) 6 0 0 [vR (some a0), vI a1, vI a2, vI a3] h (some (vI r)) h1 := by
  refine mm_enter (lv := [some (vR (some a0)), some (vI a1), some (vI a2), some (vI a3)]) (by decide) rfl (Nat.le_of_ble_eq_true rfl) ?_
  intro X hl C hE
  subst hl
  unfold fX11_isShut at hf
  refine me_iload_n (q := 1) C dX11_isShut_0 rfl rfl rfl ?_
  obtain ⟨v1, g2, e3, hf⟩ := mm_cl_some hf
  refine me_callS (q := 4) (c2 := 0) (s2 := 0) (st := []) C (cX11_isTown_ok _ e3) mt_X11_239 ms_X11_isTown dX11_isShut_1 rfl rfl rfl (Nat.le_of_ble_eq_true rfl) rfl (Nat.le_of_ble_eq_true rfl) rfl (Nat.le_of_ble_eq_true rfl) rfl rfl ?_
  refine me_if_eq (q2 := 21) (q := 7) C dX11_isShut_4 (by decide) rfl (fun c4 => ?_) (fun c4 => ?_)
  · have hf := mm_if_t c4 hf
    refine me_iconst (v := (-1 : Int32)) (q := 22) C dX11_isShut_21 (by decide) rfl ?_
    exact me_iret C hE (Nat.le_of_ble_eq_true rfl) (Nat.le_of_ble_eq_true rfl) rfl dX11_isShut_22 (mm_ri hf)
  · have hf := mm_if_f c4 hf
    refine me_iload_n (q := 8) C dX11_isShut_7 rfl rfl rfl ?_
    obtain ⟨v5, g6, e7, hf⟩ := mm_cl_some hf
    refine me_callS (q := 11) (c2 := 0) (s2 := 0) (st := []) C (cX11_isDay_ok _ e7) mt_X11_219 ms_X11_isDay dX11_isShut_8 rfl rfl rfl (Nat.le_of_ble_eq_true rfl) rfl (Nat.le_of_ble_eq_true rfl) rfl (Nat.le_of_ble_eq_true rfl) rfl rfl ?_
    refine me_if_eq (q2 := 21) (q := 14) C dX11_isShut_11 (by decide) rfl (fun c8 => ?_) (fun c8 => ?_)
    · have hf := mm_if_t c8 hf
      refine me_iconst (v := (-1 : Int32)) (q := 22) C dX11_isShut_21 (by decide) rfl ?_
      exact me_iret C hE (Nat.le_of_ble_eq_true rfl) (Nat.le_of_ble_eq_true rfl) rfl dX11_isShut_22 (mm_ri hf)
    · have hf := mm_if_f c8 hf
      refine me_iload_n (q := 15) C dX11_isShut_14 rfl rfl rfl ?_
      obtain ⟨v9, g10, e11, hf⟩ := mm_cl_some hf
      refine me_callS (q := 18) (c2 := 0) (s2 := 0) (st := []) C (cX11_isDay_ok _ e11) mt_X11_219 ms_X11_isDay dX11_isShut_15 rfl rfl rfl (Nat.le_of_ble_eq_true rfl) rfl (Nat.le_of_ble_eq_true rfl) rfl (Nat.le_of_ble_eq_true rfl) rfl rfl ?_
      refine me_if_ne (q2 := 23) (q := 21) C dX11_isShut_18 (by decide) rfl (fun c12 => ?_) (fun c12 => ?_)
      · have hf := mm_if_t c12 hf
        refine me_aload_n (q := 24) C dX11_isShut_23 rfl rfl rfl ?_
        obtain ⟨k13, hf⟩ := mm_ck_some hf
        refine me_getR (q := 27) C dX11_isShut_24 mf_X11_50 rfl rfl k13 rfl ?_
        refine me_iload_n (q := 28) C dX11_isShut_27 rfl rfl rfl ?_
        refine me_iload_n (q := 29) C dX11_isShut_28 rfl rfl rfl ?_
        refine me_iload_n (q := 30) C dX11_isShut_29 rfl rfl rfl ?_
        obtain ⟨u14, eu14, hf⟩ := mm_rf_some hf
        obtain ⟨k15, hf⟩ := mm_ck_some hf
        obtain ⟨v16, g17, e18, hf⟩ := mm_cl_some hf
        refine me_callV (q := 33) (c2 := 0) (s2 := 0) (st := []) C (cX10_closedBy_ok _ e18) mt_X11_250 mv_X10_closedBy rfl (by decide) dX11_isShut_30 eu14 k15 rfl rfl rfl (Nat.le_of_ble_eq_true rfl) rfl (Nat.le_of_ble_eq_true rfl) rfl (Nat.le_of_ble_eq_true rfl) rfl rfl ?_
        refine me_if_eq (q2 := 40) (q := 36) C dX11_isShut_33 (by decide) rfl (fun c19 => ?_) (fun c19 => ?_)
        · have hf := mm_if_t c19 hf
          refine me_iconst (v := (0 : Int32)) (q := 41) C dX11_isShut_40 (by decide) rfl ?_
          exact me_iret C hE (Nat.le_of_ble_eq_true rfl) (Nat.le_of_ble_eq_true rfl) rfl dX11_isShut_41 (mm_ri hf)
        · have hf := mm_if_f c19 hf
          refine me_iconst (v := (1 : Int32)) (q := 37) C dX11_isShut_36 (by decide) rfl ?_
          refine me_goto (q := 41) C dX11_isShut_37 (by decide) ?_
          exact me_iret C hE (Nat.le_of_ble_eq_true rfl) (Nat.le_of_ble_eq_true rfl) rfl dX11_isShut_41 (mm_ri hf)
      · have hf := mm_if_f c12 hf
        refine me_iconst (v := (-1 : Int32)) (q := 22) C dX11_isShut_21 (by decide) rfl ?_
        exact me_iret C hE (Nat.le_of_ble_eq_true rfl) (Nat.le_of_ble_eq_true rfl) rfl dX11_isShut_22 (mm_ri hf)
set_option maxRecDepth 100000 in
set_option maxHeartbeats 4000000 in
theorem cX11_splitLot_ok (l : Launch) {a0 : Nat} {a1 : Int32} {a2 : Int32} {a3 : Int32} {h : mm_H} {r : Unit} {h1 : mm_H} (hf : fX11_splitLot a0 a1 a2 a3 h = some (r, h1)) : mm_M l yX11_splitLot cX11_splitLot 5 none 14 3 421 [vR (some a0), vI a1, vI a2, vI a3] h none h1 := by
  refine mm_enter (lv := [some (vR (some a0)), some (vI a1), some (vI a2), some (vI a3), none]) (by decide) rfl (Nat.le_of_ble_eq_true rfl) ?_
  intro X hl C hE
  subst hl
  unfold fX11_splitLot at hf
  refine me_aload_n (q := 1) C dX11_splitLot_0 rfl rfl rfl ?_
  obtain ⟨k1, hf⟩ := mm_ck_some hf
  refine me_getR (q := 4) C dX11_splitLot_1 mf_X11_16 rfl rfl k1 rfl ?_
  refine me_iload_n (q := 5) C dX11_splitLot_4 rfl rfl rfl ?_
  obtain ⟨u2, eu2, hf⟩ := mm_rf_some hf
  obtain ⟨k3, hf⟩ := mm_ck_some hf
  obtain ⟨v4, g5, e6, hf⟩ := mm_cl_some hf
  refine me_callV (q := 8) (c2 := 0) (s2 := 0) (st := []) C (cJx4a65c_get_915e3_ok _ e6) mt_X11_151 mv_Jx4a65c_get_915e3 rfl (by decide) dX11_splitLot_5 eu2 k3 rfl rfl rfl (Nat.le_of_ble_eq_true rfl) rfl (Nat.le_of_ble_eq_true rfl) rfl (Nat.le_of_ble_eq_true rfl) rfl rfl ?_
  obtain ⟨u7, eu7, hf⟩ := mm_rf_some hf
  obtain ⟨k8, hf⟩ := mm_ck_some hf
  refine me_cast (q := 11) C dX11_splitLot_8 mk_X11_146 eu7 k8 rfl ?_
  refine me_astore (q := 13) (lv2 := [some (vR (some a0)), some (vI a1), some (vI a2), some (vI a3), some (vR v4)]) C dX11_splitLot_11 (Nat.le_of_ble_eq_true rfl) rfl rfl rfl ?_
  refine me_aload (q := 15) C dX11_splitLot_13 rfl rfl ?_
  refine me_dup (q := 16) C dX11_splitLot_15 rfl rfl ?_
  refine me_getI (q := 19) C dX11_splitLot_16 mf_X11_158 rfl eu7 k8 rfl ?_
  refine me_iload_n (q := 20) C dX11_splitLot_19 rfl rfl rfl ?_
  refine me_isub (q := 21) C dX11_splitLot_20 rfl ?_
  obtain ⟨g9, eg9, hf⟩ := mm_lt_some hf
  refine me_putI (q := 24) C eg9 dX11_splitLot_21 mf_X11_158 mp_X11_7_3 rfl (by decide) eu7 k8 rfl ?_
  refine me_aload_n (q := 25) C dX11_splitLot_24 rfl rfl rfl ?_
  obtain ⟨k10, hf⟩ := mm_ck_some hf
  refine me_getR (q := 28) C dX11_splitLot_25 mf_X11_16 rfl rfl k10 rfl ?_
  obtain ⟨g11, eg11, hf⟩ := mm_lt_some hf
  obtain ⟨u12, eu12, hf⟩ := mm_lt_some hf
  refine me_newH (q := 31) (c2 := 1) (s2 := 5) C eg11 dX11_splitLot_28 mn_X11_146 rfl (Nat.le_of_ble_eq_true rfl) rfl (Nat.le_of_ble_eq_true rfl) rfl ?_
  refine me_topR (congrArg some eu12) ?_
  have k13 : mm_kd g11 u12 = 7 := by rw [eu12]; exact mm_kN eg11
  refine me_dup (q := 32) C dX11_splitLot_31 rfl rfl ?_
  refine me_aload (q := 34) C dX11_splitLot_32 rfl rfl ?_
  obtain ⟨k14, hf⟩ := mm_ck_some hf
  refine me_getI (q := 37) C dX11_splitLot_34 mf_X11_155 rfl eu7 k14 rfl ?_
  refine me_iload_n (q := 38) C dX11_splitLot_37 rfl rfl rfl ?_
  refine me_iload_n (q := 39) C dX11_splitLot_38 rfl rfl rfl ?_
  refine me_iload_n (q := 40) C dX11_splitLot_39 rfl rfl rfl ?_
  obtain ⟨_, g15, e16, hf⟩ := mm_cl_some hf
  refine me_callI (q := 43) (c2 := 1) (s2 := 5) (st := [vR (some u12), vR (mm_r g9 a0 1)]) C (cX6_init_ok _ e16) mt_X11_148 mi_X6_init dX11_splitLot_40 rfl rfl rfl rfl (Nat.le_of_ble_eq_true rfl) rfl (Nat.le_of_ble_eq_true rfl) rfl (Nat.le_of_ble_eq_true rfl) rfl rfl ?_
  obtain ⟨u17, eu17, hf⟩ := mm_rf_some hf
  obtain ⟨k18, hf⟩ := mm_ck_some hf
  obtain ⟨v19, g20, e21, hf⟩ := mm_cl_some hf
  refine me_callV (q := 46) (c2 := 3) (s2 := 421) (st := []) C (cJx4a65c_add_9ea2d_ok _ e21) mt_X11_103 mv_Jx4a65c_add_9ea2d rfl (by decide) dX11_splitLot_43 eu17 k18 rfl rfl rfl (Nat.le_of_ble_eq_true rfl) rfl (Nat.le_of_ble_eq_true rfl) rfl (Nat.le_of_ble_eq_true rfl) rfl rfl ?_
  refine me_pop (q := 47) C dX11_splitLot_46 rfl rfl ?_
  exact me_vret C hE (Nat.le_of_ble_eq_true rfl) (Nat.le_of_ble_eq_true rfl) rfl dX11_splitLot_47 (mm_ru hf)
set_option maxRecDepth 100000 in
set_option maxHeartbeats 4000000 in
theorem cX11_payFine_ok (l : Launch) {a0 : Nat} {a1 : Nat} {a2 : Int32} {h : mm_H} {r : Int32} {h1 : mm_H} (hf : fX11_payFine a0 a1 a2 h = some (r, h1)) : mm_M l yX11_payFine cX11_payFine 5 (some .int) 4 0 0 [vR (some a0), vR (some a1), vI a2] h (some (vI r)) h1 := by
  refine mm_enter (lv := [some (vR (some a0)), some (vR (some a1)), some (vI a2), none, none]) (by decide) rfl (Nat.le_of_ble_eq_true rfl) ?_
  intro X hl C hE
  subst hl
  unfold fX11_payFine at hf
  refine me_aload_n (q := 1) C dX11_payFine_0 rfl rfl rfl ?_
  refine me_iload_n (q := 2) C dX11_payFine_1 rfl rfl rfl ?_
  obtain ⟨k1, hf⟩ := mm_ck_some hf
  obtain ⟨v2, g3, e4, hf⟩ := mm_cl_some hf
  refine me_callV (q := 5) (c2 := 0) (s2 := 0) (st := []) C (cX7_spend_ok _ e4) mt_X11_131 mv_X7_spend rfl (by decide) dX11_payFine_2 rfl k1 rfl rfl rfl (Nat.le_of_ble_eq_true rfl) rfl (Nat.le_of_ble_eq_true rfl) rfl (Nat.le_of_ble_eq_true rfl) rfl rfl ?_
  refine me_istore_n (q := 6) (lv2 := [some (vR (some a0)), some (vR (some a1)), some (vI a2), some (vI v2), none]) C dX11_payFine_5 rfl (Nat.le_of_ble_eq_true rfl) rfl rfl rfl ?_
  refine me_iload_n (q := 7) C dX11_payFine_6 rfl rfl rfl ?_
  refine me_iconst (v := (1 : Int32)) (q := 8) C dX11_payFine_7 (by decide) rfl ?_
  refine me_iadd (q := 9) C dX11_payFine_8 rfl ?_
  refine me_iconst (v := (2 : Int32)) (q := 10) C dX11_payFine_9 (by decide) rfl ?_
  refine me_idiv (q := 11) C dX11_payFine_10 (by decide) rfl ?_
  obtain ⟨v5, ev5, hf⟩ := mm_lt_some hf
  refine me_topI ev5 ?_
  refine me_istore (q := 13) (lv2 := [some (vR (some a0)), some (vR (some a1)), some (vI a2), some (vI v2), some (vI v5)]) C dX11_payFine_11 (Nat.le_of_ble_eq_true rfl) rfl rfl rfl ?_
  refine me_aload_n (q := 14) C dX11_payFine_13 rfl rfl rfl ?_
  obtain ⟨k6, hf⟩ := mm_ck_some hf
  refine me_getR (q := 17) C dX11_payFine_14 mf_X11_22 rfl rfl k6 rfl ?_
  refine me_bipush (v := (9 : Int32)) (q := 19) C dX11_payFine_17 (by decide) rfl ?_
  refine me_dup2_11 (q := 20) C dX11_payFine_19 rfl rfl rfl ?_
  obtain ⟨u7, eu7, hf⟩ := mm_rf_some hf
  obtain ⟨k8, hf⟩ := mm_ck_some hf
  obtain ⟨k9, hf⟩ := mm_ck_some hf
  refine me_iald (q := 21) C dX11_payFine_20 eu7 k8 k9 rfl ?_
  refine me_iload (q := 23) C dX11_payFine_21 rfl rfl ?_
  refine me_iadd (q := 24) C dX11_payFine_23 rfl ?_
  obtain ⟨k10, hf⟩ := mm_ck_some hf
  obtain ⟨g11, eg11, hf⟩ := mm_lt_some hf
  refine me_iastH (q := 25) C eg11 dX11_payFine_24 eu7 k8 k10 rfl ?_
  refine me_aload_n (q := 26) C dX11_payFine_25 rfl rfl rfl ?_
  refine me_getR (q := 29) C dX11_payFine_26 mf_X11_22 rfl rfl (mm_kI eg11 k6) rfl ?_
  refine me_aload_n (q := 30) C dX11_payFine_29 rfl rfl rfl ?_
  obtain ⟨k12, hf⟩ := mm_ck_some hf
  refine me_getI (q := 33) C dX11_payFine_30 mf_X11_121 rfl rfl k12 rfl ?_
  refine me_dup2_11 (q := 34) C dX11_payFine_33 rfl rfl rfl ?_
  obtain ⟨u13, eu13, hf⟩ := mm_rf_some hf
  obtain ⟨k14, hf⟩ := mm_ck_some hf
  obtain ⟨k15, hf⟩ := mm_ck_some hf
  refine me_iald (q := 35) C dX11_payFine_34 eu13 k14 k15 rfl ?_
  refine me_iload_n (q := 36) C dX11_payFine_35 rfl rfl rfl ?_
  refine me_iload (q := 38) C dX11_payFine_36 rfl rfl ?_
  refine me_isub (q := 39) C dX11_payFine_38 rfl ?_
  refine me_iadd (q := 40) C dX11_payFine_39 rfl ?_
  obtain ⟨k16, hf⟩ := mm_ck_some hf
  obtain ⟨g17, eg17, hf⟩ := mm_lt_some hf
  refine me_iastH (q := 41) C eg17 dX11_payFine_40 eu13 k14 k16 rfl ?_
  refine me_iload_n (q := 42) C dX11_payFine_41 rfl rfl rfl ?_
  exact me_iret C hE (Nat.le_of_ble_eq_true rfl) (Nat.le_of_ble_eq_true rfl) rfl dX11_payFine_42 (mm_ri hf)
set_option maxRecDepth 100000 in
set_option maxHeartbeats 4000000 in
theorem cX11_deal_ok (l : Launch) {a0 : Nat} {a1 : Int32} {a2 : Int32} {a3 : Int32} {a4 : Int32} {a5 : Int32} {a6 : Int32} {a7 : Int32} {h : mm_H} {r : Int32} {h1 : mm_H} (hf : fX11_deal a0 a1 a2 a3 a4 a5 a6 a7 h = some (r, h1)) : mm_M l yX11_deal cX11_deal 11 (some .int) 16 9 859 [vR (some a0), vI a1, vI a2, vI a3, vI a4, vI a5, vI a6, vI a7] h (some (vI r)) h1 := by
  refine mm_enter (lv := [some (vR (some a0)), some (vI a1), some (vI a2), some (vI a3), some (vI a4), some (vI a5), some (vI a6), some (vI a7), none, none, none]) (by decide) rfl (Nat.le_of_ble_eq_true rfl) ?_
  intro X hl C hE
  subst hl
  unfold fX11_deal at hf
  refine me_aload_n (q := 1) C dX11_deal_0 rfl rfl rfl ?_
  refine me_iload_n (q := 2) C dX11_deal_1 rfl rfl rfl ?_
  refine me_iload_n (q := 3) C dX11_deal_2 rfl rfl rfl ?_
  refine me_iload_n (q := 4) C dX11_deal_3 rfl rfl rfl ?_
  refine me_iload (q := 6) C dX11_deal_4 rfl rfl ?_
  refine me_iload (q := 8) C dX11_deal_6 rfl rfl ?_
  refine me_iload (q := 10) C dX11_deal_8 rfl rfl ?_
  refine me_iload (q := 12) C dX11_deal_10 rfl rfl ?_
  obtain ⟨k1, hf⟩ := mm_ck_some hf
  obtain ⟨v2, g3, e4, hf⟩ := mm_cl_some hf
  refine me_callV (q := 15) (c2 := 0) (s2 := 0) (st := []) C (cX11_refusal_ok _ e4) mt_X11_226 mv_X11_refusal rfl (by decide) dX11_deal_12 rfl k1 rfl rfl rfl (Nat.le_of_ble_eq_true rfl) rfl (Nat.le_of_ble_eq_true rfl) rfl (Nat.le_of_ble_eq_true rfl) rfl rfl ?_
  refine me_istore (q := 17) (lv2 := [some (vR (some a0)), some (vI a1), some (vI a2), some (vI a3), some (vI a4), some (vI a5), some (vI a6), some (vI a7), some (vI v2), none, none]) C dX11_deal_15 (Nat.le_of_ble_eq_true rfl) rfl rfl rfl ?_
  refine me_iload (q := 19) C dX11_deal_17 rfl rfl ?_
  refine me_if_eq (q2 := 25) (q := 22) C dX11_deal_19 (by decide) rfl (fun c5 => ?_) (fun c5 => ?_)
  · have hf := mm_if_t c5 hf
    refine me_aload_n (q := 26) C dX11_deal_25 rfl rfl rfl ?_
    obtain ⟨k6, hf⟩ := mm_ck_some hf
    refine me_getR (q := 29) C dX11_deal_26 mf_X11_16 rfl rfl k6 rfl ?_
    obtain ⟨u7, eu7, hf⟩ := mm_rf_some hf
    obtain ⟨k8, hf⟩ := mm_ck_some hf
    obtain ⟨v9, g10, e11, hf⟩ := mm_cl_some hf
    refine me_callV (q := 32) (c2 := 0) (s2 := 0) (st := []) C (cJx4a65c_size_8abf5_ok _ e11) mt_X11_89 mv_Jx4a65c_size_8abf5 rfl (by decide) dX11_deal_29 eu7 k8 rfl rfl rfl (Nat.le_of_ble_eq_true rfl) rfl (Nat.le_of_ble_eq_true rfl) rfl (Nat.le_of_ble_eq_true rfl) rfl rfl ?_
    refine me_sipush (v := (200 : Int32)) (q := 35) C dX11_deal_32 (by decide) rfl ?_
    refine me_icmp_ge (q2 := 51) (q := 38) C dX11_deal_35 (by decide) rfl (fun c12 => ?_) (fun c12 => ?_)
    · have hf := mm_if_t c12 hf
      refine me_iconst (v := (4 : Int32)) (q := 52) C dX11_deal_51 (by decide) rfl ?_
      exact me_iret C hE (Nat.le_of_ble_eq_true rfl) (Nat.le_of_ble_eq_true rfl) rfl dX11_deal_52 (mm_ri hf)
    · have hf := mm_if_f c12 hf
      refine me_aload_n (q := 39) C dX11_deal_38 rfl rfl rfl ?_
      obtain ⟨k13, hf⟩ := mm_ck_some hf
      refine me_getR (q := 42) C dX11_deal_39 mf_X11_19 rfl rfl k13 rfl ?_
      obtain ⟨u14, eu14, hf⟩ := mm_rf_some hf
      obtain ⟨k15, hf⟩ := mm_ck_some hf
      obtain ⟨v16, g17, e18, hf⟩ := mm_cl_some hf
      refine me_callV (q := 45) (c2 := 0) (s2 := 0) (st := []) C (cJx4a65c_size_8abf5_ok _ e18) mt_X11_89 mv_Jx4a65c_size_8abf5 rfl (by decide) dX11_deal_42 eu14 k15 rfl rfl rfl (Nat.le_of_ble_eq_true rfl) rfl (Nat.le_of_ble_eq_true rfl) rfl (Nat.le_of_ble_eq_true rfl) rfl rfl ?_
      refine me_sipush (v := (300 : Int32)) (q := 48) C dX11_deal_45 (by decide) rfl ?_
      refine me_icmp_lt (q2 := 53) (q := 51) C dX11_deal_48 (by decide) rfl (fun c19 => ?_) (fun c19 => ?_)
      · have hf := mm_if_t c19 hf
        refine me_aload_n (q := 54) C dX11_deal_53 rfl rfl rfl ?_
        refine me_iload_n (q := 55) C dX11_deal_54 rfl rfl rfl ?_
        refine me_iload_n (q := 56) C dX11_deal_55 rfl rfl rfl ?_
        refine me_iload_n (q := 57) C dX11_deal_56 rfl rfl rfl ?_
        refine me_iload (q := 59) C dX11_deal_57 rfl rfl ?_
        refine me_iload (q := 61) C dX11_deal_59 rfl rfl ?_
        refine me_iload (q := 63) C dX11_deal_61 rfl rfl ?_
        refine me_iload (q := 65) C dX11_deal_63 rfl rfl ?_
        obtain ⟨k20, hf⟩ := mm_ck_some hf
        obtain ⟨v21, g22, e23, hf⟩ := mm_cl_some hf
        refine me_callV (q := 68) (c2 := 0) (s2 := 0) (st := []) C (cX11_judge_ok _ e23) mt_X11_230 mv_X11_judge rfl (by decide) dX11_deal_65 rfl k20 rfl rfl rfl (Nat.le_of_ble_eq_true rfl) rfl (Nat.le_of_ble_eq_true rfl) rfl (Nat.le_of_ble_eq_true rfl) rfl rfl ?_
        refine me_istore (q := 70) (lv2 := [some (vR (some a0)), some (vI a1), some (vI a2), some (vI a3), some (vI a4), some (vI a5), some (vI a6), some (vI a7), some (vI v2), some (vI v21), none]) C dX11_deal_68 (Nat.le_of_ble_eq_true rfl) rfl rfl rfl ?_
        refine me_iload (q := 72) C dX11_deal_70 rfl rfl ?_
        refine me_iconst (v := (1 : Int32)) (q := 73) C dX11_deal_72 (by decide) rfl ?_
        refine me_icmp_ne (q2 := 78) (q := 76) C dX11_deal_73 (by decide) rfl (fun c24 => ?_) (fun c24 => ?_)
        · have hf := mm_if_t c24 hf
          refine me_iload (q := 80) C dX11_deal_78 rfl rfl ?_
          obtain ⟨q26, eq26, hf⟩ := mm_jn_some hf
          have Hq26 : ∀ (g25 : mm_H), q26 g25 = some (r, h1) → mm_E X g25 0 0 105 [some (vR (some a0)), some (vI a1), some (vI a2), some (vI a3), some (vI a4), some (vI a5), some (vI a6), none, none, some (vI v21), none] [] := by
            intro g25 hf
            subst eq26
            refine me_aload_n (q := 106) C dX11_deal_105 rfl rfl rfl ?_
            refine me_iload_n (q := 107) C dX11_deal_106 rfl rfl rfl ?_
            refine me_iload (q := 109) C dX11_deal_107 rfl rfl ?_
            refine me_iload_n (q := 110) C dX11_deal_109 rfl rfl rfl ?_
            obtain ⟨k27, hf⟩ := mm_ck_some hf
            obtain ⟨_, g28, e29, hf⟩ := mm_cl_some hf
            refine me_callV (q := 113) (c2 := 3) (s2 := 421) (st := []) C (cX11_splitLot_ok _ e29) mt_X11_253 mv_X11_splitLot rfl (by decide) dX11_deal_110 rfl k27 rfl rfl rfl (Nat.le_of_ble_eq_true rfl) rfl (Nat.le_of_ble_eq_true rfl) rfl (Nat.le_of_ble_eq_true rfl) rfl rfl ?_
            obtain ⟨g30, eg30, hf⟩ := mm_lt_some hf
            obtain ⟨u31, eu31, hf⟩ := mm_lt_some hf
            refine me_newH (q := 116) (c2 := 4) (s2 := 434) C eg30 dX11_deal_113 mn_X11_256 rfl (Nat.le_of_ble_eq_true rfl) rfl (Nat.le_of_ble_eq_true rfl) rfl ?_
            refine me_topR (congrArg some eu31) ?_
            have k32 : mm_kd g30 u31 = 1 := by rw [eu31]; exact mm_kN eg30
            refine me_dup (q := 117) C dX11_deal_116 rfl rfl ?_
            refine me_iload_n (q := 118) C dX11_deal_117 rfl rfl rfl ?_
            refine me_iload_n (q := 119) C dX11_deal_118 rfl rfl rfl ?_
            refine me_aload_n (q := 120) C dX11_deal_119 rfl rfl rfl ?_
            obtain ⟨k33, hf⟩ := mm_ck_some hf
            refine me_getR (q := 123) C dX11_deal_120 mf_X11_16 rfl rfl k33 rfl ?_
            obtain ⟨u34, eu34, hf⟩ := mm_rf_some hf
            obtain ⟨k35, hf⟩ := mm_ck_some hf
            obtain ⟨v36, g37, e38, hf⟩ := mm_cl_some hf
            refine me_callV (q := 126) (c2 := 4) (s2 := 434) (st := [vI a2, vI a1, vR (some u31), vR (some u31)]) C (cJx4a65c_size_8abf5_ok _ e38) mt_X11_89 mv_Jx4a65c_size_8abf5 rfl (by decide) dX11_deal_123 eu34 k35 rfl rfl rfl (Nat.le_of_ble_eq_true rfl) rfl (Nat.le_of_ble_eq_true rfl) rfl (Nat.le_of_ble_eq_true rfl) rfl rfl ?_
            refine me_iconst (v := (1 : Int32)) (q := 127) C dX11_deal_126 (by decide) rfl ?_
            refine me_isub (q := 128) C dX11_deal_127 rfl ?_
            refine me_iload (q := 130) C dX11_deal_128 rfl rfl ?_
            refine me_iload (q := 132) C dX11_deal_130 rfl rfl ?_
            obtain ⟨q40, eq40, hf⟩ := mm_jn_some hf
            have Hq40 : ∀ (v39 : Int32), q40 v39 = some (r, h1) → mm_E X g37 4 434 146 [some (vR (some a0)), some (vI a1), none, none, none, some (vI a5), some (vI a6), none, none, some (vI v21), none] [vI v39, vI a5, vI (v36 - (1 : Int32)), vI a2, vI a1, vR (some u31), vR (some u31)] := by
              intro v39 hf
              subst eq40
              refine me_aload_n (q := 147) C dX11_deal_146 rfl rfl rfl ?_
              obtain ⟨k41, hf⟩ := mm_ck_some hf
              refine me_getI (q := 150) C dX11_deal_147 mf_X11_75 rfl rfl k41 rfl ?_
              obtain ⟨_, g42, e43, hf⟩ := mm_cl_some hf
              refine me_callI (q := 153) (c2 := 7) (s2 := 443) (st := [vR (some u31)]) C (cX0_init_ok _ e43) mt_X11_258 mi_X0_init dX11_deal_150 rfl rfl rfl rfl (Nat.le_of_ble_eq_true rfl) rfl (Nat.le_of_ble_eq_true rfl) rfl (Nat.le_of_ble_eq_true rfl) rfl rfl ?_
              refine me_astore (q := 155) (lv2 := [some (vR (some a0)), some (vI a1), none, none, none, some (vI a5), some (vI a6), none, none, some (vI v21), some (vR (some u31))]) C dX11_deal_153 (Nat.le_of_ble_eq_true rfl) rfl rfl rfl ?_
              refine me_aload_n (q := 156) C dX11_deal_155 rfl rfl rfl ?_
              obtain ⟨k44, hf⟩ := mm_ck_some hf
              refine me_getR (q := 159) C dX11_deal_156 mf_X11_19 rfl rfl k44 rfl ?_
              refine me_aload (q := 161) C dX11_deal_159 rfl rfl ?_
              obtain ⟨u45, eu45, hf⟩ := mm_rf_some hf
              obtain ⟨k46, hf⟩ := mm_ck_some hf
              obtain ⟨v47, g48, e49, hf⟩ := mm_cl_some hf
              refine me_callV (q := 164) (c2 := 9) (s2 := 859) (st := []) C (cJx4a65c_add_9ea2d_ok _ e49) mt_X11_103 mv_Jx4a65c_add_9ea2d rfl (by decide) dX11_deal_161 eu45 k46 rfl rfl rfl (Nat.le_of_ble_eq_true rfl) rfl (Nat.le_of_ble_eq_true rfl) rfl (Nat.le_of_ble_eq_true rfl) rfl rfl ?_
              refine me_pop (q := 165) C dX11_deal_164 rfl rfl ?_
              refine me_aload_n (q := 166) C dX11_deal_165 rfl rfl rfl ?_
              refine me_aload (q := 168) C dX11_deal_166 rfl rfl ?_
              refine me_iload (q := 170) C dX11_deal_168 rfl rfl ?_
              obtain ⟨q51, eq51, hf⟩ := mm_jn_some hf
              have Hq51 : ∀ (v50 : Int32), q51 v50 = some (r, h1) → mm_E X g48 9 859 179 [some (vR (some a0)), some (vI a1), none, none, none, none, none, none, none, some (vI v21), some (vR (some u31))] [vI v50, vR (some u31), vR (some a0)] := by
                intro v50 hf
                subst eq51
                obtain ⟨k52, hf⟩ := mm_ck_some hf
                obtain ⟨v53, g54, e55, hf⟩ := mm_cl_some hf
                refine me_callV (q := 182) (c2 := 9) (s2 := 859) (st := []) C (cX11_payOwed_ok _ e55) mt_X11_261 mv_X11_payOwed rfl (by decide) dX11_deal_179 rfl k52 rfl rfl rfl (Nat.le_of_ble_eq_true rfl) rfl (Nat.le_of_ble_eq_true rfl) rfl (Nat.le_of_ble_eq_true rfl) rfl rfl ?_
                refine me_pop (q := 183) C dX11_deal_182 rfl rfl ?_
                refine me_iload (q := 185) C dX11_deal_183 rfl rfl ?_
                refine me_bipush (v := (10 : Int32)) (q := 187) C dX11_deal_185 (by decide) rfl ?_
                obtain ⟨q57, eq57, hf⟩ := mm_jn_some hf
                have Hq57 : ∀ (g56 : mm_H), q57 g56 = some (r, h1) → mm_E X g56 9 859 215 [some (vR (some a0)), none, none, none, none, none, none, none, none, none, none] [] := by
                  intro g56 hf
                  subst eq57
                  refine me_bipush (v := (100 : Int32)) (q := 217) C dX11_deal_215 (by decide) rfl ?_
                  refine me_aload_n (q := 218) C dX11_deal_217 rfl rfl rfl ?_
                  obtain ⟨k58, hf⟩ := mm_ck_some hf
                  refine me_getR (q := 221) C dX11_deal_218 mf_X11_19 rfl rfl k58 rfl ?_
                  obtain ⟨u59, eu59, hf⟩ := mm_rf_some hf
                  obtain ⟨k60, hf⟩ := mm_ck_some hf
                  obtain ⟨v61, g62, e63, hf⟩ := mm_cl_some hf
                  refine me_callV (q := 224) (c2 := 9) (s2 := 859) (st := [vI (100 : Int32)]) C (cJx4a65c_size_8abf5_ok _ e63) mt_X11_89 mv_Jx4a65c_size_8abf5 rfl (by decide) dX11_deal_221 eu59 k60 rfl rfl rfl (Nat.le_of_ble_eq_true rfl) rfl (Nat.le_of_ble_eq_true rfl) rfl (Nat.le_of_ble_eq_true rfl) rfl rfl ?_
                  refine me_iadd (q := 225) C dX11_deal_224 rfl ?_
                  refine me_iconst (v := (1 : Int32)) (q := 226) C dX11_deal_225 (by decide) rfl ?_
                  refine me_isub (q := 227) C dX11_deal_226 rfl ?_
                  exact me_iret C hE (Nat.le_of_ble_eq_true rfl) (Nat.le_of_ble_eq_true rfl) rfl dX11_deal_227 (mm_ri hf)
                refine me_icmp_lt (q2 := 215) (q := 190) C dX11_deal_187 (by decide) rfl (fun c64 => ?_) (fun c64 => ?_)
                · have hf := mm_if_t c64 hf
                  refine me_mask [true, false, false, false, false, false, false, false, false, false, false] (lv2 := [some (vR (some a0)), none, none, none, none, none, none, none, none, none, none]) rfl ?_
                  exact Hq57 _ hf
                · have hf := mm_if_f c64 hf
                  refine me_aload (q := 192) C dX11_deal_190 rfl rfl ?_
                  refine me_aload_n (q := 193) C dX11_deal_192 rfl rfl rfl ?_
                  refine me_aload_n (q := 194) C dX11_deal_193 rfl rfl rfl ?_
                  obtain ⟨k65, hf⟩ := mm_ck_some hf
                  refine me_getR (q := 197) C dX11_deal_194 mf_X11_10 rfl rfl k65 rfl ?_
                  refine me_iload_n (q := 198) C dX11_deal_197 rfl rfl rfl ?_
                  obtain ⟨u66, eu66, hf⟩ := mm_rf_some hf
                  obtain ⟨k67, hf⟩ := mm_ck_some hf
                  obtain ⟨v68, g69, e70, hf⟩ := mm_cl_some hf
                  refine me_callV (q := 201) (c2 := 9) (s2 := 859) (st := [vR (some a0), vR (some u31)]) C (cJx4a65c_get_915e3_ok _ e70) mt_X11_151 mv_Jx4a65c_get_915e3 rfl (by decide) dX11_deal_198 eu66 k67 rfl rfl rfl (Nat.le_of_ble_eq_true rfl) rfl (Nat.le_of_ble_eq_true rfl) rfl (Nat.le_of_ble_eq_true rfl) rfl rfl ?_
                  obtain ⟨u71, eu71, hf⟩ := mm_rf_some hf
                  obtain ⟨k72, hf⟩ := mm_ck_some hf
                  refine me_cast (q := 204) C dX11_deal_201 mk_X11_98 eu71 k72 rfl ?_
                  refine me_iload (q := 206) C dX11_deal_204 rfl rfl ?_
                  refine me_bipush (v := (10 : Int32)) (q := 208) C dX11_deal_206 (by decide) rfl ?_
                  refine me_isub (q := 209) C dX11_deal_208 rfl ?_
                  obtain ⟨k73, hf⟩ := mm_ck_some hf
                  obtain ⟨v74, g75, e76, hf⟩ := mm_cl_some hf
                  refine me_callV (q := 212) (c2 := 9) (s2 := 859) (st := [vR (some u31)]) C (cX11_payFine_ok _ e76) mt_X11_265 mv_X11_payFine rfl (by decide) dX11_deal_209 rfl k73 (by rw [eu71]; rfl) rfl rfl (Nat.le_of_ble_eq_true rfl) rfl (Nat.le_of_ble_eq_true rfl) rfl (Nat.le_of_ble_eq_true rfl) rfl rfl ?_
                  obtain ⟨k77, hf⟩ := mm_ck_some hf
                  obtain ⟨g78, eg78, hf⟩ := mm_lt_some hf
                  refine me_putI (q := 215) C eg78 dX11_deal_212 mf_X11_269 mp_X11_1_7 rfl (by decide) rfl k77 rfl ?_
                  refine me_mask [true, false, false, false, false, false, false, false, false, false, false] (lv2 := [some (vR (some a0)), none, none, none, none, none, none, none, none, none, none]) rfl ?_
                  exact Hq57 _ hf
              refine me_if_ne (q2 := 178) (q := 173) C dX11_deal_170 (by decide) rfl (fun c79 => ?_) (fun c79 => ?_)
              · have hf := mm_if_t c79 hf
                refine me_iconst (v := (0 : Int32)) (q := 179) C dX11_deal_178 (by decide) rfl ?_
                refine me_mask [true, true, false, false, false, false, false, false, false, true, true] (lv2 := [some (vR (some a0)), some (vI a1), none, none, none, none, none, none, none, some (vI v21), some (vR (some u31))]) rfl ?_
                exact Hq51 _ hf
              · have hf := mm_if_f c79 hf
                refine me_iload (q := 175) C dX11_deal_173 rfl rfl ?_
                refine me_goto (q := 179) C dX11_deal_175 (by decide) ?_
                refine me_mask [true, true, false, false, false, false, false, false, false, true, true] (lv2 := [some (vR (some a0)), some (vI a1), none, none, none, none, none, none, none, some (vI v21), some (vR (some u31))]) rfl ?_
                exact Hq51 _ hf
            refine me_if_ne (q2 := 139) (q := 135) C dX11_deal_132 (by decide) rfl (fun c80 => ?_) (fun c80 => ?_)
            · have hf := mm_if_t c80 hf
              refine me_aload_n (q := 140) C dX11_deal_139 rfl rfl rfl ?_
              obtain ⟨k81, hf⟩ := mm_ck_some hf
              refine me_getI (q := 143) C dX11_deal_140 mf_X11_75 rfl rfl k81 rfl ?_
              refine me_iload (q := 145) C dX11_deal_143 rfl rfl ?_
              refine me_iadd (q := 146) C dX11_deal_145 rfl ?_
              refine me_mask [true, true, false, false, false, true, true, false, false, true, false] (lv2 := [some (vR (some a0)), some (vI a1), none, none, none, some (vI a5), some (vI a6), none, none, some (vI v21), none]) rfl ?_
              exact Hq40 _ hf
            · have hf := mm_if_f c80 hf
              refine me_iconst (v := (-1 : Int32)) (q := 136) C dX11_deal_135 (by decide) rfl ?_
              refine me_goto (q := 146) C dX11_deal_136 (by decide) ?_
              refine me_mask [true, true, false, false, false, true, true, false, false, true, false] (lv2 := [some (vR (some a0)), some (vI a1), none, none, none, some (vI a5), some (vI a6), none, none, some (vI v21), none]) rfl ?_
              exact Hq40 _ hf
          refine me_if_ne (q2 := 105) (q := 83) C dX11_deal_80 (by decide) rfl (fun c82 => ?_) (fun c82 => ?_)
          · have hf := mm_if_t c82 hf
            refine me_mask [true, true, true, true, true, true, true, false, false, true, false] (lv2 := [some (vR (some a0)), some (vI a1), some (vI a2), some (vI a3), some (vI a4), some (vI a5), some (vI a6), none, none, some (vI v21), none]) rfl ?_
            exact Hq26 _ hf
          · have hf := mm_if_f c82 hf
            refine me_aload_n (q := 84) C dX11_deal_83 rfl rfl rfl ?_
            obtain ⟨k83, hf⟩ := mm_ck_some hf
            refine me_getR (q := 87) C dX11_deal_84 mf_X11_10 rfl rfl k83 rfl ?_
            refine me_iload_n (q := 88) C dX11_deal_87 rfl rfl rfl ?_
            obtain ⟨u84, eu84, hf⟩ := mm_rf_some hf
            obtain ⟨k85, hf⟩ := mm_ck_some hf
            obtain ⟨v86, g87, e88, hf⟩ := mm_cl_some hf
            refine me_callV (q := 91) (c2 := 0) (s2 := 0) (st := []) C (cJx4a65c_get_915e3_ok _ e88) mt_X11_151 mv_Jx4a65c_get_915e3 rfl (by decide) dX11_deal_88 eu84 k85 rfl rfl rfl (Nat.le_of_ble_eq_true rfl) rfl (Nat.le_of_ble_eq_true rfl) rfl (Nat.le_of_ble_eq_true rfl) rfl rfl ?_
            obtain ⟨u89, eu89, hf⟩ := mm_rf_some hf
            obtain ⟨k90, hf⟩ := mm_ck_some hf
            refine me_cast (q := 94) C dX11_deal_91 mk_X11_98 eu89 k90 rfl ?_
            refine me_getI (q := 97) C dX11_deal_94 mf_X11_128 rfl eu89 k90 rfl ?_
            refine me_iload (q := 99) C dX11_deal_97 rfl rfl ?_
            refine me_icmp_ge (q2 := 105) (q := 102) C dX11_deal_99 (by decide) rfl (fun c91 => ?_) (fun c91 => ?_)
            · have hf := mm_if_t c91 hf
              refine me_mask [true, true, true, true, true, true, true, false, false, true, false] (lv2 := [some (vR (some a0)), some (vI a1), some (vI a2), some (vI a3), some (vI a4), some (vI a5), some (vI a6), none, none, some (vI v21), none]) rfl ?_
              exact Hq26 _ hf
            · have hf := mm_if_f c91 hf
              refine me_bipush (v := (6 : Int32)) (q := 104) C dX11_deal_102 (by decide) rfl ?_
              exact me_iret C hE (Nat.le_of_ble_eq_true rfl) (Nat.le_of_ble_eq_true rfl) rfl dX11_deal_104 (mm_ri hf)
        · have hf := mm_if_f c24 hf
          refine me_iconst (v := (5 : Int32)) (q := 77) C dX11_deal_76 (by decide) rfl ?_
          exact me_iret C hE (Nat.le_of_ble_eq_true rfl) (Nat.le_of_ble_eq_true rfl) rfl dX11_deal_77 (mm_ri hf)
      · have hf := mm_if_f c19 hf
        refine me_iconst (v := (4 : Int32)) (q := 52) C dX11_deal_51 (by decide) rfl ?_
        exact me_iret C hE (Nat.le_of_ble_eq_true rfl) (Nat.le_of_ble_eq_true rfl) rfl dX11_deal_52 (mm_ri hf)
  · have hf := mm_if_f c5 hf
    refine me_iload (q := 24) C dX11_deal_22 rfl rfl ?_
    exact me_iret C hE (Nat.le_of_ble_eq_true rfl) (Nat.le_of_ble_eq_true rfl) rfl dX11_deal_24 (mm_ri hf)
set_option maxRecDepth 100000 in
set_option maxHeartbeats 4000000 in
theorem cX11_bargainAt_ok (l : Launch) {a0 : Nat} {a1 : Int32} {h : mm_H} {r : Option Nat} {h1 : mm_H} (hf : fX11_bargainAt a0 a1 h = some (r, h1)) : mm_M l yX11_bargainAt cX11_bargainAt 2 (some (.object "MerchantYard$Bargain")) 8 0 0 [vR (some a0), vI a1] h (some (vR r)) h1 := by
  refine mm_enter (lv := [some (vR (some a0)), some (vI a1)]) (by decide) rfl (Nat.le_of_ble_eq_true rfl) ?_
  intro X hl C hE
  subst hl
  unfold fX11_bargainAt at hf
  refine me_iload_n (q := 1) C dX11_bargainAt_0 rfl rfl rfl ?_
  refine me_if_lt (q2 := 15) (q := 4) C dX11_bargainAt_1 (by decide) rfl (fun c1 => ?_) (fun c1 => ?_)
  · have hf := mm_if_t c1 hf
    refine me_null (q := 16) C dX11_bargainAt_15 rfl ?_
    refine me_goto (q := 30) C dX11_bargainAt_16 (by decide) ?_
    exact me_aret C hE (Nat.le_of_ble_eq_true rfl) (Nat.le_of_ble_eq_true rfl) rfl (Or.inl ⟨_, rfl⟩) dX11_bargainAt_30 (mm_rr hf)
  · have hf := mm_if_f c1 hf
    refine me_iload_n (q := 5) C dX11_bargainAt_4 rfl rfl rfl ?_
    refine me_aload_n (q := 6) C dX11_bargainAt_5 rfl rfl rfl ?_
    obtain ⟨k2, hf⟩ := mm_ck_some hf
    refine me_getR (q := 9) C dX11_bargainAt_6 mf_X11_19 rfl rfl k2 rfl ?_
    obtain ⟨u3, eu3, hf⟩ := mm_rf_some hf
    obtain ⟨k4, hf⟩ := mm_ck_some hf
    obtain ⟨v5, g6, e7, hf⟩ := mm_cl_some hf
    refine me_callV (q := 12) (c2 := 0) (s2 := 0) (st := [vI a1]) C (cJx4a65c_size_8abf5_ok _ e7) mt_X11_89 mv_Jx4a65c_size_8abf5 rfl (by decide) dX11_bargainAt_9 eu3 k4 rfl rfl rfl (Nat.le_of_ble_eq_true rfl) rfl (Nat.le_of_ble_eq_true rfl) rfl (Nat.le_of_ble_eq_true rfl) rfl rfl ?_
    refine me_icmp_lt (q2 := 19) (q := 15) C dX11_bargainAt_12 (by decide) rfl (fun c8 => ?_) (fun c8 => ?_)
    · have hf := mm_if_t c8 hf
      refine me_aload_n (q := 20) C dX11_bargainAt_19 rfl rfl rfl ?_
      obtain ⟨k9, hf⟩ := mm_ck_some hf
      refine me_getR (q := 23) C dX11_bargainAt_20 mf_X11_19 rfl rfl k9 rfl ?_
      refine me_iload_n (q := 24) C dX11_bargainAt_23 rfl rfl rfl ?_
      obtain ⟨u10, eu10, hf⟩ := mm_rf_some hf
      obtain ⟨k11, hf⟩ := mm_ck_some hf
      obtain ⟨v12, g13, e14, hf⟩ := mm_cl_some hf
      refine me_callV (q := 27) (c2 := 0) (s2 := 0) (st := []) C (cJx4a65c_get_915e3_ok _ e14) mt_X11_151 mv_Jx4a65c_get_915e3 rfl (by decide) dX11_bargainAt_24 eu10 k11 rfl rfl rfl (Nat.le_of_ble_eq_true rfl) rfl (Nat.le_of_ble_eq_true rfl) rfl (Nat.le_of_ble_eq_true rfl) rfl rfl ?_
      obtain ⟨u15, eu15, hf⟩ := mm_rf_some hf
      obtain ⟨k16, hf⟩ := mm_ck_some hf
      refine me_cast (q := 30) C dX11_bargainAt_27 mk_X11_256 eu15 k16 rfl ?_
      exact me_aret C hE (Nat.le_of_ble_eq_true rfl) (Nat.le_of_ble_eq_true rfl) rfl (Or.inl ⟨_, rfl⟩) dX11_bargainAt_30 (mm_rr hf)
    · have hf := mm_if_f c8 hf
      refine me_null (q := 16) C dX11_bargainAt_15 rfl ?_
      refine me_goto (q := 30) C dX11_bargainAt_16 (by decide) ?_
      exact me_aret C hE (Nat.le_of_ble_eq_true rfl) (Nat.le_of_ble_eq_true rfl) rfl (Or.inl ⟨_, rfl⟩) dX11_bargainAt_30 (mm_rr hf)
set_option maxRecDepth 100000 in
set_option maxHeartbeats 4000000 in
theorem cX11_bargain_ok (l : Launch) {a0 : Nat} {a1 : Int32} {a2 : Int32} {h : mm_H} {r : Int32} {h1 : mm_H} (hf : fX11_bargain a0 a1 a2 h = some (r, h1)) : mm_M l yX11_bargain cX11_bargain 4 (some .int) 10 0 0 [vR (some a0), vI a1, vI a2] h (some (vI r)) h1 := by
  refine mm_enter (lv := [some (vR (some a0)), some (vI a1), some (vI a2), none]) (by decide) rfl (Nat.le_of_ble_eq_true rfl) ?_
  intro X hl C hE
  subst hl
  unfold fX11_bargain at hf
  refine me_aload_n (q := 1) C dX11_bargain_0 rfl rfl rfl ?_
  refine me_iload_n (q := 2) C dX11_bargain_1 rfl rfl rfl ?_
  obtain ⟨k1, hf⟩ := mm_ck_some hf
  obtain ⟨v2, g3, e4, hf⟩ := mm_cl_some hf
  refine me_callV (q := 5) (c2 := 0) (s2 := 0) (st := []) C (cX11_bargainAt_ok _ e4) mt_X11_272 mv_X11_bargainAt rfl (by decide) dX11_bargain_2 rfl k1 rfl rfl rfl (Nat.le_of_ble_eq_true rfl) rfl (Nat.le_of_ble_eq_true rfl) rfl (Nat.le_of_ble_eq_true rfl) rfl rfl ?_
  refine me_astore_n (q := 6) (lv2 := [some (vR (some a0)), some (vI a1), some (vI a2), some (vR v2)]) C dX11_bargain_5 rfl (Nat.le_of_ble_eq_true rfl) rfl rfl rfl ?_
  refine me_aload_n (q := 7) C dX11_bargain_6 rfl rfl rfl ?_
  refine me_ifnonnull (q2 := 12) (q := 10) C dX11_bargain_7 (by decide) rfl (fun c5 => ?_) (fun c5 => ?_)
  · have hf := mm_if_t c5 hf
    refine me_iload_n (q := 13) C dX11_bargain_12 rfl rfl rfl ?_
    by_cases c6 : a2 = 0
    · have hf := mm_if_t c6 hf
      refine me_tabIn (q := 68) C dX11_bargain_13 (by rw [c6]; decide) (by rw [c6]; decide) (by rw [c6]; rfl) (by decide) ?_
      refine me_aload_n (q := 69) C dX11_bargain_68 rfl rfl rfl ?_
      obtain ⟨u7, eu7, hf⟩ := mm_rf_some hf
      obtain ⟨k8, hf⟩ := mm_ck_some hf
      refine me_getI (q := 72) C dX11_bargain_69 mf_X11_276 rfl eu7 k8 rfl ?_
      exact me_iret C hE (Nat.le_of_ble_eq_true rfl) (Nat.le_of_ble_eq_true rfl) rfl dX11_bargain_72 (mm_ri hf)
    have hf := mm_if_f c6 hf
    by_cases c9 : a2 = 1
    · have hf := mm_if_t c9 hf
      refine me_tabIn (q := 73) C dX11_bargain_13 (by rw [c9]; decide) (by rw [c9]; decide) (by rw [c9]; rfl) (by decide) ?_
      refine me_aload_n (q := 74) C dX11_bargain_73 rfl rfl rfl ?_
      obtain ⟨u10, eu10, hf⟩ := mm_rf_some hf
      obtain ⟨k11, hf⟩ := mm_ck_some hf
      refine me_getI (q := 77) C dX11_bargain_74 mf_X11_279 rfl eu10 k11 rfl ?_
      exact me_iret C hE (Nat.le_of_ble_eq_true rfl) (Nat.le_of_ble_eq_true rfl) rfl dX11_bargain_77 (mm_ri hf)
    have hf := mm_if_f c9 hf
    by_cases c12 : a2 = 2
    · have hf := mm_if_t c12 hf
      refine me_tabIn (q := 78) C dX11_bargain_13 (by rw [c12]; decide) (by rw [c12]; decide) (by rw [c12]; rfl) (by decide) ?_
      refine me_aload_n (q := 79) C dX11_bargain_78 rfl rfl rfl ?_
      obtain ⟨u13, eu13, hf⟩ := mm_rf_some hf
      obtain ⟨k14, hf⟩ := mm_ck_some hf
      refine me_getI (q := 82) C dX11_bargain_79 mf_X11_282 rfl eu13 k14 rfl ?_
      exact me_iret C hE (Nat.le_of_ble_eq_true rfl) (Nat.le_of_ble_eq_true rfl) rfl dX11_bargain_82 (mm_ri hf)
    have hf := mm_if_f c12 hf
    by_cases c15 : a2 = 3
    · have hf := mm_if_t c15 hf
      refine me_tabIn (q := 83) C dX11_bargain_13 (by rw [c15]; decide) (by rw [c15]; decide) (by rw [c15]; rfl) (by decide) ?_
      refine me_aload_n (q := 84) C dX11_bargain_83 rfl rfl rfl ?_
      obtain ⟨u16, eu16, hf⟩ := mm_rf_some hf
      obtain ⟨k17, hf⟩ := mm_ck_some hf
      refine me_getI (q := 87) C dX11_bargain_84 mf_X11_285 rfl eu16 k17 rfl ?_
      exact me_iret C hE (Nat.le_of_ble_eq_true rfl) (Nat.le_of_ble_eq_true rfl) rfl dX11_bargain_87 (mm_ri hf)
    have hf := mm_if_f c15 hf
    by_cases c18 : a2 = 4
    · have hf := mm_if_t c18 hf
      refine me_tabIn (q := 88) C dX11_bargain_13 (by rw [c18]; decide) (by rw [c18]; decide) (by rw [c18]; rfl) (by decide) ?_
      refine me_aload_n (q := 89) C dX11_bargain_88 rfl rfl rfl ?_
      obtain ⟨u19, eu19, hf⟩ := mm_rf_some hf
      obtain ⟨k20, hf⟩ := mm_ck_some hf
      refine me_getI (q := 92) C dX11_bargain_89 mf_X11_288 rfl eu19 k20 rfl ?_
      exact me_iret C hE (Nat.le_of_ble_eq_true rfl) (Nat.le_of_ble_eq_true rfl) rfl dX11_bargain_92 (mm_ri hf)
    have hf := mm_if_f c18 hf
    by_cases c21 : a2 = 5
    · have hf := mm_if_t c21 hf
      refine me_tabIn (q := 93) C dX11_bargain_13 (by rw [c21]; decide) (by rw [c21]; decide) (by rw [c21]; rfl) (by decide) ?_
      refine me_aload_n (q := 94) C dX11_bargain_93 rfl rfl rfl ?_
      obtain ⟨u22, eu22, hf⟩ := mm_rf_some hf
      obtain ⟨k23, hf⟩ := mm_ck_some hf
      refine me_getI (q := 97) C dX11_bargain_94 mf_X11_291 rfl eu22 k23 rfl ?_
      exact me_iret C hE (Nat.le_of_ble_eq_true rfl) (Nat.le_of_ble_eq_true rfl) rfl dX11_bargain_97 (mm_ri hf)
    have hf := mm_if_f c21 hf
    by_cases c24 : a2 = 6
    · have hf := mm_if_t c24 hf
      refine me_tabIn (q := 98) C dX11_bargain_13 (by rw [c24]; decide) (by rw [c24]; decide) (by rw [c24]; rfl) (by decide) ?_
      refine me_aload_n (q := 99) C dX11_bargain_98 rfl rfl rfl ?_
      obtain ⟨u25, eu25, hf⟩ := mm_rf_some hf
      obtain ⟨k26, hf⟩ := mm_ck_some hf
      refine me_getI (q := 102) C dX11_bargain_99 mf_X11_294 rfl eu25 k26 rfl ?_
      exact me_iret C hE (Nat.le_of_ble_eq_true rfl) (Nat.le_of_ble_eq_true rfl) rfl dX11_bargain_102 (mm_ri hf)
    have hf := mm_if_f c24 hf
    by_cases c27 : a2 = 7
    · have hf := mm_if_t c27 hf
      refine me_tabIn (q := 103) C dX11_bargain_13 (by rw [c27]; decide) (by rw [c27]; decide) (by rw [c27]; rfl) (by decide) ?_
      refine me_aload_n (q := 104) C dX11_bargain_103 rfl rfl rfl ?_
      obtain ⟨u28, eu28, hf⟩ := mm_rf_some hf
      obtain ⟨k29, hf⟩ := mm_ck_some hf
      refine me_getI (q := 107) C dX11_bargain_104 mf_X11_269 rfl eu28 k29 rfl ?_
      exact me_iret C hE (Nat.le_of_ble_eq_true rfl) (Nat.le_of_ble_eq_true rfl) rfl dX11_bargain_107 (mm_ri hf)
    have hf := mm_if_f c27 hf
    by_cases c30 : a2 = 8
    · have hf := mm_if_t c30 hf
      refine me_tabIn (q := 108) C dX11_bargain_13 (by rw [c30]; decide) (by rw [c30]; decide) (by rw [c30]; rfl) (by decide) ?_
      refine me_aload_n (q := 109) C dX11_bargain_108 rfl rfl rfl ?_
      obtain ⟨u31, eu31, hf⟩ := mm_rf_some hf
      obtain ⟨k32, hf⟩ := mm_ck_some hf
      refine me_getI (q := 112) C dX11_bargain_109 mf_X11_297 rfl eu31 k32 rfl ?_
      exact me_iret C hE (Nat.le_of_ble_eq_true rfl) (Nat.le_of_ble_eq_true rfl) rfl dX11_bargain_112 (mm_ri hf)
    have hf := mm_if_f c30 hf
    by_cases c33 : a2 = 9
    · have hf := mm_if_t c33 hf
      refine me_tabIn (q := 113) C dX11_bargain_13 (by rw [c33]; decide) (by rw [c33]; decide) (by rw [c33]; rfl) (by decide) ?_
      refine me_aload_n (q := 114) C dX11_bargain_113 rfl rfl rfl ?_
      obtain ⟨u34, eu34, hf⟩ := mm_rf_some hf
      obtain ⟨k35, hf⟩ := mm_ck_some hf
      refine me_getI (q := 117) C dX11_bargain_114 mf_X11_300 rfl eu34 k35 rfl ?_
      exact me_iret C hE (Nat.le_of_ble_eq_true rfl) (Nat.le_of_ble_eq_true rfl) rfl dX11_bargain_117 (mm_ri hf)
    have hf := mm_if_f c33 hf
    refine me_tabOut (q := 118) C dX11_bargain_13 ?_ (by decide) ?_
    · by_cases hz : a2.toInt < 0 ∨ 9 < a2.toInt
      · exact hz
      · exfalso
        have hw : a2.toInt = 0 ∨ a2.toInt = 1 ∨ a2.toInt = 2 ∨ a2.toInt = 3 ∨ a2.toInt = 4 ∨ a2.toInt = 5 ∨ a2.toInt = 6 ∨ a2.toInt = 7 ∨ a2.toInt = 8 ∨ a2.toInt = 9 := by omega
        rcases hw with hw | hw | hw | hw | hw | hw | hw | hw | hw | hw
        · exact c6 (mm_sw hw)
        · exact c9 (mm_sw hw)
        · exact c12 (mm_sw hw)
        · exact c15 (mm_sw hw)
        · exact c18 (mm_sw hw)
        · exact c21 (mm_sw hw)
        · exact c24 (mm_sw hw)
        · exact c27 (mm_sw hw)
        · exact c30 (mm_sw hw)
        · exact c33 (mm_sw hw)
    · refine me_iconst (v := (-1 : Int32)) (q := 119) C dX11_bargain_118 (by decide) rfl ?_
      exact me_iret C hE (Nat.le_of_ble_eq_true rfl) (Nat.le_of_ble_eq_true rfl) rfl dX11_bargain_119 (mm_ri hf)
  · have hf := mm_if_f c5 hf
    refine me_iconst (v := (-1 : Int32)) (q := 11) C dX11_bargain_10 (by decide) rfl ?_
    exact me_iret C hE (Nat.le_of_ble_eq_true rfl) (Nat.le_of_ble_eq_true rfl) rfl dX11_bargain_11 (mm_ri hf)
set_option maxRecDepth 100000 in
set_option maxHeartbeats 4000000 in
theorem cX11_surety_ok (l : Launch) {a0 : Nat} {a1 : Int32} {a2 : Int32} {h : mm_H} {r : Int32} {h1 : mm_H} (hf : fX11_surety a0 a1 a2 h = some (r, h1)) : mm_M l yX11_surety cX11_surety 4 (some .int) 10 0 0 [vR (some a0), vI a1, vI a2] h (some (vI r)) h1 := by
  refine mm_enter (lv := [some (vR (some a0)), some (vI a1), some (vI a2), none]) (by decide) rfl (Nat.le_of_ble_eq_true rfl) ?_
  intro X hl C hE
  subst hl
  unfold fX11_surety at hf
  refine me_aload_n (q := 1) C dX11_surety_0 rfl rfl rfl ?_
  refine me_iload_n (q := 2) C dX11_surety_1 rfl rfl rfl ?_
  obtain ⟨k1, hf⟩ := mm_ck_some hf
  obtain ⟨v2, g3, e4, hf⟩ := mm_cl_some hf
  refine me_callV (q := 5) (c2 := 0) (s2 := 0) (st := []) C (cX11_bargainAt_ok _ e4) mt_X11_272 mv_X11_bargainAt rfl (by decide) dX11_surety_2 rfl k1 rfl rfl rfl (Nat.le_of_ble_eq_true rfl) rfl (Nat.le_of_ble_eq_true rfl) rfl (Nat.le_of_ble_eq_true rfl) rfl rfl ?_
  refine me_astore_n (q := 6) (lv2 := [some (vR (some a0)), some (vI a1), some (vI a2), some (vR v2)]) C dX11_surety_5 rfl (Nat.le_of_ble_eq_true rfl) rfl rfl rfl ?_
  refine me_aload_n (q := 7) C dX11_surety_6 rfl rfl rfl ?_
  refine me_ifnull (q2 := 25) (q := 10) C dX11_surety_7 (by decide) rfl (fun c5 => ?_) (fun c5 => ?_)
  · have hf := mm_if_t c5 hf
    refine me_iconst (v := (-1 : Int32)) (q := 26) C dX11_surety_25 (by decide) rfl ?_
    exact me_iret C hE (Nat.le_of_ble_eq_true rfl) (Nat.le_of_ble_eq_true rfl) rfl dX11_surety_26 (mm_ri hf)
  · have hf := mm_if_f c5 hf
    refine me_aload_n (q := 11) C dX11_surety_10 rfl rfl rfl ?_
    obtain ⟨u6, eu6, hf⟩ := mm_rf_some hf
    obtain ⟨k7, hf⟩ := mm_ck_some hf
    refine me_getI (q := 14) C dX11_surety_11 mf_X11_288 rfl eu6 k7 rfl ?_
    refine me_if_eq (q2 := 25) (q := 17) C dX11_surety_14 (by decide) rfl (fun c8 => ?_) (fun c8 => ?_)
    · have hf := mm_if_t c8 hf
      refine me_iconst (v := (-1 : Int32)) (q := 26) C dX11_surety_25 (by decide) rfl ?_
      exact me_iret C hE (Nat.le_of_ble_eq_true rfl) (Nat.le_of_ble_eq_true rfl) rfl dX11_surety_26 (mm_ri hf)
    · have hf := mm_if_f c8 hf
      refine me_aload_n (q := 18) C dX11_surety_17 rfl rfl rfl ?_
      refine me_getI (q := 21) C dX11_surety_18 mf_X11_294 rfl eu6 k7 rfl ?_
      refine me_iconst (v := (3 : Int32)) (q := 22) C dX11_surety_21 (by decide) rfl ?_
      refine me_icmp_lt (q2 := 27) (q := 25) C dX11_surety_22 (by decide) rfl (fun c9 => ?_) (fun c9 => ?_)
      · have hf := mm_if_t c9 hf
        refine me_aload_n (q := 28) C dX11_surety_27 rfl rfl rfl ?_
        refine me_iload_n (q := 29) C dX11_surety_28 rfl rfl rfl ?_
        obtain ⟨k10, hf⟩ := mm_ck_some hf
        obtain ⟨v11, g12, e13, hf⟩ := mm_cl_some hf
        refine me_callV (q := 32) (c2 := 0) (s2 := 0) (st := []) C (cX11_manThere_ok _ e13) mt_X11_107 mv_X11_manThere rfl (by decide) dX11_surety_29 rfl k10 rfl rfl rfl (Nat.le_of_ble_eq_true rfl) rfl (Nat.le_of_ble_eq_true rfl) rfl (Nat.le_of_ble_eq_true rfl) rfl rfl ?_
        refine me_ifnull (q2 := 59) (q := 35) C dX11_surety_32 (by decide) rfl (fun c14 => ?_) (fun c14 => ?_)
        · have hf := mm_if_t c14 hf
          refine me_iconst (v := (-1 : Int32)) (q := 60) C dX11_surety_59 (by decide) rfl ?_
          exact me_iret C hE (Nat.le_of_ble_eq_true rfl) (Nat.le_of_ble_eq_true rfl) rfl dX11_surety_60 (mm_ri hf)
        · have hf := mm_if_f c14 hf
          refine me_iload_n (q := 36) C dX11_surety_35 rfl rfl rfl ?_
          refine me_aload_n (q := 37) C dX11_surety_36 rfl rfl rfl ?_
          obtain ⟨k15, hf⟩ := mm_ck_some hf
          refine me_getI (q := 40) C dX11_surety_37 mf_X11_276 rfl eu6 k15 rfl ?_
          refine me_icmp_eq (q2 := 59) (q := 43) C dX11_surety_40 (by decide) rfl (fun c16 => ?_) (fun c16 => ?_)
          · have hf := mm_if_t c16 hf
            refine me_iconst (v := (-1 : Int32)) (q := 60) C dX11_surety_59 (by decide) rfl ?_
            exact me_iret C hE (Nat.le_of_ble_eq_true rfl) (Nat.le_of_ble_eq_true rfl) rfl dX11_surety_60 (mm_ri hf)
          · have hf := mm_if_f c16 hf
            refine me_iload_n (q := 44) C dX11_surety_43 rfl rfl rfl ?_
            refine me_aload_n (q := 45) C dX11_surety_44 rfl rfl rfl ?_
            refine me_getI (q := 48) C dX11_surety_45 mf_X11_279 rfl eu6 k15 rfl ?_
            refine me_icmp_eq (q2 := 59) (q := 51) C dX11_surety_48 (by decide) rfl (fun c17 => ?_) (fun c17 => ?_)
            · have hf := mm_if_t c17 hf
              refine me_iconst (v := (-1 : Int32)) (q := 60) C dX11_surety_59 (by decide) rfl ?_
              exact me_iret C hE (Nat.le_of_ble_eq_true rfl) (Nat.le_of_ble_eq_true rfl) rfl dX11_surety_60 (mm_ri hf)
            · have hf := mm_if_f c17 hf
              refine me_aload_n (q := 52) C dX11_surety_51 rfl rfl rfl ?_
              refine me_iload_n (q := 53) C dX11_surety_52 rfl rfl rfl ?_
              obtain ⟨v18, g19, e20, hf⟩ := mm_cl_some hf
              refine me_callV (q := 56) (c2 := 0) (s2 := 0) (st := []) C (cX0_hasSurety_ok _ e20) mt_X11_303 mv_X0_hasSurety rfl (by decide) dX11_surety_53 eu6 k15 rfl rfl rfl (Nat.le_of_ble_eq_true rfl) rfl (Nat.le_of_ble_eq_true rfl) rfl (Nat.le_of_ble_eq_true rfl) rfl rfl ?_
              refine me_if_eq (q2 := 61) (q := 59) C dX11_surety_56 (by decide) rfl (fun c21 => ?_) (fun c21 => ?_)
              · have hf := mm_if_t c21 hf
                refine me_aload_n (q := 62) C dX11_surety_61 rfl rfl rfl ?_
                refine me_iload_n (q := 63) C dX11_surety_62 rfl rfl rfl ?_
                obtain ⟨k22, hf⟩ := mm_ck_some hf
                obtain ⟨_, g23, e24, hf⟩ := mm_cl_some hf
                refine me_callV (q := 66) (c2 := 0) (s2 := 0) (st := []) C (cX0_addSurety_ok _ e24) mt_X11_306 mv_X0_addSurety rfl (by decide) dX11_surety_63 eu6 k22 rfl rfl rfl (Nat.le_of_ble_eq_true rfl) rfl (Nat.le_of_ble_eq_true rfl) rfl (Nat.le_of_ble_eq_true rfl) rfl rfl ?_
                refine me_aload_n (q := 67) C dX11_surety_66 rfl rfl rfl ?_
                obtain ⟨k25, hf⟩ := mm_ck_some hf
                refine me_getI (q := 70) C dX11_surety_67 mf_X11_294 rfl eu6 k25 rfl ?_
                exact me_iret C hE (Nat.le_of_ble_eq_true rfl) (Nat.le_of_ble_eq_true rfl) rfl dX11_surety_70 (mm_ri hf)
              · have hf := mm_if_f c21 hf
                refine me_iconst (v := (-1 : Int32)) (q := 60) C dX11_surety_59 (by decide) rfl ?_
                exact me_iret C hE (Nat.le_of_ble_eq_true rfl) (Nat.le_of_ble_eq_true rfl) rfl dX11_surety_60 (mm_ri hf)
      · have hf := mm_if_f c9 hf
        refine me_iconst (v := (-1 : Int32)) (q := 26) C dX11_surety_25 (by decide) rfl ?_
        exact me_iret C hE (Nat.le_of_ble_eq_true rfl) (Nat.le_of_ble_eq_true rfl) rfl dX11_surety_26 (mm_ri hf)
set_option maxRecDepth 100000 in
set_option maxHeartbeats 4000000 in
theorem cX11_sureties_ok (l : Launch) {a0 : Nat} {a1 : Int32} {a2 : Int32} {a3 : Int32} {h : mm_H} {r : Int32} {h1 : mm_H} (hf : fX11_sureties a0 a1 a2 a3 h = some (r, h1)) : mm_M l yX11_sureties cX11_sureties 5 (some .int) 10 0 0 [vR (some a0), vI a1, vI a2, vI a3] h (some (vI r)) h1 := by
  refine mm_enter (lv := [some (vR (some a0)), some (vI a1), some (vI a2), some (vI a3), none]) (by decide) rfl (Nat.le_of_ble_eq_true rfl) ?_
  intro X hl C hE
  subst hl
  unfold fX11_sureties at hf
  refine me_aload_n (q := 1) C dX11_sureties_0 rfl rfl rfl ?_
  refine me_iload_n (q := 2) C dX11_sureties_1 rfl rfl rfl ?_
  obtain ⟨k1, hf⟩ := mm_ck_some hf
  obtain ⟨v2, g3, e4, hf⟩ := mm_cl_some hf
  refine me_callV (q := 5) (c2 := 0) (s2 := 0) (st := []) C (cX11_bargainAt_ok _ e4) mt_X11_272 mv_X11_bargainAt rfl (by decide) dX11_sureties_2 rfl k1 rfl rfl rfl (Nat.le_of_ble_eq_true rfl) rfl (Nat.le_of_ble_eq_true rfl) rfl (Nat.le_of_ble_eq_true rfl) rfl rfl ?_
  refine me_astore (q := 7) (lv2 := [some (vR (some a0)), some (vI a1), some (vI a2), some (vI a3), some (vR v2)]) C dX11_sureties_5 (Nat.le_of_ble_eq_true rfl) rfl rfl rfl ?_
  refine me_aload (q := 9) C dX11_sureties_7 rfl rfl ?_
  refine me_ifnull (q2 := 25) (q := 12) C dX11_sureties_9 (by decide) rfl (fun c5 => ?_) (fun c5 => ?_)
  · have hf := mm_if_t c5 hf
    refine me_iconst (v := (-1 : Int32)) (q := 26) C dX11_sureties_25 (by decide) rfl ?_
    exact me_iret C hE (Nat.le_of_ble_eq_true rfl) (Nat.le_of_ble_eq_true rfl) rfl dX11_sureties_26 (mm_ri hf)
  · have hf := mm_if_f c5 hf
    refine me_iload_n (q := 13) C dX11_sureties_12 rfl rfl rfl ?_
    refine me_if_lt (q2 := 25) (q := 16) C dX11_sureties_13 (by decide) rfl (fun c6 => ?_) (fun c6 => ?_)
    · have hf := mm_if_t c6 hf
      refine me_iconst (v := (-1 : Int32)) (q := 26) C dX11_sureties_25 (by decide) rfl ?_
      exact me_iret C hE (Nat.le_of_ble_eq_true rfl) (Nat.le_of_ble_eq_true rfl) rfl dX11_sureties_26 (mm_ri hf)
    · have hf := mm_if_f c6 hf
      refine me_iload_n (q := 17) C dX11_sureties_16 rfl rfl rfl ?_
      refine me_aload (q := 19) C dX11_sureties_17 rfl rfl ?_
      obtain ⟨u7, eu7, hf⟩ := mm_rf_some hf
      obtain ⟨k8, hf⟩ := mm_ck_some hf
      refine me_getI (q := 22) C dX11_sureties_19 mf_X11_294 rfl eu7 k8 rfl ?_
      refine me_icmp_lt (q2 := 27) (q := 25) C dX11_sureties_22 (by decide) rfl (fun c9 => ?_) (fun c9 => ?_)
      · have hf := mm_if_t c9 hf
        refine me_iload_n (q := 28) C dX11_sureties_27 rfl rfl rfl ?_
        by_cases c10 : a3 = 0
        · have hf := mm_if_t c10 hf
          refine me_tabIn (q := 56) C dX11_sureties_28 (by rw [c10]; decide) (by rw [c10]; decide) (by rw [c10]; rfl) (by decide) ?_
          refine me_aload (q := 58) C dX11_sureties_56 rfl rfl ?_
          refine me_getR (q := 61) C dX11_sureties_58 mf_X11_309 rfl eu7 k8 rfl ?_
          refine me_iload_n (q := 62) C dX11_sureties_61 rfl rfl rfl ?_
          obtain ⟨u11, eu11, hf⟩ := mm_rf_some hf
          obtain ⟨k12, hf⟩ := mm_ck_some hf
          obtain ⟨k13, hf⟩ := mm_ck_some hf
          refine me_iald (q := 63) C dX11_sureties_62 eu11 k12 k13 rfl ?_
          exact me_iret C hE (Nat.le_of_ble_eq_true rfl) (Nat.le_of_ble_eq_true rfl) rfl dX11_sureties_63 (mm_ri hf)
        have hf := mm_if_f c10 hf
        by_cases c14 : a3 = 1
        · have hf := mm_if_t c14 hf
          refine me_tabIn (q := 64) C dX11_sureties_28 (by rw [c14]; decide) (by rw [c14]; decide) (by rw [c14]; rfl) (by decide) ?_
          refine me_aload (q := 66) C dX11_sureties_64 rfl rfl ?_
          refine me_getR (q := 69) C dX11_sureties_66 mf_X11_312 rfl eu7 k8 rfl ?_
          refine me_iload_n (q := 70) C dX11_sureties_69 rfl rfl rfl ?_
          obtain ⟨u15, eu15, hf⟩ := mm_rf_some hf
          obtain ⟨k16, hf⟩ := mm_ck_some hf
          obtain ⟨k17, hf⟩ := mm_ck_some hf
          refine me_iald (q := 71) C dX11_sureties_70 eu15 k16 k17 rfl ?_
          exact me_iret C hE (Nat.le_of_ble_eq_true rfl) (Nat.le_of_ble_eq_true rfl) rfl dX11_sureties_71 (mm_ri hf)
        have hf := mm_if_f c14 hf
        by_cases c18 : a3 = 2
        · have hf := mm_if_t c18 hf
          refine me_tabIn (q := 72) C dX11_sureties_28 (by rw [c18]; decide) (by rw [c18]; decide) (by rw [c18]; rfl) (by decide) ?_
          refine me_aload (q := 74) C dX11_sureties_72 rfl rfl ?_
          refine me_getR (q := 77) C dX11_sureties_74 mf_X11_315 rfl eu7 k8 rfl ?_
          refine me_iload_n (q := 78) C dX11_sureties_77 rfl rfl rfl ?_
          obtain ⟨u19, eu19, hf⟩ := mm_rf_some hf
          obtain ⟨k20, hf⟩ := mm_ck_some hf
          obtain ⟨k21, hf⟩ := mm_ck_some hf
          refine me_iald (q := 79) C dX11_sureties_78 eu19 k20 k21 rfl ?_
          exact me_iret C hE (Nat.le_of_ble_eq_true rfl) (Nat.le_of_ble_eq_true rfl) rfl dX11_sureties_79 (mm_ri hf)
        have hf := mm_if_f c18 hf
        refine me_tabOut (q := 80) C dX11_sureties_28 ?_ (by decide) ?_
        · by_cases hz : a3.toInt < 0 ∨ 2 < a3.toInt
          · exact hz
          · exfalso
            have hw : a3.toInt = 0 ∨ a3.toInt = 1 ∨ a3.toInt = 2 := by omega
            rcases hw with hw | hw | hw
            · exact c10 (mm_sw hw)
            · exact c14 (mm_sw hw)
            · exact c18 (mm_sw hw)
        · refine me_iconst (v := (-1 : Int32)) (q := 81) C dX11_sureties_80 (by decide) rfl ?_
          exact me_iret C hE (Nat.le_of_ble_eq_true rfl) (Nat.le_of_ble_eq_true rfl) rfl dX11_sureties_81 (mm_ri hf)
      · have hf := mm_if_f c9 hf
        refine me_iconst (v := (-1 : Int32)) (q := 26) C dX11_sureties_25 (by decide) rfl ?_
        exact me_iret C hE (Nat.le_of_ble_eq_true rfl) (Nat.le_of_ble_eq_true rfl) rfl dX11_sureties_26 (mm_ri hf)
set_option maxRecDepth 100000 in
set_option maxHeartbeats 4000000 in
theorem cX11_pay_ok (l : Launch) {a0 : Nat} {a1 : Int32} {a2 : Int32} {h : mm_H} {r : Int32} {h1 : mm_H} (hf : fX11_pay a0 a1 a2 h = some (r, h1)) : mm_M l yX11_pay cX11_pay 4 (some .int) 12 0 0 [vR (some a0), vI a1, vI a2] h (some (vI r)) h1 := by
  refine mm_enter (lv := [some (vR (some a0)), some (vI a1), some (vI a2), none]) (by decide) rfl (Nat.le_of_ble_eq_true rfl) ?_
  intro X hl C hE
  subst hl
  unfold fX11_pay at hf
  refine me_aload_n (q := 1) C dX11_pay_0 rfl rfl rfl ?_
  refine me_iload_n (q := 2) C dX11_pay_1 rfl rfl rfl ?_
  obtain ⟨k1, hf⟩ := mm_ck_some hf
  obtain ⟨v2, g3, e4, hf⟩ := mm_cl_some hf
  refine me_callV (q := 5) (c2 := 0) (s2 := 0) (st := []) C (cX11_bargainAt_ok _ e4) mt_X11_272 mv_X11_bargainAt rfl (by decide) dX11_pay_2 rfl k1 rfl rfl rfl (Nat.le_of_ble_eq_true rfl) rfl (Nat.le_of_ble_eq_true rfl) rfl (Nat.le_of_ble_eq_true rfl) rfl rfl ?_
  refine me_astore_n (q := 6) (lv2 := [some (vR (some a0)), some (vI a1), some (vI a2), some (vR v2)]) C dX11_pay_5 rfl (Nat.le_of_ble_eq_true rfl) rfl rfl rfl ?_
  refine me_aload_n (q := 7) C dX11_pay_6 rfl rfl rfl ?_
  refine me_ifnull (q2 := 22) (q := 10) C dX11_pay_7 (by decide) rfl (fun c5 => ?_) (fun c5 => ?_)
  · have hf := mm_if_t c5 hf
    refine me_iconst (v := (-1 : Int32)) (q := 23) C dX11_pay_22 (by decide) rfl ?_
    exact me_iret C hE (Nat.le_of_ble_eq_true rfl) (Nat.le_of_ble_eq_true rfl) rfl dX11_pay_23 (mm_ri hf)
  · have hf := mm_if_f c5 hf
    refine me_iload_n (q := 11) C dX11_pay_10 rfl rfl rfl ?_
    refine me_iconst (v := (1 : Int32)) (q := 12) C dX11_pay_11 (by decide) rfl ?_
    refine me_icmp_lt (q2 := 22) (q := 15) C dX11_pay_12 (by decide) rfl (fun c6 => ?_) (fun c6 => ?_)
    · have hf := mm_if_t c6 hf
      refine me_iconst (v := (-1 : Int32)) (q := 23) C dX11_pay_22 (by decide) rfl ?_
      exact me_iret C hE (Nat.le_of_ble_eq_true rfl) (Nat.le_of_ble_eq_true rfl) rfl dX11_pay_23 (mm_ri hf)
    · have hf := mm_if_f c6 hf
      refine me_aload_n (q := 16) C dX11_pay_15 rfl rfl rfl ?_
      obtain ⟨u7, eu7, hf⟩ := mm_rf_some hf
      obtain ⟨k8, hf⟩ := mm_ck_some hf
      refine me_getI (q := 19) C dX11_pay_16 mf_X11_288 rfl eu7 k8 rfl ?_
      refine me_if_ne (q2 := 24) (q := 22) C dX11_pay_19 (by decide) rfl (fun c9 => ?_) (fun c9 => ?_)
      · have hf := mm_if_t c9 hf
        refine me_aload_n (q := 25) C dX11_pay_24 rfl rfl rfl ?_
        refine me_aload_n (q := 26) C dX11_pay_25 rfl rfl rfl ?_
        refine me_iload_n (q := 27) C dX11_pay_26 rfl rfl rfl ?_
        obtain ⟨k10, hf⟩ := mm_ck_some hf
        obtain ⟨v11, g12, e13, hf⟩ := mm_cl_some hf
        refine me_callV (q := 30) (c2 := 0) (s2 := 0) (st := []) C (cX11_payOwed_ok _ e13) mt_X11_261 mv_X11_payOwed rfl (by decide) dX11_pay_27 rfl k10 (by rw [eu7]; rfl) rfl rfl (Nat.le_of_ble_eq_true rfl) rfl (Nat.le_of_ble_eq_true rfl) rfl (Nat.le_of_ble_eq_true rfl) rfl rfl ?_
        exact me_iret C hE (Nat.le_of_ble_eq_true rfl) (Nat.le_of_ble_eq_true rfl) rfl dX11_pay_30 (mm_ri hf)
      · have hf := mm_if_f c9 hf
        refine me_iconst (v := (-1 : Int32)) (q := 23) C dX11_pay_22 (by decide) rfl ?_
        exact me_iret C hE (Nat.le_of_ble_eq_true rfl) (Nat.le_of_ble_eq_true rfl) rfl dX11_pay_23 (mm_ri hf)
set_option maxRecDepth 100000 in
set_option maxHeartbeats 4000000 in
theorem cX11_callSurety_ok (l : Launch) {a0 : Nat} {a1 : Nat} {a2 : Int32} {h : mm_H} {r : Int32} {h1 : mm_H} (hf : fX11_callSurety a0 a1 a2 h = some (r, h1)) : mm_M l yX11_callSurety cX11_callSurety 6 (some .int) 10 0 0 [vR (some a0), vR (some a1), vI a2] h (some (vI r)) h1 := by
  refine mm_enter (lv := [some (vR (some a0)), some (vR (some a1)), some (vI a2), none, none, none]) (by decide) rfl (Nat.le_of_ble_eq_true rfl) ?_
  intro X hl C hE
  subst hl
  unfold fX11_callSurety at hf
  refine me_aload_n (q := 1) C dX11_callSurety_0 rfl rfl rfl ?_
  obtain ⟨k1, hf⟩ := mm_ck_some hf
  refine me_getI (q := 4) C dX11_callSurety_1 mf_X11_294 rfl rfl k1 rfl ?_
  refine me_iload_n (q := 5) C dX11_callSurety_4 rfl rfl rfl ?_
  refine me_isub (q := 6) C dX11_callSurety_5 rfl ?_
  obtain ⟨v2, ev2, hf⟩ := mm_lt_some hf
  refine me_topI ev2 ?_
  refine me_istore_n (q := 7) (lv2 := [some (vR (some a0)), some (vR (some a1)), some (vI a2), some (vI v2), none, none]) C dX11_callSurety_6 rfl (Nat.le_of_ble_eq_true rfl) rfl rfl rfl ?_
  refine me_iload_n (q := 8) C dX11_callSurety_7 rfl rfl rfl ?_
  refine me_iconst (v := (1 : Int32)) (q := 9) C dX11_callSurety_8 (by decide) rfl ?_
  refine me_icmp_ge (q2 := 14) (q := 12) C dX11_callSurety_9 (by decide) rfl (fun c3 => ?_) (fun c3 => ?_)
  · have hf := mm_if_t c3 hf
    refine me_aload_n (q := 15) C dX11_callSurety_14 rfl rfl rfl ?_
    refine me_getI (q := 18) C dX11_callSurety_15 mf_X11_288 rfl rfl k1 rfl ?_
    refine me_iload_n (q := 19) C dX11_callSurety_18 rfl rfl rfl ?_
    refine me_iadd (q := 20) C dX11_callSurety_19 rfl ?_
    refine me_iconst (v := (1 : Int32)) (q := 21) C dX11_callSurety_20 (by decide) rfl ?_
    refine me_isub (q := 22) C dX11_callSurety_21 rfl ?_
    refine me_iload_n (q := 23) C dX11_callSurety_22 rfl rfl rfl ?_
    obtain ⟨k4, hf⟩ := mm_ck_some hf
    refine me_idiv (q := 24) C dX11_callSurety_23 k4 rfl ?_
    obtain ⟨v5, ev5, hf⟩ := mm_lt_some hf
    refine me_topI ev5 ?_
    refine me_istore (q := 26) (lv2 := [some (vR (some a0)), some (vR (some a1)), some (vI a2), some (vI v2), some (vI v5), none]) C dX11_callSurety_24 (Nat.le_of_ble_eq_true rfl) rfl rfl rfl ?_
    refine me_aload_n (q := 27) C dX11_callSurety_26 rfl rfl rfl ?_
    obtain ⟨k6, hf⟩ := mm_ck_some hf
    refine me_getR (q := 30) C dX11_callSurety_27 mf_X11_10 rfl rfl k6 rfl ?_
    refine me_aload_n (q := 31) C dX11_callSurety_30 rfl rfl rfl ?_
    refine me_getR (q := 34) C dX11_callSurety_31 mf_X11_309 rfl rfl k1 rfl ?_
    refine me_iload_n (q := 35) C dX11_callSurety_34 rfl rfl rfl ?_
    obtain ⟨u7, eu7, hf⟩ := mm_rf_some hf
    obtain ⟨k8, hf⟩ := mm_ck_some hf
    obtain ⟨k9, hf⟩ := mm_ck_some hf
    refine me_iald (q := 36) C dX11_callSurety_35 eu7 k8 k9 rfl ?_
    obtain ⟨u10, eu10, hf⟩ := mm_rf_some hf
    obtain ⟨k11, hf⟩ := mm_ck_some hf
    obtain ⟨v12, g13, e14, hf⟩ := mm_cl_some hf
    refine me_callV (q := 39) (c2 := 0) (s2 := 0) (st := []) C (cJx4a65c_get_915e3_ok _ e14) mt_X11_151 mv_Jx4a65c_get_915e3 rfl (by decide) dX11_callSurety_36 eu10 k11 rfl rfl rfl (Nat.le_of_ble_eq_true rfl) rfl (Nat.le_of_ble_eq_true rfl) rfl (Nat.le_of_ble_eq_true rfl) rfl rfl ?_
    obtain ⟨u15, eu15, hf⟩ := mm_rf_some hf
    obtain ⟨k16, hf⟩ := mm_ck_some hf
    refine me_cast (q := 42) C dX11_callSurety_39 mk_X11_98 eu15 k16 rfl ?_
    refine me_iload (q := 44) C dX11_callSurety_42 rfl rfl ?_
    obtain ⟨v17, g18, e19, hf⟩ := mm_cl_some hf
    refine me_callV (q := 47) (c2 := 0) (s2 := 0) (st := []) C (cX7_spend_ok _ e19) mt_X11_131 mv_X7_spend rfl (by decide) dX11_callSurety_44 eu15 k16 rfl rfl rfl (Nat.le_of_ble_eq_true rfl) rfl (Nat.le_of_ble_eq_true rfl) rfl (Nat.le_of_ble_eq_true rfl) rfl rfl ?_
    refine me_istore (q := 49) (lv2 := [some (vR (some a0)), some (vR (some a1)), some (vI a2), some (vI v2), some (vI v5), some (vI v17)]) C dX11_callSurety_47 (Nat.le_of_ble_eq_true rfl) rfl rfl rfl ?_
    refine me_aload_n (q := 50) C dX11_callSurety_49 rfl rfl rfl ?_
    refine me_dup (q := 51) C dX11_callSurety_50 rfl rfl ?_
    obtain ⟨k20, hf⟩ := mm_ck_some hf
    refine me_getI (q := 54) C dX11_callSurety_51 mf_X11_288 rfl rfl k20 rfl ?_
    refine me_iload (q := 56) C dX11_callSurety_54 rfl rfl ?_
    refine me_isub (q := 57) C dX11_callSurety_56 rfl ?_
    obtain ⟨g21, eg21, hf⟩ := mm_lt_some hf
    refine me_putI (q := 60) C eg21 dX11_callSurety_57 mf_X11_288 mp_X11_1_6 rfl (by decide) rfl k20 rfl ?_
    refine me_aload_n (q := 61) C dX11_callSurety_60 rfl rfl rfl ?_
    refine me_getR (q := 64) C dX11_callSurety_61 mf_X11_312 rfl rfl (mm_kI eg21 k20) rfl ?_
    refine me_iload_n (q := 65) C dX11_callSurety_64 rfl rfl rfl ?_
    refine me_dup2_11 (q := 66) C dX11_callSurety_65 rfl rfl rfl ?_
    obtain ⟨u22, eu22, hf⟩ := mm_rf_some hf
    obtain ⟨k23, hf⟩ := mm_ck_some hf
    obtain ⟨k24, hf⟩ := mm_ck_some hf
    refine me_iald (q := 67) C dX11_callSurety_66 eu22 k23 k24 rfl ?_
    refine me_iload (q := 69) C dX11_callSurety_67 rfl rfl ?_
    refine me_iadd (q := 70) C dX11_callSurety_69 rfl ?_
    obtain ⟨k25, hf⟩ := mm_ck_some hf
    obtain ⟨g26, eg26, hf⟩ := mm_lt_some hf
    refine me_iastH (q := 71) C eg26 dX11_callSurety_70 eu22 k23 k25 rfl ?_
    refine me_aload_n (q := 72) C dX11_callSurety_71 rfl rfl rfl ?_
    refine me_aload_n (q := 73) C dX11_callSurety_72 rfl rfl rfl ?_
    refine me_getI (q := 76) C dX11_callSurety_73 mf_X11_300 rfl rfl (mm_kI eg26 (mm_kI eg21 k20)) rfl ?_
    refine me_aload_n (q := 77) C dX11_callSurety_76 rfl rfl rfl ?_
    obtain ⟨k27, hf⟩ := mm_ck_some hf
    refine me_getR (q := 80) C dX11_callSurety_77 mf_X11_10 rfl rfl k27 rfl ?_
    refine me_aload_n (q := 81) C dX11_callSurety_80 rfl rfl rfl ?_
    refine me_getI (q := 84) C dX11_callSurety_81 mf_X11_276 rfl rfl (mm_kI eg26 (mm_kI eg21 k20)) rfl ?_
    obtain ⟨u28, eu28, hf⟩ := mm_rf_some hf
    obtain ⟨k29, hf⟩ := mm_ck_some hf
    obtain ⟨v30, g31, e32, hf⟩ := mm_cl_some hf
    refine me_callV (q := 87) (c2 := 0) (s2 := 0) (st := [vI (mm_i g26 a1 8), vR (some a0)]) C (cJx4a65c_get_915e3_ok _ e32) mt_X11_151 mv_Jx4a65c_get_915e3 rfl (by decide) dX11_callSurety_84 eu28 k29 rfl rfl rfl (Nat.le_of_ble_eq_true rfl) rfl (Nat.le_of_ble_eq_true rfl) rfl (Nat.le_of_ble_eq_true rfl) rfl rfl ?_
    obtain ⟨u33, eu33, hf⟩ := mm_rf_some hf
    obtain ⟨k34, hf⟩ := mm_ck_some hf
    refine me_cast (q := 90) C dX11_callSurety_87 mk_X11_98 eu33 k34 rfl ?_
    refine me_getI (q := 93) C dX11_callSurety_90 mf_X11_121 rfl eu33 k34 rfl ?_
    refine me_iload (q := 95) C dX11_callSurety_93 rfl rfl ?_
    obtain ⟨k35, hf⟩ := mm_ck_some hf
    obtain ⟨_, g36, e37, hf⟩ := mm_cl_some hf
    refine me_callV (q := 98) (c2 := 0) (s2 := 0) (st := []) C (cX11_give_ok _ e37) mt_X11_134 mv_X11_give rfl (by decide) dX11_callSurety_95 rfl k35 rfl rfl rfl (Nat.le_of_ble_eq_true rfl) rfl (Nat.le_of_ble_eq_true rfl) rfl (Nat.le_of_ble_eq_true rfl) rfl rfl ?_
    refine me_iload (q := 100) C dX11_callSurety_98 rfl rfl ?_
    exact me_iret C hE (Nat.le_of_ble_eq_true rfl) (Nat.le_of_ble_eq_true rfl) rfl dX11_callSurety_100 (mm_ri hf)
  · have hf := mm_if_f c3 hf
    refine me_iconst (v := (0 : Int32)) (q := 13) C dX11_callSurety_12 (by decide) rfl ?_
    exact me_iret C hE (Nat.le_of_ble_eq_true rfl) (Nat.le_of_ble_eq_true rfl) rfl dX11_callSurety_13 (mm_ri hf)
set_option maxRecDepth 100000 in
set_option maxHeartbeats 4000000 in
theorem cX11_call_L43 {X : mm_X} (C : mm_C X cX11_call yX11_call 12 0 0) {r : Int32} {h1 : mm_H} (hE : mm_End X 0 0 (some .int) (some (vI r)) h1) {b0 : Nat} {b2 : Option Nat} (K68 : Int32 → mm_H → Option (Int32 × mm_H)) : ∀ (n : Nat) (x3 : Int32) (x4 : Int32) (h : mm_H), fX11_call_L43 b0 b2 K68 n x3 x4 h = some (r, h1) → (∀ (y3 : Int32) (h : mm_H), K68 y3 h = some (r, h1) → mm_E X h 0 0 68 [none, none, none, some (vI y3), none] []) → mm_E X h 0 0 43 [some (vR (some b0)), none, some (vR b2), some (vI x3), some (vI x4)] [] := by
  intro n
  induction n with
  | zero =>
    intro x3 x4 h hf
    exact absurd (show (none : Option (Int32 × mm_H)) = some (r, h1) from hf) (by simp)
  | succ n ih =>
    intro x3 x4 h hf hk68
    have hf : fX11_call_L43_b b0 b2 K68 (fX11_call_L43 b0 b2 K68 n) x3 x4 h = some (r, h1) := hf
    unfold fX11_call_L43_b at hf
    refine me_iload (q := 45) C dX11_call_43 rfl rfl ?_
    refine me_aload_n (q := 46) C dX11_call_45 rfl rfl rfl ?_
    obtain ⟨u14, eu14, hf⟩ := mm_rf_some hf
    obtain ⟨k15, hf⟩ := mm_ck_some hf
    refine me_getI (q := 49) C dX11_call_46 mf_X11_294 rfl eu14 k15 rfl ?_
    refine me_icmp_ge (q2 := 68) (q := 52) C dX11_call_49 (by decide) rfl (fun c16 => ?_) (fun c16 => ?_)
    · have hf := mm_if_t c16 hf
      refine me_mask [false, false, false, true, false] (lv2 := [none, none, none, some (vI x3), none]) rfl ?_
      exact hk68 _ _ hf
    · have hf := mm_if_f c16 hf
      refine me_iload_n (q := 53) C dX11_call_52 rfl rfl rfl ?_
      refine me_aload_n (q := 54) C dX11_call_53 rfl rfl rfl ?_
      refine me_aload_n (q := 55) C dX11_call_54 rfl rfl rfl ?_
      refine me_iload (q := 57) C dX11_call_55 rfl rfl ?_
      obtain ⟨k17, hf⟩ := mm_ck_some hf
      obtain ⟨v18, g19, e20, hf⟩ := mm_cl_some hf
      refine me_callV (q := 60) (c2 := 0) (s2 := 0) (st := [vI x3]) C (cX11_callSurety_ok _ e20) mt_X11_318 mv_X11_callSurety rfl (by decide) dX11_call_57 rfl k17 (by rw [eu14]; rfl) rfl rfl (Nat.le_of_ble_eq_true rfl) rfl (Nat.le_of_ble_eq_true rfl) rfl (Nat.le_of_ble_eq_true rfl) rfl rfl ?_
      refine me_iadd (q := 61) C dX11_call_60 rfl ?_
      obtain ⟨v21, ev21, hf⟩ := mm_lt_some hf
      refine me_topI ev21 ?_
      refine me_istore_n (q := 62) (lv2 := [some (vR (some b0)), none, some (vR b2), some (vI v21), some (vI x4)]) C dX11_call_61 rfl (Nat.le_of_ble_eq_true rfl) rfl rfl rfl ?_
      obtain ⟨v22, ev22, hf⟩ := mm_lt_some hf
      refine me_iinc (q := 65) (v := v22) (lv2 := [some (vR (some b0)), none, some (vR b2), some (vI v21), some (vI v22)]) C dX11_call_62 rfl (by rw [ev22]; rfl) (Nat.le_of_ble_eq_true rfl) rfl rfl rfl ?_
      refine me_goto (q := 43) C dX11_call_65 (by decide) ?_
      exact ih _ _ _ hf hk68
set_option maxRecDepth 100000 in
set_option maxHeartbeats 4000000 in
theorem cX11_call_ok (l : Launch) {a0 : Nat} {a1 : Int32} {h : mm_H} {r : Int32} {h1 : mm_H} (hf : fX11_call a0 a1 h = some (r, h1)) : mm_M l yX11_call cX11_call 5 (some .int) 12 0 0 [vR (some a0), vI a1] h (some (vI r)) h1 := by
  refine mm_enter (lv := [some (vR (some a0)), some (vI a1), none, none, none]) (by decide) rfl (Nat.le_of_ble_eq_true rfl) ?_
  intro X hl C hE
  subst hl
  unfold fX11_call at hf
  refine me_aload_n (q := 1) C dX11_call_0 rfl rfl rfl ?_
  refine me_iload_n (q := 2) C dX11_call_1 rfl rfl rfl ?_
  obtain ⟨k1, hf⟩ := mm_ck_some hf
  obtain ⟨v2, g3, e4, hf⟩ := mm_cl_some hf
  refine me_callV (q := 5) (c2 := 0) (s2 := 0) (st := []) C (cX11_bargainAt_ok _ e4) mt_X11_272 mv_X11_bargainAt rfl (by decide) dX11_call_2 rfl k1 rfl rfl rfl (Nat.le_of_ble_eq_true rfl) rfl (Nat.le_of_ble_eq_true rfl) rfl (Nat.le_of_ble_eq_true rfl) rfl rfl ?_
  refine me_astore_n (q := 6) (lv2 := [some (vR (some a0)), some (vI a1), some (vR v2), none, none]) C dX11_call_5 rfl (Nat.le_of_ble_eq_true rfl) rfl rfl rfl ?_
  refine me_aload_n (q := 7) C dX11_call_6 rfl rfl rfl ?_
  refine me_ifnull (q2 := 28) (q := 10) C dX11_call_7 (by decide) rfl (fun c5 => ?_) (fun c5 => ?_)
  · have hf := mm_if_t c5 hf
    refine me_iconst (v := (-1 : Int32)) (q := 29) C dX11_call_28 (by decide) rfl ?_
    exact me_iret C hE (Nat.le_of_ble_eq_true rfl) (Nat.le_of_ble_eq_true rfl) rfl dX11_call_29 (mm_ri hf)
  · have hf := mm_if_f c5 hf
    refine me_aload_n (q := 11) C dX11_call_10 rfl rfl rfl ?_
    obtain ⟨u6, eu6, hf⟩ := mm_rf_some hf
    obtain ⟨k7, hf⟩ := mm_ck_some hf
    refine me_getI (q := 14) C dX11_call_11 mf_X11_288 rfl eu6 k7 rfl ?_
    refine me_if_eq (q2 := 28) (q := 17) C dX11_call_14 (by decide) rfl (fun c8 => ?_) (fun c8 => ?_)
    · have hf := mm_if_t c8 hf
      refine me_iconst (v := (-1 : Int32)) (q := 29) C dX11_call_28 (by decide) rfl ?_
      exact me_iret C hE (Nat.le_of_ble_eq_true rfl) (Nat.le_of_ble_eq_true rfl) rfl dX11_call_29 (mm_ri hf)
    · have hf := mm_if_f c8 hf
      refine me_aload_n (q := 18) C dX11_call_17 rfl rfl rfl ?_
      refine me_getI (q := 21) C dX11_call_18 mf_X11_291 rfl eu6 k7 rfl ?_
      refine me_aload_n (q := 22) C dX11_call_21 rfl rfl rfl ?_
      obtain ⟨k9, hf⟩ := mm_ck_some hf
      refine me_getI (q := 25) C dX11_call_22 mf_X11_75 rfl rfl k9 rfl ?_
      refine me_icmp_lt (q2 := 30) (q := 28) C dX11_call_25 (by decide) rfl (fun c10 => ?_) (fun c10 => ?_)
      · have hf := mm_if_t c10 hf
        refine me_aload_n (q := 31) C dX11_call_30 rfl rfl rfl ?_
        refine me_aload_n (q := 32) C dX11_call_31 rfl rfl rfl ?_
        refine me_aload_n (q := 33) C dX11_call_32 rfl rfl rfl ?_
        refine me_getI (q := 36) C dX11_call_33 mf_X11_288 rfl eu6 k7 rfl ?_
        obtain ⟨v11, g12, e13, hf⟩ := mm_cl_some hf
        refine me_callV (q := 39) (c2 := 0) (s2 := 0) (st := []) C (cX11_payOwed_ok _ e13) mt_X11_261 mv_X11_payOwed rfl (by decide) dX11_call_36 rfl k9 (by rw [eu6]; rfl) rfl rfl (Nat.le_of_ble_eq_true rfl) rfl (Nat.le_of_ble_eq_true rfl) rfl (Nat.le_of_ble_eq_true rfl) rfl rfl ?_
        refine me_istore_n (q := 40) (lv2 := [some (vR (some a0)), some (vI a1), some (vR v2), some (vI v11), none]) C dX11_call_39 rfl (Nat.le_of_ble_eq_true rfl) rfl rfl rfl ?_
        refine me_iconst (v := (0 : Int32)) (q := 41) C dX11_call_40 (by decide) rfl ?_
        refine me_istore (q := 43) (lv2 := [some (vR (some a0)), some (vI a1), some (vR v2), some (vI v11), some (vI (0 : Int32))]) C dX11_call_41 (Nat.le_of_ble_eq_true rfl) rfl rfl rfl ?_
        refine me_mask [true, false, true, true, true] (lv2 := [some (vR (some a0)), none, some (vR v2), some (vI v11), some (vI (0 : Int32))]) rfl ?_
        refine cX11_call_L43 C hE _ _ _ _ _ hf ?_
        · intro z23 g24 hf
          refine me_iload_n (q := 69) C dX11_call_68 rfl rfl rfl ?_
          exact me_iret C hE (Nat.le_of_ble_eq_true rfl) (Nat.le_of_ble_eq_true rfl) rfl dX11_call_69 (mm_ri hf)
      · have hf := mm_if_f c10 hf
        refine me_iconst (v := (-1 : Int32)) (q := 29) C dX11_call_28 (by decide) rfl ?_
        exact me_iret C hE (Nat.le_of_ble_eq_true rfl) (Nat.le_of_ble_eq_true rfl) rfl dX11_call_29 (mm_ri hf)
set_option maxRecDepth 100000 in
set_option maxHeartbeats 4000000 in
theorem cX11_claim_ok (l : Launch) {a0 : Nat} {a1 : Int32} {a2 : Int32} {a3 : Int32} {h : mm_H} {r : Int32} {h1 : mm_H} (hf : fX11_claim a0 a1 a2 a3 h = some (r, h1)) : mm_M l yX11_claim cX11_claim 5 (some .int) 12 0 0 [vR (some a0), vI a1, vI a2, vI a3] h (some (vI r)) h1 := by
  refine mm_enter (lv := [some (vR (some a0)), some (vI a1), some (vI a2), some (vI a3), none]) (by decide) rfl (Nat.le_of_ble_eq_true rfl) ?_
  intro X hl C hE
  subst hl
  unfold fX11_claim at hf
  refine me_aload_n (q := 1) C dX11_claim_0 rfl rfl rfl ?_
  refine me_iload_n (q := 2) C dX11_claim_1 rfl rfl rfl ?_
  obtain ⟨k1, hf⟩ := mm_ck_some hf
  obtain ⟨v2, g3, e4, hf⟩ := mm_cl_some hf
  refine me_callV (q := 5) (c2 := 0) (s2 := 0) (st := []) C (cX11_bargainAt_ok _ e4) mt_X11_272 mv_X11_bargainAt rfl (by decide) dX11_claim_2 rfl k1 rfl rfl rfl (Nat.le_of_ble_eq_true rfl) rfl (Nat.le_of_ble_eq_true rfl) rfl (Nat.le_of_ble_eq_true rfl) rfl rfl ?_
  refine me_astore (q := 7) (lv2 := [some (vR (some a0)), some (vI a1), some (vI a2), some (vI a3), some (vR v2)]) C dX11_claim_5 (Nat.le_of_ble_eq_true rfl) rfl rfl rfl ?_
  refine me_aload (q := 9) C dX11_claim_7 rfl rfl ?_
  refine me_ifnull (q2 := 40) (q := 12) C dX11_claim_9 (by decide) rfl (fun c5 => ?_) (fun c5 => ?_)
  · have hf := mm_if_t c5 hf
    refine me_iconst (v := (-1 : Int32)) (q := 41) C dX11_claim_40 (by decide) rfl ?_
    exact me_iret C hE (Nat.le_of_ble_eq_true rfl) (Nat.le_of_ble_eq_true rfl) rfl dX11_claim_41 (mm_ri hf)
  · have hf := mm_if_f c5 hf
    refine me_iload_n (q := 13) C dX11_claim_12 rfl rfl rfl ?_
    refine me_if_lt (q2 := 40) (q := 16) C dX11_claim_13 (by decide) rfl (fun c6 => ?_) (fun c6 => ?_)
    · have hf := mm_if_t c6 hf
      refine me_iconst (v := (-1 : Int32)) (q := 41) C dX11_claim_40 (by decide) rfl ?_
      exact me_iret C hE (Nat.le_of_ble_eq_true rfl) (Nat.le_of_ble_eq_true rfl) rfl dX11_claim_41 (mm_ri hf)
    · have hf := mm_if_f c6 hf
      refine me_iload_n (q := 17) C dX11_claim_16 rfl rfl rfl ?_
      refine me_aload (q := 19) C dX11_claim_17 rfl rfl ?_
      obtain ⟨u7, eu7, hf⟩ := mm_rf_some hf
      obtain ⟨k8, hf⟩ := mm_ck_some hf
      refine me_getI (q := 22) C dX11_claim_19 mf_X11_294 rfl eu7 k8 rfl ?_
      refine me_icmp_ge (q2 := 40) (q := 25) C dX11_claim_22 (by decide) rfl (fun c9 => ?_) (fun c9 => ?_)
      · have hf := mm_if_t c9 hf
        refine me_iconst (v := (-1 : Int32)) (q := 41) C dX11_claim_40 (by decide) rfl ?_
        exact me_iret C hE (Nat.le_of_ble_eq_true rfl) (Nat.le_of_ble_eq_true rfl) rfl dX11_claim_41 (mm_ri hf)
      · have hf := mm_if_f c9 hf
        refine me_iload_n (q := 26) C dX11_claim_25 rfl rfl rfl ?_
        refine me_iconst (v := (1 : Int32)) (q := 27) C dX11_claim_26 (by decide) rfl ?_
        refine me_icmp_lt (q2 := 40) (q := 30) C dX11_claim_27 (by decide) rfl (fun c10 => ?_) (fun c10 => ?_)
        · have hf := mm_if_t c10 hf
          refine me_iconst (v := (-1 : Int32)) (q := 41) C dX11_claim_40 (by decide) rfl ?_
          exact me_iret C hE (Nat.le_of_ble_eq_true rfl) (Nat.le_of_ble_eq_true rfl) rfl dX11_claim_41 (mm_ri hf)
        · have hf := mm_if_f c10 hf
          refine me_aload (q := 32) C dX11_claim_30 rfl rfl ?_
          refine me_getR (q := 35) C dX11_claim_32 mf_X11_312 rfl eu7 k8 rfl ?_
          refine me_iload_n (q := 36) C dX11_claim_35 rfl rfl rfl ?_
          obtain ⟨u11, eu11, hf⟩ := mm_rf_some hf
          obtain ⟨k12, hf⟩ := mm_ck_some hf
          obtain ⟨k13, hf⟩ := mm_ck_some hf
          refine me_iald (q := 37) C dX11_claim_36 eu11 k12 k13 rfl ?_
          refine me_if_ne (q2 := 42) (q := 40) C dX11_claim_37 (by decide) rfl (fun c14 => ?_) (fun c14 => ?_)
          · have hf := mm_if_t c14 hf
            refine me_aload_n (q := 43) C dX11_claim_42 rfl rfl rfl ?_
            refine me_aload (q := 45) C dX11_claim_43 rfl rfl ?_
            refine me_iload_n (q := 46) C dX11_claim_45 rfl rfl rfl ?_
            refine me_iload_n (q := 47) C dX11_claim_46 rfl rfl rfl ?_
            obtain ⟨k15, hf⟩ := mm_ck_some hf
            obtain ⟨v16, g17, e18, hf⟩ := mm_cl_some hf
            refine me_callV (q := 50) (c2 := 0) (s2 := 0) (st := []) C (cX11_payClaim_ok _ e18) mt_X11_321 mv_X11_payClaim rfl (by decide) dX11_claim_47 rfl k15 (by rw [eu7]; rfl) rfl rfl (Nat.le_of_ble_eq_true rfl) rfl (Nat.le_of_ble_eq_true rfl) rfl (Nat.le_of_ble_eq_true rfl) rfl rfl ?_
            exact me_iret C hE (Nat.le_of_ble_eq_true rfl) (Nat.le_of_ble_eq_true rfl) rfl dX11_claim_50 (mm_ri hf)
          · have hf := mm_if_f c14 hf
            refine me_iconst (v := (-1 : Int32)) (q := 41) C dX11_claim_40 (by decide) rfl ?_
            exact me_iret C hE (Nat.le_of_ble_eq_true rfl) (Nat.le_of_ble_eq_true rfl) rfl dX11_claim_41 (mm_ri hf)
set_option maxRecDepth 100000 in
set_option maxHeartbeats 4000000 in
theorem cX11_chest_ok (l : Launch) {a0 : Nat} {a1 : Int32} {h : mm_H} {r : Int32} {h1 : mm_H} (hf : fX11_chest a0 a1 h = some (r, h1)) : mm_M l yX11_chest cX11_chest 2 (some .int) 4 0 0 [vR (some a0), vI a1] h (some (vI r)) h1 := by
  refine mm_enter (lv := [some (vR (some a0)), some (vI a1)]) (by decide) rfl (Nat.le_of_ble_eq_true rfl) ?_
  intro X hl C hE
  subst hl
  unfold fX11_chest at hf
  refine me_iload_n (q := 1) C dX11_chest_0 rfl rfl rfl ?_
  refine me_iconst (v := (0 : Int32)) (q := 2) C dX11_chest_1 (by decide) rfl ?_
  refine me_bipush (v := (9 : Int32)) (q := 4) C dX11_chest_2 (by decide) rfl ?_
  obtain ⟨v1, g2, e3, hf⟩ := mm_cl_some hf
  refine me_callS (q := 7) (c2 := 0) (s2 := 0) (st := []) C (cX11_within_ok _ e3) mt_X11_93 ms_X11_within dX11_chest_4 rfl rfl rfl (Nat.le_of_ble_eq_true rfl) rfl (Nat.le_of_ble_eq_true rfl) rfl (Nat.le_of_ble_eq_true rfl) rfl rfl ?_
  refine me_if_eq (q2 := 19) (q := 10) C dX11_chest_7 (by decide) rfl (fun c4 => ?_) (fun c4 => ?_)
  · have hf := mm_if_t c4 hf
    refine me_iconst (v := (-1 : Int32)) (q := 20) C dX11_chest_19 (by decide) rfl ?_
    exact me_iret C hE (Nat.le_of_ble_eq_true rfl) (Nat.le_of_ble_eq_true rfl) rfl dX11_chest_20 (mm_ri hf)
  · have hf := mm_if_f c4 hf
    refine me_aload_n (q := 11) C dX11_chest_10 rfl rfl rfl ?_
    obtain ⟨k5, hf⟩ := mm_ck_some hf
    refine me_getR (q := 14) C dX11_chest_11 mf_X11_22 rfl rfl k5 rfl ?_
    refine me_iload_n (q := 15) C dX11_chest_14 rfl rfl rfl ?_
    obtain ⟨u6, eu6, hf⟩ := mm_rf_some hf
    obtain ⟨k7, hf⟩ := mm_ck_some hf
    obtain ⟨k8, hf⟩ := mm_ck_some hf
    refine me_iald (q := 16) C dX11_chest_15 eu6 k7 k8 rfl ?_
    refine me_goto (q := 20) C dX11_chest_16 (by decide) ?_
    exact me_iret C hE (Nat.le_of_ble_eq_true rfl) (Nat.le_of_ble_eq_true rfl) rfl dX11_chest_20 (mm_ri hf)
set_option maxRecDepth 100000 in
set_option maxHeartbeats 4000000 in
theorem cX11_isKind_ok (l : Launch) {a0 : Int32} {h : mm_H} {r : Int32} {h1 : mm_H} (hf : fX11_isKind a0 h = some (r, h1)) : mm_M l yX11_isKind cX11_isKind 1 (some .boolean) 2 0 0 [vI a0] h (some (vI r)) h1 := by
  refine mm_enter (lv := [some (vI a0)]) (by decide) rfl (Nat.le_of_ble_eq_true rfl) ?_
  intro X hl C hE
  subst hl
  unfold fX11_isKind at hf
  refine me_iload_n (q := 1) C dX11_isKind_0 rfl rfl rfl ?_
  refine me_if_lt (q2 := 14) (q := 4) C dX11_isKind_1 (by decide) rfl (fun c1 => ?_) (fun c1 => ?_)
  · have hf := mm_if_t c1 hf
    refine me_iconst (v := (0 : Int32)) (q := 15) C dX11_isKind_14 (by decide) rfl ?_
    exact me_zret C hE (Nat.le_of_ble_eq_true rfl) (Nat.le_of_ble_eq_true rfl) rfl (Or.inl rfl) dX11_isKind_15 (mm_ri hf)
  · have hf := mm_if_f c1 hf
    refine me_iload_n (q := 5) C dX11_isKind_4 rfl rfl rfl ?_
    refine me_bipush (v := (8 : Int32)) (q := 7) C dX11_isKind_5 (by decide) rfl ?_
    refine me_icmp_ge (q2 := 14) (q := 10) C dX11_isKind_7 (by decide) rfl (fun c2 => ?_) (fun c2 => ?_)
    · have hf := mm_if_t c2 hf
      refine me_iconst (v := (0 : Int32)) (q := 15) C dX11_isKind_14 (by decide) rfl ?_
      exact me_zret C hE (Nat.le_of_ble_eq_true rfl) (Nat.le_of_ble_eq_true rfl) rfl (Or.inl rfl) dX11_isKind_15 (mm_ri hf)
    · have hf := mm_if_f c2 hf
      refine me_iconst (v := (1 : Int32)) (q := 11) C dX11_isKind_10 (by decide) rfl ?_
      refine me_goto (q := 15) C dX11_isKind_11 (by decide) ?_
      exact me_zret C hE (Nat.le_of_ble_eq_true rfl) (Nat.le_of_ble_eq_true rfl) rfl (Or.inr rfl) dX11_isKind_15 (mm_ri hf)
set_option maxRecDepth 100000 in
set_option maxHeartbeats 4000000 in
theorem cX11_weigh_ok (l : Launch) {a0 : Nat} {a1 : Int32} {a2 : Int32} {a3 : Int32} {h : mm_H} {r : Int32} {h1 : mm_H} (hf : fX11_weigh a0 a1 a2 a3 h = some (r, h1)) : mm_M l yX11_weigh cX11_weigh 4 (some .int) 4 0 0 [vR (some a0), vI a1, vI a2, vI a3] h (some (vI r)) h1 := by
  refine mm_enter (lv := [some (vR (some a0)), some (vI a1), some (vI a2), some (vI a3)]) (by decide) rfl (Nat.le_of_ble_eq_true rfl) ?_
  intro X hl C hE
  subst hl
  unfold fX11_weigh at hf
  refine me_iload_n (q := 1) C dX11_weigh_0 rfl rfl rfl ?_
  obtain ⟨v1, g2, e3, hf⟩ := mm_cl_some hf
  refine me_callS (q := 4) (c2 := 0) (s2 := 0) (st := []) C (cX11_isKind_ok _ e3) mt_X11_325 ms_X11_isKind dX11_weigh_1 rfl rfl rfl (Nat.le_of_ble_eq_true rfl) rfl (Nat.le_of_ble_eq_true rfl) rfl (Nat.le_of_ble_eq_true rfl) rfl rfl ?_
  refine me_if_eq (q2 := 27) (q := 7) C dX11_weigh_4 (by decide) rfl (fun c4 => ?_) (fun c4 => ?_)
  · have hf := mm_if_t c4 hf
    refine me_iconst (v := (-1 : Int32)) (q := 28) C dX11_weigh_27 (by decide) rfl ?_
    exact me_iret C hE (Nat.le_of_ble_eq_true rfl) (Nat.le_of_ble_eq_true rfl) rfl dX11_weigh_28 (mm_ri hf)
  · have hf := mm_if_f c4 hf
    refine me_iload_n (q := 8) C dX11_weigh_7 rfl rfl rfl ?_
    refine me_iconst (v := (2 : Int32)) (q := 9) C dX11_weigh_8 (by decide) rfl ?_
    refine me_ldc (v := (100000 : Int32)) (q := 11) C dX11_weigh_9 mc_X11_145 rfl ?_
    obtain ⟨v5, g6, e7, hf⟩ := mm_cl_some hf
    refine me_callS (q := 14) (c2 := 0) (s2 := 0) (st := []) C (cX11_within_ok _ e7) mt_X11_93 ms_X11_within dX11_weigh_11 rfl rfl rfl (Nat.le_of_ble_eq_true rfl) rfl (Nat.le_of_ble_eq_true rfl) rfl (Nat.le_of_ble_eq_true rfl) rfl rfl ?_
    refine me_if_eq (q2 := 27) (q := 17) C dX11_weigh_14 (by decide) rfl (fun c8 => ?_) (fun c8 => ?_)
    · have hf := mm_if_t c8 hf
      refine me_iconst (v := (-1 : Int32)) (q := 28) C dX11_weigh_27 (by decide) rfl ?_
      exact me_iret C hE (Nat.le_of_ble_eq_true rfl) (Nat.le_of_ble_eq_true rfl) rfl dX11_weigh_28 (mm_ri hf)
    · have hf := mm_if_f c8 hf
      refine me_iload_n (q := 18) C dX11_weigh_17 rfl rfl rfl ?_
      refine me_iconst (v := (1 : Int32)) (q := 19) C dX11_weigh_18 (by decide) rfl ?_
      refine me_ldc (v := (100000 : Int32)) (q := 21) C dX11_weigh_19 mc_X11_145 rfl ?_
      obtain ⟨v9, g10, e11, hf⟩ := mm_cl_some hf
      refine me_callS (q := 24) (c2 := 0) (s2 := 0) (st := []) C (cX11_within_ok _ e11) mt_X11_93 ms_X11_within dX11_weigh_21 rfl rfl rfl (Nat.le_of_ble_eq_true rfl) rfl (Nat.le_of_ble_eq_true rfl) rfl (Nat.le_of_ble_eq_true rfl) rfl rfl ?_
      refine me_if_ne (q2 := 29) (q := 27) C dX11_weigh_24 (by decide) rfl (fun c12 => ?_) (fun c12 => ?_)
      · have hf := mm_if_t c12 hf
        refine me_aload_n (q := 30) C dX11_weigh_29 rfl rfl rfl ?_
        obtain ⟨k13, hf⟩ := mm_ck_some hf
        refine me_getR (q := 33) C dX11_weigh_30 mf_X11_43 rfl rfl k13 rfl ?_
        refine me_iload_n (q := 34) C dX11_weigh_33 rfl rfl rfl ?_
        refine me_iload_n (q := 35) C dX11_weigh_34 rfl rfl rfl ?_
        refine me_iload_n (q := 36) C dX11_weigh_35 rfl rfl rfl ?_
        refine me_aload_n (q := 37) C dX11_weigh_36 rfl rfl rfl ?_
        refine me_getI (q := 40) C dX11_weigh_37 mf_X11_75 rfl rfl k13 rfl ?_
        obtain ⟨u14, eu14, hf⟩ := mm_rf_some hf
        obtain ⟨k15, hf⟩ := mm_ck_some hf
        obtain ⟨v16, g17, e18, hf⟩ := mm_cl_some hf
        refine me_callV (q := 43) (c2 := 0) (s2 := 0) (st := []) C (cX8_add_ok _ e18) mt_X11_328 mv_X8_add rfl (by decide) dX11_weigh_40 eu14 k15 rfl rfl rfl (Nat.le_of_ble_eq_true rfl) rfl (Nat.le_of_ble_eq_true rfl) rfl (Nat.le_of_ble_eq_true rfl) rfl rfl ?_
        exact me_iret C hE (Nat.le_of_ble_eq_true rfl) (Nat.le_of_ble_eq_true rfl) rfl dX11_weigh_43 (mm_ri hf)
      · have hf := mm_if_f c12 hf
        refine me_iconst (v := (-1 : Int32)) (q := 28) C dX11_weigh_27 (by decide) rfl ?_
        exact me_iret C hE (Nat.le_of_ble_eq_true rfl) (Nat.le_of_ble_eq_true rfl) rfl dX11_weigh_28 (mm_ri hf)
set_option maxRecDepth 100000 in
set_option maxHeartbeats 4000000 in
theorem cX11_takeBack_ok (l : Launch) {a0 : Nat} {a1 : Int32} {h : mm_H} {r : Int32} {h1 : mm_H} (hf : fX11_takeBack a0 a1 h = some (r, h1)) : mm_M l yX11_takeBack cX11_takeBack 2 (some .boolean) 4 0 0 [vR (some a0), vI a1] h (some (vI r)) h1 := by
  refine mm_enter (lv := [some (vR (some a0)), some (vI a1)]) (by decide) rfl (Nat.le_of_ble_eq_true rfl) ?_
  intro X hl C hE
  subst hl
  unfold fX11_takeBack at hf
  refine me_aload_n (q := 1) C dX11_takeBack_0 rfl rfl rfl ?_
  obtain ⟨k1, hf⟩ := mm_ck_some hf
  refine me_getR (q := 4) C dX11_takeBack_1 mf_X11_43 rfl rfl k1 rfl ?_
  refine me_iload_n (q := 5) C dX11_takeBack_4 rfl rfl rfl ?_
  refine me_aload_n (q := 6) C dX11_takeBack_5 rfl rfl rfl ?_
  refine me_getI (q := 9) C dX11_takeBack_6 mf_X11_75 rfl rfl k1 rfl ?_
  obtain ⟨u2, eu2, hf⟩ := mm_rf_some hf
  obtain ⟨k3, hf⟩ := mm_ck_some hf
  obtain ⟨v4, g5, e6, hf⟩ := mm_cl_some hf
  refine me_callV (q := 12) (c2 := 0) (s2 := 0) (st := []) C (cX8_withdraw_ok _ e6) mt_X11_331 mv_X8_withdraw rfl (by decide) dX11_takeBack_9 eu2 k3 rfl rfl rfl (Nat.le_of_ble_eq_true rfl) rfl (Nat.le_of_ble_eq_true rfl) rfl (Nat.le_of_ble_eq_true rfl) rfl rfl ?_
  obtain ⟨k7, hf⟩ := mm_ck_some hf
  exact me_zret C hE (Nat.le_of_ble_eq_true rfl) (Nat.le_of_ble_eq_true rfl) rfl k7 dX11_takeBack_12 (mm_ri hf)
set_option maxRecDepth 100000 in
set_option maxHeartbeats 4000000 in
theorem cX11_span_ok (l : Launch) {a0 : Nat} {a1 : Int32} {a2 : Int32} {a3 : Int32} {h : mm_H} {r : Int32} {h1 : mm_H} (hf : fX11_span a0 a1 a2 a3 h = some (r, h1)) : mm_M l yX11_span cX11_span 4 (some .int) 10 0 0 [vR (some a0), vI a1, vI a2, vI a3] h (some (vI r)) h1 := by
  refine mm_enter (lv := [some (vR (some a0)), some (vI a1), some (vI a2), some (vI a3)]) (by decide) rfl (Nat.le_of_ble_eq_true rfl) ?_
  intro X hl C hE
  subst hl
  unfold fX11_span at hf
  refine me_iload_n (q := 1) C dX11_span_0 rfl rfl rfl ?_
  obtain ⟨v1, g2, e3, hf⟩ := mm_cl_some hf
  refine me_callS (q := 4) (c2 := 0) (s2 := 0) (st := []) C (cX11_isKind_ok _ e3) mt_X11_325 ms_X11_isKind dX11_span_1 rfl rfl rfl (Nat.le_of_ble_eq_true rfl) rfl (Nat.le_of_ble_eq_true rfl) rfl (Nat.le_of_ble_eq_true rfl) rfl rfl ?_
  refine me_if_eq (q2 := 14) (q := 7) C dX11_span_4 (by decide) rfl (fun c4 => ?_) (fun c4 => ?_)
  · have hf := mm_if_t c4 hf
    refine me_iconst (v := (-1 : Int32)) (q := 15) C dX11_span_14 (by decide) rfl ?_
    exact me_iret C hE (Nat.le_of_ble_eq_true rfl) (Nat.le_of_ble_eq_true rfl) rfl dX11_span_15 (mm_ri hf)
  · have hf := mm_if_f c4 hf
    refine me_iload_n (q := 8) C dX11_span_7 rfl rfl rfl ?_
    obtain ⟨v5, g6, e7, hf⟩ := mm_cl_some hf
    refine me_callS (q := 11) (c2 := 0) (s2 := 0) (st := []) C (cX11_isDay_ok _ e7) mt_X11_219 ms_X11_isDay dX11_span_8 rfl rfl rfl (Nat.le_of_ble_eq_true rfl) rfl (Nat.le_of_ble_eq_true rfl) rfl (Nat.le_of_ble_eq_true rfl) rfl rfl ?_
    refine me_if_ne (q2 := 16) (q := 14) C dX11_span_11 (by decide) rfl (fun c8 => ?_) (fun c8 => ?_)
    · have hf := mm_if_t c8 hf
      refine me_iload_n (q := 17) C dX11_span_16 rfl rfl rfl ?_
      by_cases c9 : a3 = 0
      · have hf := mm_if_t c9 hf
        refine me_tabIn (q := 56) C dX11_span_17 (by rw [c9]; decide) (by rw [c9]; decide) (by rw [c9]; rfl) (by decide) ?_
        refine me_aload_n (q := 57) C dX11_span_56 rfl rfl rfl ?_
        obtain ⟨k10, hf⟩ := mm_ck_some hf
        refine me_getR (q := 60) C dX11_span_57 mf_X11_43 rfl rfl k10 rfl ?_
        refine me_aload_n (q := 61) C dX11_span_60 rfl rfl rfl ?_
        refine me_getR (q := 64) C dX11_span_61 mf_X11_43 rfl rfl k10 rfl ?_
        refine me_iload_n (q := 65) C dX11_span_64 rfl rfl rfl ?_
        refine me_iload_n (q := 66) C dX11_span_65 rfl rfl rfl ?_
        obtain ⟨u11, eu11, hf⟩ := mm_rf_some hf
        obtain ⟨k12, hf⟩ := mm_ck_some hf
        obtain ⟨v13, g14, e15, hf⟩ := mm_cl_some hf
        refine me_callV (q := 69) (c2 := 0) (s2 := 0) (st := [vR (mm_r g6 a0 6)]) C (cX8_greatestLower_ok _ e15) mt_X11_334 mv_X8_greatestLower rfl (by decide) dX11_span_66 eu11 k12 rfl rfl rfl (Nat.le_of_ble_eq_true rfl) rfl (Nat.le_of_ble_eq_true rfl) rfl (Nat.le_of_ble_eq_true rfl) rfl rfl ?_
        obtain ⟨k16, hf⟩ := mm_ck_some hf
        obtain ⟨v17, g18, e19, hf⟩ := mm_cl_some hf
        refine me_callV (q := 72) (c2 := 0) (s2 := 0) (st := []) C (cX8_lowerAbove_ok _ e19) mt_X11_337 mv_X8_lowerAbove rfl (by decide) dX11_span_69 eu11 k16 rfl rfl rfl (Nat.le_of_ble_eq_true rfl) rfl (Nat.le_of_ble_eq_true rfl) rfl (Nat.le_of_ble_eq_true rfl) rfl rfl ?_
        exact me_iret C hE (Nat.le_of_ble_eq_true rfl) (Nat.le_of_ble_eq_true rfl) rfl dX11_span_72 (mm_ri hf)
      have hf := mm_if_f c9 hf
      by_cases c20 : a3 = 1
      · have hf := mm_if_t c20 hf
        refine me_tabIn (q := 73) C dX11_span_17 (by rw [c20]; decide) (by rw [c20]; decide) (by rw [c20]; rfl) (by decide) ?_
        refine me_aload_n (q := 74) C dX11_span_73 rfl rfl rfl ?_
        obtain ⟨k21, hf⟩ := mm_ck_some hf
        refine me_getR (q := 77) C dX11_span_74 mf_X11_43 rfl rfl k21 rfl ?_
        refine me_aload_n (q := 78) C dX11_span_77 rfl rfl rfl ?_
        refine me_getR (q := 81) C dX11_span_78 mf_X11_43 rfl rfl k21 rfl ?_
        refine me_iload_n (q := 82) C dX11_span_81 rfl rfl rfl ?_
        refine me_iload_n (q := 83) C dX11_span_82 rfl rfl rfl ?_
        obtain ⟨u22, eu22, hf⟩ := mm_rf_some hf
        obtain ⟨k23, hf⟩ := mm_ck_some hf
        obtain ⟨v24, g25, e26, hf⟩ := mm_cl_some hf
        refine me_callV (q := 86) (c2 := 0) (s2 := 0) (st := [vR (mm_r g6 a0 6)]) C (cX8_greatestLower_ok _ e26) mt_X11_334 mv_X8_greatestLower rfl (by decide) dX11_span_83 eu22 k23 rfl rfl rfl (Nat.le_of_ble_eq_true rfl) rfl (Nat.le_of_ble_eq_true rfl) rfl (Nat.le_of_ble_eq_true rfl) rfl rfl ?_
        obtain ⟨k27, hf⟩ := mm_ck_some hf
        obtain ⟨v28, g29, e30, hf⟩ := mm_cl_some hf
        refine me_callV (q := 89) (c2 := 0) (s2 := 0) (st := []) C (cX8_lowerBelow_ok _ e30) mt_X11_340 mv_X8_lowerBelow rfl (by decide) dX11_span_86 eu22 k27 rfl rfl rfl (Nat.le_of_ble_eq_true rfl) rfl (Nat.le_of_ble_eq_true rfl) rfl (Nat.le_of_ble_eq_true rfl) rfl rfl ?_
        exact me_iret C hE (Nat.le_of_ble_eq_true rfl) (Nat.le_of_ble_eq_true rfl) rfl dX11_span_89 (mm_ri hf)
      have hf := mm_if_f c20 hf
      by_cases c31 : a3 = 2
      · have hf := mm_if_t c31 hf
        refine me_tabIn (q := 90) C dX11_span_17 (by rw [c31]; decide) (by rw [c31]; decide) (by rw [c31]; rfl) (by decide) ?_
        refine me_aload_n (q := 91) C dX11_span_90 rfl rfl rfl ?_
        obtain ⟨k32, hf⟩ := mm_ck_some hf
        refine me_getR (q := 94) C dX11_span_91 mf_X11_43 rfl rfl k32 rfl ?_
        refine me_aload_n (q := 95) C dX11_span_94 rfl rfl rfl ?_
        refine me_getR (q := 98) C dX11_span_95 mf_X11_43 rfl rfl k32 rfl ?_
        refine me_iload_n (q := 99) C dX11_span_98 rfl rfl rfl ?_
        refine me_iload_n (q := 100) C dX11_span_99 rfl rfl rfl ?_
        obtain ⟨u33, eu33, hf⟩ := mm_rf_some hf
        obtain ⟨k34, hf⟩ := mm_ck_some hf
        obtain ⟨v35, g36, e37, hf⟩ := mm_cl_some hf
        refine me_callV (q := 103) (c2 := 0) (s2 := 0) (st := [vR (mm_r g6 a0 6)]) C (cX8_leastUpper_ok _ e37) mt_X11_343 mv_X8_leastUpper rfl (by decide) dX11_span_100 eu33 k34 rfl rfl rfl (Nat.le_of_ble_eq_true rfl) rfl (Nat.le_of_ble_eq_true rfl) rfl (Nat.le_of_ble_eq_true rfl) rfl rfl ?_
        obtain ⟨k38, hf⟩ := mm_ck_some hf
        obtain ⟨v39, g40, e41, hf⟩ := mm_cl_some hf
        refine me_callV (q := 106) (c2 := 0) (s2 := 0) (st := []) C (cX8_upperAbove_ok _ e41) mt_X11_346 mv_X8_upperAbove rfl (by decide) dX11_span_103 eu33 k38 rfl rfl rfl (Nat.le_of_ble_eq_true rfl) rfl (Nat.le_of_ble_eq_true rfl) rfl (Nat.le_of_ble_eq_true rfl) rfl rfl ?_
        exact me_iret C hE (Nat.le_of_ble_eq_true rfl) (Nat.le_of_ble_eq_true rfl) rfl dX11_span_106 (mm_ri hf)
      have hf := mm_if_f c31 hf
      by_cases c42 : a3 = 3
      · have hf := mm_if_t c42 hf
        refine me_tabIn (q := 107) C dX11_span_17 (by rw [c42]; decide) (by rw [c42]; decide) (by rw [c42]; rfl) (by decide) ?_
        refine me_aload_n (q := 108) C dX11_span_107 rfl rfl rfl ?_
        obtain ⟨k43, hf⟩ := mm_ck_some hf
        refine me_getR (q := 111) C dX11_span_108 mf_X11_43 rfl rfl k43 rfl ?_
        refine me_aload_n (q := 112) C dX11_span_111 rfl rfl rfl ?_
        refine me_getR (q := 115) C dX11_span_112 mf_X11_43 rfl rfl k43 rfl ?_
        refine me_iload_n (q := 116) C dX11_span_115 rfl rfl rfl ?_
        refine me_iload_n (q := 117) C dX11_span_116 rfl rfl rfl ?_
        obtain ⟨u44, eu44, hf⟩ := mm_rf_some hf
        obtain ⟨k45, hf⟩ := mm_ck_some hf
        obtain ⟨v46, g47, e48, hf⟩ := mm_cl_some hf
        refine me_callV (q := 120) (c2 := 0) (s2 := 0) (st := [vR (mm_r g6 a0 6)]) C (cX8_leastUpper_ok _ e48) mt_X11_343 mv_X8_leastUpper rfl (by decide) dX11_span_117 eu44 k45 rfl rfl rfl (Nat.le_of_ble_eq_true rfl) rfl (Nat.le_of_ble_eq_true rfl) rfl (Nat.le_of_ble_eq_true rfl) rfl rfl ?_
        obtain ⟨k49, hf⟩ := mm_ck_some hf
        obtain ⟨v50, g51, e52, hf⟩ := mm_cl_some hf
        refine me_callV (q := 123) (c2 := 0) (s2 := 0) (st := []) C (cX8_upperBelow_ok _ e52) mt_X11_349 mv_X8_upperBelow rfl (by decide) dX11_span_120 eu44 k49 rfl rfl rfl (Nat.le_of_ble_eq_true rfl) rfl (Nat.le_of_ble_eq_true rfl) rfl (Nat.le_of_ble_eq_true rfl) rfl rfl ?_
        exact me_iret C hE (Nat.le_of_ble_eq_true rfl) (Nat.le_of_ble_eq_true rfl) rfl dX11_span_123 (mm_ri hf)
      have hf := mm_if_f c42 hf
      by_cases c53 : a3 = 4
      · have hf := mm_if_t c53 hf
        refine me_tabIn (q := 124) C dX11_span_17 (by rw [c53]; decide) (by rw [c53]; decide) (by rw [c53]; rfl) (by decide) ?_
        refine me_aload_n (q := 125) C dX11_span_124 rfl rfl rfl ?_
        obtain ⟨k54, hf⟩ := mm_ck_some hf
        refine me_getR (q := 128) C dX11_span_125 mf_X11_43 rfl rfl k54 rfl ?_
        refine me_iload_n (q := 129) C dX11_span_128 rfl rfl rfl ?_
        refine me_iload_n (q := 130) C dX11_span_129 rfl rfl rfl ?_
        refine me_aload_n (q := 131) C dX11_span_130 rfl rfl rfl ?_
        refine me_getR (q := 134) C dX11_span_131 mf_X11_43 rfl rfl k54 rfl ?_
        refine me_iload_n (q := 135) C dX11_span_134 rfl rfl rfl ?_
        refine me_iload_n (q := 136) C dX11_span_135 rfl rfl rfl ?_
        obtain ⟨u55, eu55, hf⟩ := mm_rf_some hf
        obtain ⟨k56, hf⟩ := mm_ck_some hf
        obtain ⟨v57, g58, e59, hf⟩ := mm_cl_some hf
        refine me_callV (q := 139) (c2 := 0) (s2 := 0) (st := [vI a2, vI a1, vR (mm_r g6 a0 6)]) C (cX8_greaterQuarreller_ok _ e59) mt_X11_352 mv_X8_greaterQuarreller rfl (by decide) dX11_span_136 eu55 k56 rfl rfl rfl (Nat.le_of_ble_eq_true rfl) rfl (Nat.le_of_ble_eq_true rfl) rfl (Nat.le_of_ble_eq_true rfl) rfl rfl ?_
        obtain ⟨k60, hf⟩ := mm_ck_some hf
        obtain ⟨v61, g62, e63, hf⟩ := mm_cl_some hf
        refine me_callV (q := 142) (c2 := 0) (s2 := 0) (st := []) C (cX8_lesserQuarreller_ok _ e63) mt_X11_355 mv_X8_lesserQuarreller rfl (by decide) dX11_span_139 eu55 k60 rfl rfl rfl (Nat.le_of_ble_eq_true rfl) rfl (Nat.le_of_ble_eq_true rfl) rfl (Nat.le_of_ble_eq_true rfl) rfl rfl ?_
        exact me_iret C hE (Nat.le_of_ble_eq_true rfl) (Nat.le_of_ble_eq_true rfl) rfl dX11_span_142 (mm_ri hf)
      have hf := mm_if_f c53 hf
      by_cases c64 : a3 = 5
      · have hf := mm_if_t c64 hf
        refine me_tabIn (q := 143) C dX11_span_17 (by rw [c64]; decide) (by rw [c64]; decide) (by rw [c64]; rfl) (by decide) ?_
        refine me_aload_n (q := 144) C dX11_span_143 rfl rfl rfl ?_
        obtain ⟨k65, hf⟩ := mm_ck_some hf
        refine me_getR (q := 147) C dX11_span_144 mf_X11_43 rfl rfl k65 rfl ?_
        refine me_iload_n (q := 148) C dX11_span_147 rfl rfl rfl ?_
        refine me_iload_n (q := 149) C dX11_span_148 rfl rfl rfl ?_
        obtain ⟨u66, eu66, hf⟩ := mm_rf_some hf
        obtain ⟨k67, hf⟩ := mm_ck_some hf
        obtain ⟨v68, g69, e70, hf⟩ := mm_cl_some hf
        refine me_callV (q := 152) (c2 := 0) (s2 := 0) (st := []) C (cX8_greaterQuarreller_ok _ e70) mt_X11_352 mv_X8_greaterQuarreller rfl (by decide) dX11_span_149 eu66 k67 rfl rfl rfl (Nat.le_of_ble_eq_true rfl) rfl (Nat.le_of_ble_eq_true rfl) rfl (Nat.le_of_ble_eq_true rfl) rfl rfl ?_
        exact me_iret C hE (Nat.le_of_ble_eq_true rfl) (Nat.le_of_ble_eq_true rfl) rfl dX11_span_152 (mm_ri hf)
      have hf := mm_if_f c64 hf
      refine me_tabOut (q := 153) C dX11_span_17 ?_ (by decide) ?_
      · by_cases hz : a3.toInt < 0 ∨ 5 < a3.toInt
        · exact hz
        · exfalso
          have hw : a3.toInt = 0 ∨ a3.toInt = 1 ∨ a3.toInt = 2 ∨ a3.toInt = 3 ∨ a3.toInt = 4 ∨ a3.toInt = 5 := by omega
          rcases hw with hw | hw | hw | hw | hw | hw
          · exact c9 (mm_sw hw)
          · exact c20 (mm_sw hw)
          · exact c31 (mm_sw hw)
          · exact c42 (mm_sw hw)
          · exact c53 (mm_sw hw)
          · exact c64 (mm_sw hw)
      · refine me_iconst (v := (-1 : Int32)) (q := 154) C dX11_span_153 (by decide) rfl ?_
        exact me_iret C hE (Nat.le_of_ble_eq_true rfl) (Nat.le_of_ble_eq_true rfl) rfl dX11_span_154 (mm_ri hf)
    · have hf := mm_if_f c8 hf
      refine me_iconst (v := (-1 : Int32)) (q := 15) C dX11_span_14 (by decide) rfl ?_
      exact me_iret C hE (Nat.le_of_ble_eq_true rfl) (Nat.le_of_ble_eq_true rfl) rfl dX11_span_15 (mm_ri hf)
set_option maxRecDepth 100000 in
set_option maxHeartbeats 4000000 in
theorem cX11_theirs_ok (l : Launch) {a0 : Nat} {a1 : Int32} {a2 : Int32} {a3 : Int32} {a4 : Int32} {h : mm_H} {r : Int32} {h1 : mm_H} (hf : fX11_theirs a0 a1 a2 a3 a4 h = some (r, h1)) : mm_M l yX11_theirs cX11_theirs 5 (some .int) 12 0 0 [vR (some a0), vI a1, vI a2, vI a3, vI a4] h (some (vI r)) h1 := by
  refine mm_enter (lv := [some (vR (some a0)), some (vI a1), some (vI a2), some (vI a3), some (vI a4)]) (by decide) rfl (Nat.le_of_ble_eq_true rfl) ?_
  intro X hl C hE
  subst hl
  unfold fX11_theirs at hf
  refine me_iload_n (q := 1) C dX11_theirs_0 rfl rfl rfl ?_
  obtain ⟨v1, g2, e3, hf⟩ := mm_cl_some hf
  refine me_callS (q := 4) (c2 := 0) (s2 := 0) (st := []) C (cX11_isKind_ok _ e3) mt_X11_325 ms_X11_isKind dX11_theirs_1 rfl rfl rfl (Nat.le_of_ble_eq_true rfl) rfl (Nat.le_of_ble_eq_true rfl) rfl (Nat.le_of_ble_eq_true rfl) rfl rfl ?_
  refine me_if_eq (q2 := 34) (q := 7) C dX11_theirs_4 (by decide) rfl (fun c4 => ?_) (fun c4 => ?_)
  · have hf := mm_if_t c4 hf
    refine me_iconst (v := (-1 : Int32)) (q := 35) C dX11_theirs_34 (by decide) rfl ?_
    exact me_iret C hE (Nat.le_of_ble_eq_true rfl) (Nat.le_of_ble_eq_true rfl) rfl dX11_theirs_35 (mm_ri hf)
  · have hf := mm_if_f c4 hf
    refine me_iload_n (q := 8) C dX11_theirs_7 rfl rfl rfl ?_
    refine me_iconst (v := (0 : Int32)) (q := 9) C dX11_theirs_8 (by decide) rfl ?_
    refine me_ldc (v := (1000000 : Int32)) (q := 11) C dX11_theirs_9 mc_X11_97 rfl ?_
    obtain ⟨v5, g6, e7, hf⟩ := mm_cl_some hf
    refine me_callS (q := 14) (c2 := 0) (s2 := 0) (st := []) C (cX11_within_ok _ e7) mt_X11_93 ms_X11_within dX11_theirs_11 rfl rfl rfl (Nat.le_of_ble_eq_true rfl) rfl (Nat.le_of_ble_eq_true rfl) rfl (Nat.le_of_ble_eq_true rfl) rfl rfl ?_
    refine me_if_eq (q2 := 34) (q := 17) C dX11_theirs_14 (by decide) rfl (fun c8 => ?_) (fun c8 => ?_)
    · have hf := mm_if_t c8 hf
      refine me_iconst (v := (-1 : Int32)) (q := 35) C dX11_theirs_34 (by decide) rfl ?_
      exact me_iret C hE (Nat.le_of_ble_eq_true rfl) (Nat.le_of_ble_eq_true rfl) rfl dX11_theirs_35 (mm_ri hf)
    · have hf := mm_if_f c8 hf
      refine me_iload_n (q := 18) C dX11_theirs_17 rfl rfl rfl ?_
      obtain ⟨v9, g10, e11, hf⟩ := mm_cl_some hf
      refine me_callS (q := 21) (c2 := 0) (s2 := 0) (st := []) C (cX11_isDay_ok _ e11) mt_X11_219 ms_X11_isDay dX11_theirs_18 rfl rfl rfl (Nat.le_of_ble_eq_true rfl) rfl (Nat.le_of_ble_eq_true rfl) rfl (Nat.le_of_ble_eq_true rfl) rfl rfl ?_
      refine me_if_eq (q2 := 34) (q := 24) C dX11_theirs_21 (by decide) rfl (fun c12 => ?_) (fun c12 => ?_)
      · have hf := mm_if_t c12 hf
        refine me_iconst (v := (-1 : Int32)) (q := 35) C dX11_theirs_34 (by decide) rfl ?_
        exact me_iret C hE (Nat.le_of_ble_eq_true rfl) (Nat.le_of_ble_eq_true rfl) rfl dX11_theirs_35 (mm_ri hf)
      · have hf := mm_if_f c12 hf
        refine me_iload (q := 26) C dX11_theirs_24 rfl rfl ?_
        refine me_iconst (v := (0 : Int32)) (q := 27) C dX11_theirs_26 (by decide) rfl ?_
        refine me_iconst (v := (1 : Int32)) (q := 28) C dX11_theirs_27 (by decide) rfl ?_
        obtain ⟨v13, g14, e15, hf⟩ := mm_cl_some hf
        refine me_callS (q := 31) (c2 := 0) (s2 := 0) (st := []) C (cX11_within_ok _ e15) mt_X11_93 ms_X11_within dX11_theirs_28 rfl rfl rfl (Nat.le_of_ble_eq_true rfl) rfl (Nat.le_of_ble_eq_true rfl) rfl (Nat.le_of_ble_eq_true rfl) rfl rfl ?_
        refine me_if_ne (q2 := 36) (q := 34) C dX11_theirs_31 (by decide) rfl (fun c16 => ?_) (fun c16 => ?_)
        · have hf := mm_if_t c16 hf
          refine me_aload_n (q := 37) C dX11_theirs_36 rfl rfl rfl ?_
          obtain ⟨k17, hf⟩ := mm_ck_some hf
          refine me_getR (q := 40) C dX11_theirs_37 mf_X11_43 rfl rfl k17 rfl ?_
          refine me_iload_n (q := 41) C dX11_theirs_40 rfl rfl rfl ?_
          refine me_iload_n (q := 42) C dX11_theirs_41 rfl rfl rfl ?_
          obtain ⟨u18, eu18, hf⟩ := mm_rf_some hf
          obtain ⟨k19, hf⟩ := mm_ck_some hf
          obtain ⟨v20, g21, e22, hf⟩ := mm_cl_some hf
          refine me_callV (q := 45) (c2 := 0) (s2 := 0) (st := []) C (cX8_greaterQuarreller_ok _ e22) mt_X11_352 mv_X8_greaterQuarreller rfl (by decide) dX11_theirs_42 eu18 k19 rfl rfl rfl (Nat.le_of_ble_eq_true rfl) rfl (Nat.le_of_ble_eq_true rfl) rfl (Nat.le_of_ble_eq_true rfl) rfl rfl ?_
          refine me_iconst (v := (-1 : Int32)) (q := 46) C dX11_theirs_45 (by decide) rfl ?_
          refine me_icmp_eq (q2 := 52) (q := 49) C dX11_theirs_46 (by decide) rfl (fun c23 => ?_) (fun c23 => ?_)
          · have hf := mm_if_t c23 hf
            refine me_iload (q := 54) C dX11_theirs_52 rfl rfl ?_
            refine me_if_ne (q2 := 70) (q := 57) C dX11_theirs_54 (by decide) rfl (fun c24 => ?_) (fun c24 => ?_)
            · have hf := mm_if_t c24 hf
              refine me_aload_n (q := 71) C dX11_theirs_70 rfl rfl rfl ?_
              obtain ⟨k25, hf⟩ := mm_ck_some hf
              refine me_getR (q := 74) C dX11_theirs_71 mf_X11_43 rfl rfl k25 rfl ?_
              refine me_iload_n (q := 75) C dX11_theirs_74 rfl rfl rfl ?_
              refine me_iload_n (q := 76) C dX11_theirs_75 rfl rfl rfl ?_
              refine me_iload_n (q := 77) C dX11_theirs_76 rfl rfl rfl ?_
              obtain ⟨u26, eu26, hf⟩ := mm_rf_some hf
              obtain ⟨k27, hf⟩ := mm_ck_some hf
              obtain ⟨v28, g29, e30, hf⟩ := mm_cl_some hf
              refine me_callV (q := 80) (c2 := 0) (s2 := 0) (st := []) C (cX8_mostOf_ok _ e30) mt_X11_361 mv_X8_mostOf rfl (by decide) dX11_theirs_77 eu26 k27 rfl rfl rfl (Nat.le_of_ble_eq_true rfl) rfl (Nat.le_of_ble_eq_true rfl) rfl (Nat.le_of_ble_eq_true rfl) rfl rfl ?_
              exact me_iret C hE (Nat.le_of_ble_eq_true rfl) (Nat.le_of_ble_eq_true rfl) rfl dX11_theirs_80 (mm_ri hf)
            · have hf := mm_if_f c24 hf
              refine me_aload_n (q := 58) C dX11_theirs_57 rfl rfl rfl ?_
              obtain ⟨k31, hf⟩ := mm_ck_some hf
              refine me_getR (q := 61) C dX11_theirs_58 mf_X11_43 rfl rfl k31 rfl ?_
              refine me_iload_n (q := 62) C dX11_theirs_61 rfl rfl rfl ?_
              refine me_iload_n (q := 63) C dX11_theirs_62 rfl rfl rfl ?_
              refine me_iload_n (q := 64) C dX11_theirs_63 rfl rfl rfl ?_
              obtain ⟨u32, eu32, hf⟩ := mm_rf_some hf
              obtain ⟨k33, hf⟩ := mm_ck_some hf
              obtain ⟨v34, g35, e36, hf⟩ := mm_cl_some hf
              refine me_callV (q := 67) (c2 := 0) (s2 := 0) (st := []) C (cX8_leastOf_ok _ e36) mt_X11_358 mv_X8_leastOf rfl (by decide) dX11_theirs_64 eu32 k33 rfl rfl rfl (Nat.le_of_ble_eq_true rfl) rfl (Nat.le_of_ble_eq_true rfl) rfl (Nat.le_of_ble_eq_true rfl) rfl rfl ?_
              refine me_goto (q := 80) C dX11_theirs_67 (by decide) ?_
              exact me_iret C hE (Nat.le_of_ble_eq_true rfl) (Nat.le_of_ble_eq_true rfl) rfl dX11_theirs_80 (mm_ri hf)
          · have hf := mm_if_f c23 hf
            refine me_bipush (v := (-2 : Int32)) (q := 51) C dX11_theirs_49 (by decide) rfl ?_
            exact me_iret C hE (Nat.le_of_ble_eq_true rfl) (Nat.le_of_ble_eq_true rfl) rfl dX11_theirs_51 (mm_ri hf)
        · have hf := mm_if_f c16 hf
          refine me_iconst (v := (-1 : Int32)) (q := 35) C dX11_theirs_34 (by decide) rfl ?_
          exact me_iret C hE (Nat.le_of_ble_eq_true rfl) (Nat.le_of_ble_eq_true rfl) rfl dX11_theirs_35 (mm_ri hf)
