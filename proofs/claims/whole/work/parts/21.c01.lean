set_option maxRecDepth 100000 in
set_option maxHeartbeats 4000000 in
theorem cX2_lawAt_ok (l : Launch) {a0 : Nat} {a1 : Int32} {h : mm_H} {r : Option Nat} {h1 : mm_H} (hf : fX2_lawAt a0 a1 h = some (r, h1)) : mm_M l yX2_lawAt cX2_lawAt 2 (some (.object "MerchantYard$Law")) 8 0 0 [vR (some a0), vI a1] h (some (vR r)) h1 := by
  refine mm_enter (lv := [some (vR (some a0)), some (vI a1)]) (by decide) rfl (Nat.le_of_ble_eq_true rfl) ?_
  intro X hl C hE
  subst hl
  unfold fX2_lawAt at hf
  refine me_iload_n (q := 1) C dX2_lawAt_0 rfl rfl rfl ?_
  refine me_if_lt (q2 := 15) (q := 4) C dX2_lawAt_1 (by decide) rfl (fun c1 => ?_) (fun c1 => ?_)
  · have hf := mm_if_t c1 hf
    refine me_null (q := 16) C dX2_lawAt_15 rfl ?_
    refine me_goto (q := 30) C dX2_lawAt_16 (by decide) ?_
    exact me_aret C hE (Nat.le_of_ble_eq_true rfl) (Nat.le_of_ble_eq_true rfl) rfl (Or.inl ⟨_, rfl⟩) dX2_lawAt_30 (mm_rr hf)
  · have hf := mm_if_f c1 hf
    refine me_iload_n (q := 5) C dX2_lawAt_4 rfl rfl rfl ?_
    refine me_aload_n (q := 6) C dX2_lawAt_5 rfl rfl rfl ?_
    obtain ⟨k2, hf⟩ := mm_ck_some hf
    refine me_getR (q := 9) C dX2_lawAt_6 mf_X2_12 rfl rfl k2 rfl ?_
    obtain ⟨u3, eu3, hf⟩ := mm_rf_some hf
    obtain ⟨k4, hf⟩ := mm_ck_some hf
    obtain ⟨v5, g6, e7, hf⟩ := mm_cl_some hf
    refine me_callV (q := 12) (c2 := 0) (s2 := 0) (st := [vI a1]) C (cJx4a65c_size_8abf5_ok _ e7) mt_X2_34 mv_Jx4a65c_size_8abf5 rfl (by decide) dX2_lawAt_9 eu3 k4 rfl rfl rfl (Nat.le_of_ble_eq_true rfl) rfl (Nat.le_of_ble_eq_true rfl) rfl (Nat.le_of_ble_eq_true rfl) rfl rfl ?_
    refine me_icmp_lt (q2 := 19) (q := 15) C dX2_lawAt_12 (by decide) rfl (fun c8 => ?_) (fun c8 => ?_)
    · have hf := mm_if_t c8 hf
      refine me_aload_n (q := 20) C dX2_lawAt_19 rfl rfl rfl ?_
      obtain ⟨k9, hf⟩ := mm_ck_some hf
      refine me_getR (q := 23) C dX2_lawAt_20 mf_X2_12 rfl rfl k9 rfl ?_
      refine me_iload_n (q := 24) C dX2_lawAt_23 rfl rfl rfl ?_
      obtain ⟨u10, eu10, hf⟩ := mm_rf_some hf
      obtain ⟨k11, hf⟩ := mm_ck_some hf
      obtain ⟨v12, g13, e14, hf⟩ := mm_cl_some hf
      refine me_callV (q := 27) (c2 := 0) (s2 := 0) (st := []) C (cJx4a65c_get_915e3_ok _ e14) mt_X2_38 mv_Jx4a65c_get_915e3 rfl (by decide) dX2_lawAt_24 eu10 k11 rfl rfl rfl (Nat.le_of_ble_eq_true rfl) rfl (Nat.le_of_ble_eq_true rfl) rfl (Nat.le_of_ble_eq_true rfl) rfl rfl ?_
      obtain ⟨u15, eu15, hf⟩ := mm_rf_some hf
      obtain ⟨k16, hf⟩ := mm_ck_some hf
      refine me_cast (q := 30) C dX2_lawAt_27 mk_X2_42 eu15 k16 rfl ?_
      exact me_aret C hE (Nat.le_of_ble_eq_true rfl) (Nat.le_of_ble_eq_true rfl) rfl (Or.inl ⟨_, rfl⟩) dX2_lawAt_30 (mm_rr hf)
    · have hf := mm_if_f c8 hf
      refine me_null (q := 16) C dX2_lawAt_15 rfl ?_
      refine me_goto (q := 30) C dX2_lawAt_16 (by decide) ?_
      exact me_aret C hE (Nat.le_of_ble_eq_true rfl) (Nat.le_of_ble_eq_true rfl) rfl (Or.inl ⟨_, rfl⟩) dX2_lawAt_30 (mm_rr hf)
set_option maxRecDepth 100000 in
set_option maxHeartbeats 4000000 in
theorem cX2_inForce_L8 {X : mm_X} (C : mm_C X cX2_inForce yX2_inForce 8 0 0) {r : Int32} {h1 : mm_H} (hE : mm_End X 0 0 (some .int) (some (vI r)) h1) {b0 : Nat} {b1 : Int32} {b2 : Int32} (K99 : Int32 → mm_H → Option (Int32 × mm_H)) : ∀ (n : Nat) (x3 : Int32) (x4 : Int32) (x5 : Int32) (h : mm_H), fX2_inForce_L8 b0 b1 b2 K99 n x3 x4 x5 h = some (r, h1) → (∀ (y3 : Int32) (h : mm_H), K99 y3 h = some (r, h1) → mm_E X h 0 0 99 [none, none, none, some (vI y3), none, none, none, none] []) → mm_E X h 0 0 8 [some (vR (some b0)), some (vI b1), some (vI b2), some (vI x3), some (vI x4), some (vI x5), none, none] [] := by
  intro n
  induction n with
  | zero =>
    intro x3 x4 x5 h hf
    exact absurd (show (none : Option (Int32 × mm_H)) = some (r, h1) from hf) (by simp)
  | succ n ih =>
    intro x3 x4 x5 h hf hk99
    have hf : fX2_inForce_L8_b b0 b1 b2 K99 (fX2_inForce_L8 b0 b1 b2 K99 n) x3 x4 x5 h = some (r, h1) := hf
    unfold fX2_inForce_L8_b at hf
    refine me_iload (q := 10) C dX2_inForce_8 rfl rfl ?_
    refine me_aload_n (q := 11) C dX2_inForce_10 rfl rfl rfl ?_
    obtain ⟨k1, hf⟩ := mm_ck_some hf
    refine me_getR (q := 14) C dX2_inForce_11 mf_X2_12 rfl rfl k1 rfl ?_
    obtain ⟨u2, eu2, hf⟩ := mm_rf_some hf
    obtain ⟨k3, hf⟩ := mm_ck_some hf
    obtain ⟨v4, g5, e6, hf⟩ := mm_cl_some hf
    refine me_callV (q := 17) (c2 := 0) (s2 := 0) (st := [vI x5]) C (cJx4a65c_size_8abf5_ok _ e6) mt_X2_34 mv_Jx4a65c_size_8abf5 rfl (by decide) dX2_inForce_14 eu2 k3 rfl rfl rfl (Nat.le_of_ble_eq_true rfl) rfl (Nat.le_of_ble_eq_true rfl) rfl (Nat.le_of_ble_eq_true rfl) rfl rfl ?_
    refine me_icmp_ge (q2 := 99) (q := 20) C dX2_inForce_17 (by decide) rfl (fun c7 => ?_) (fun c7 => ?_)
    · have hf := mm_if_t c7 hf
      refine me_mask [false, false, false, true, false, false, false, false] (lv2 := [none, none, none, some (vI x3), none, none, none, none]) rfl ?_
      exact hk99 _ _ hf
    · have hf := mm_if_f c7 hf
      refine me_aload_n (q := 21) C dX2_inForce_20 rfl rfl rfl ?_
      obtain ⟨k8, hf⟩ := mm_ck_some hf
      refine me_getR (q := 24) C dX2_inForce_21 mf_X2_12 rfl rfl k8 rfl ?_
      refine me_iload (q := 26) C dX2_inForce_24 rfl rfl ?_
      obtain ⟨u9, eu9, hf⟩ := mm_rf_some hf
      obtain ⟨k10, hf⟩ := mm_ck_some hf
      obtain ⟨v11, g12, e13, hf⟩ := mm_cl_some hf
      refine me_callV (q := 29) (c2 := 0) (s2 := 0) (st := []) C (cJx4a65c_get_915e3_ok _ e13) mt_X2_38 mv_Jx4a65c_get_915e3 rfl (by decide) dX2_inForce_26 eu9 k10 rfl rfl rfl (Nat.le_of_ble_eq_true rfl) rfl (Nat.le_of_ble_eq_true rfl) rfl (Nat.le_of_ble_eq_true rfl) rfl rfl ?_
      obtain ⟨u14, eu14, hf⟩ := mm_rf_some hf
      obtain ⟨k15, hf⟩ := mm_ck_some hf
      refine me_cast (q := 32) C dX2_inForce_29 mk_X2_42 eu14 k15 rfl ?_
      refine me_astore (q := 34) (lv2 := [some (vR (some b0)), some (vI b1), some (vI b2), some (vI x3), some (vI x4), some (vI x5), some (vR v11), none]) C dX2_inForce_32 (Nat.le_of_ble_eq_true rfl) rfl rfl rfl ?_
      refine me_aload (q := 36) C dX2_inForce_34 rfl rfl ?_
      refine me_getI (q := 39) C dX2_inForce_36 mf_X2_44 rfl eu14 k15 rfl ?_
      refine me_iconst (v := (-1 : Int32)) (q := 40) C dX2_inForce_39 (by decide) rfl ?_
      obtain ⟨q17, eq17, hf⟩ := mm_jn_some hf
      have Hq17 : ∀ (v16 : Int32), q17 v16 = some (r, h1) → mm_E X g12 0 0 57 [some (vR (some b0)), some (vI b1), some (vI b2), some (vI x3), some (vI x4), some (vI x5), some (vR v11), none] [vI v16] := by
        intro v16 hf
        subst eq17
        refine me_istore (q := 59) (lv2 := [some (vR (some b0)), some (vI b1), some (vI b2), some (vI x3), some (vI x4), some (vI x5), some (vR v11), some (vI v16)]) C dX2_inForce_57 (Nat.le_of_ble_eq_true rfl) rfl rfl rfl ?_
        refine me_aload (q := 61) C dX2_inForce_59 rfl rfl ?_
        refine me_getI (q := 64) C dX2_inForce_61 mf_X2_47 rfl eu14 k15 rfl ?_
        refine me_iload_n (q := 65) C dX2_inForce_64 rfl rfl rfl ?_
        obtain ⟨q20, eq20, hf⟩ := mm_jn_some hf
        have Hq20 : ∀ (v18 : Int32) (v19 : Int32), q20 v18 v19 = some (r, h1) → mm_E X g12 0 0 93 [some (vR (some b0)), some (vI b1), some (vI b2), some (vI v18), some (vI v19), some (vI x5), none, none] [] := by
          intro v18 v19 hf
          subst eq20
          obtain ⟨v21, ev21, hf⟩ := mm_lt_some hf
          refine me_iinc (q := 96) (v := v21) (lv2 := [some (vR (some b0)), some (vI b1), some (vI b2), some (vI v18), some (vI v19), some (vI v21), none, none]) C dX2_inForce_93 rfl (by rw [ev21]; rfl) (Nat.le_of_ble_eq_true rfl) rfl rfl rfl ?_
          refine me_goto (q := 8) C dX2_inForce_96 (by decide) ?_
          exact ih _ _ _ _ hf hk99
        refine me_icmp_ne (q2 := 93) (q := 68) C dX2_inForce_65 (by decide) rfl (fun c22 => ?_) (fun c22 => ?_)
        · have hf := mm_if_t c22 hf
          refine me_mask [true, true, true, true, true, true, false, false] (lv2 := [some (vR (some b0)), some (vI b1), some (vI b2), some (vI x3), some (vI x4), some (vI x5), none, none]) rfl ?_
          exact Hq20 _ _ hf
        · have hf := mm_if_f c22 hf
          refine me_iload (q := 70) C dX2_inForce_68 rfl rfl ?_
          refine me_if_eq (q2 := 93) (q := 73) C dX2_inForce_70 (by decide) rfl (fun c23 => ?_) (fun c23 => ?_)
          · have hf := mm_if_t c23 hf
            refine me_mask [true, true, true, true, true, true, false, false] (lv2 := [some (vR (some b0)), some (vI b1), some (vI b2), some (vI x3), some (vI x4), some (vI x5), none, none]) rfl ?_
            exact Hq20 _ _ hf
          · have hf := mm_if_f c23 hf
            refine me_aload (q := 75) C dX2_inForce_73 rfl rfl ?_
            refine me_getI (q := 78) C dX2_inForce_75 mf_X2_44 rfl eu14 k15 rfl ?_
            refine me_iload (q := 80) C dX2_inForce_78 rfl rfl ?_
            refine me_icmp_lt (q2 := 93) (q := 83) C dX2_inForce_80 (by decide) rfl (fun c24 => ?_) (fun c24 => ?_)
            · have hf := mm_if_t c24 hf
              refine me_mask [true, true, true, true, true, true, false, false] (lv2 := [some (vR (some b0)), some (vI b1), some (vI b2), some (vI x3), some (vI x4), some (vI x5), none, none]) rfl ?_
              exact Hq20 _ _ hf
            · have hf := mm_if_f c24 hf
              refine me_iload (q := 85) C dX2_inForce_83 rfl rfl ?_
              refine me_istore_n (q := 86) (lv2 := [some (vR (some b0)), some (vI b1), some (vI b2), some (vI x5), some (vI x4), some (vI x5), some (vR v11), some (vI v16)]) C dX2_inForce_85 rfl (Nat.le_of_ble_eq_true rfl) rfl rfl rfl ?_
              refine me_aload (q := 88) C dX2_inForce_86 rfl rfl ?_
              refine me_getI (q := 91) C dX2_inForce_88 mf_X2_44 rfl eu14 k15 rfl ?_
              obtain ⟨v25, ev25, hf⟩ := mm_lt_some hf
              refine me_topI ev25 ?_
              refine me_istore (q := 93) (lv2 := [some (vR (some b0)), some (vI b1), some (vI b2), some (vI x5), some (vI v25), some (vI x5), some (vR v11), some (vI v16)]) C dX2_inForce_91 (Nat.le_of_ble_eq_true rfl) rfl rfl rfl ?_
              refine me_mask [true, true, true, true, true, true, false, false] (lv2 := [some (vR (some b0)), some (vI b1), some (vI b2), some (vI x5), some (vI v25), some (vI x5), none, none]) rfl ?_
              exact Hq20 _ _ hf
      obtain ⟨q26, eq26, hf⟩ := mm_jn_some hf
      have Hq26 : ∀ (_u : Unit), q26 _u = some (r, h1) → mm_E X g12 0 0 56 [some (vR (some b0)), some (vI b1), some (vI b2), some (vI x3), some (vI x4), some (vI x5), some (vR v11), none] [] := by
        intro _u hf
        subst eq26
        refine me_iconst (v := (0 : Int32)) (q := 57) C dX2_inForce_56 (by decide) rfl ?_
        exact Hq17 _ hf
      refine me_icmp_eq (q2 := 56) (q := 43) C dX2_inForce_40 (by decide) rfl (fun c27 => ?_) (fun c27 => ?_)
      · have hf := mm_if_t c27 hf
        exact Hq26 () hf
      · have hf := mm_if_f c27 hf
        refine me_aload (q := 45) C dX2_inForce_43 rfl rfl ?_
        refine me_getI (q := 48) C dX2_inForce_45 mf_X2_44 rfl eu14 k15 rfl ?_
        refine me_iload_n (q := 49) C dX2_inForce_48 rfl rfl rfl ?_
        refine me_icmp_gt (q2 := 56) (q := 52) C dX2_inForce_49 (by decide) rfl (fun c28 => ?_) (fun c28 => ?_)
        · have hf := mm_if_t c28 hf
          exact Hq26 () hf
        · have hf := mm_if_f c28 hf
          refine me_iconst (v := (1 : Int32)) (q := 53) C dX2_inForce_52 (by decide) rfl ?_
          refine me_goto (q := 57) C dX2_inForce_53 (by decide) ?_
          exact Hq17 _ hf
set_option maxRecDepth 100000 in
set_option maxHeartbeats 4000000 in
theorem cX2_inForce_ok (l : Launch) {a0 : Nat} {a1 : Int32} {a2 : Int32} {h : mm_H} {r : Int32} {h1 : mm_H} (hf : fX2_inForce a0 a1 a2 h = some (r, h1)) : mm_M l yX2_inForce cX2_inForce 8 (some .int) 8 0 0 [vR (some a0), vI a1, vI a2] h (some (vI r)) h1 := by
  refine mm_enter (lv := [some (vR (some a0)), some (vI a1), some (vI a2), none, none, none, none, none]) (by decide) rfl (Nat.le_of_ble_eq_true rfl) ?_
  intro X hl C hE
  subst hl
  unfold fX2_inForce at hf
  refine me_iconst (v := (-1 : Int32)) (q := 1) C dX2_inForce_0 (by decide) rfl ?_
  refine me_istore_n (q := 2) (lv2 := [some (vR (some a0)), some (vI a1), some (vI a2), some (vI (-1 : Int32)), none, none, none, none]) C dX2_inForce_1 rfl (Nat.le_of_ble_eq_true rfl) rfl rfl rfl ?_
  refine me_iconst (v := (-1 : Int32)) (q := 3) C dX2_inForce_2 (by decide) rfl ?_
  refine me_istore (q := 5) (lv2 := [some (vR (some a0)), some (vI a1), some (vI a2), some (vI (-1 : Int32)), some (vI (-1 : Int32)), none, none, none]) C dX2_inForce_3 (Nat.le_of_ble_eq_true rfl) rfl rfl rfl ?_
  refine me_iconst (v := (0 : Int32)) (q := 6) C dX2_inForce_5 (by decide) rfl ?_
  refine me_istore (q := 8) (lv2 := [some (vR (some a0)), some (vI a1), some (vI a2), some (vI (-1 : Int32)), some (vI (-1 : Int32)), some (vI (0 : Int32)), none, none]) C dX2_inForce_6 (Nat.le_of_ble_eq_true rfl) rfl rfl rfl ?_
  refine cX2_inForce_L8 C hE _ _ _ _ _ _ hf ?_
  · intro z29 g30 hf
    refine me_iload_n (q := 100) C dX2_inForce_99 rfl rfl rfl ?_
    exact me_iret C hE (Nat.le_of_ble_eq_true rfl) (Nat.le_of_ble_eq_true rfl) rfl dX2_inForce_100 (mm_ri hf)
set_option maxRecDepth 100000 in
set_option maxHeartbeats 4000000 in
theorem cX4_compares_ok (l : Launch) {a0 : Int32} {a1 : Int64} {a3 : Int64} {h : mm_H} {r : Int32} {h1 : mm_H} (hf : fX4_compares a0 a1 a3 h = some (r, h1)) : mm_M l yX4_compares cX4_compares 5 (some .boolean) 2 0 0 [vI a0, vJ a1, vJ a3] h (some (vI r)) h1 := by
  refine mm_enter (lv := [some (vI a0), some (vJ a1), none, some (vJ a3), none]) (by decide) rfl (Nat.le_of_ble_eq_true rfl) ?_
  intro X hl C hE
  subst hl
  unfold fX4_compares at hf
  refine me_iload_n (q := 1) C dX4_compares_0 rfl rfl rfl ?_
  by_cases c1 : a0 = 30
  · have hf := mm_if_t c1 hf
    refine me_tabIn (q := 32) C dX4_compares_1 (by rw [c1]; decide) (by rw [c1]; decide) (by rw [c1]; rfl) (by decide) ?_
    refine me_lload_n (q := 33) C dX4_compares_32 rfl rfl rfl ?_
    refine me_lload_n (q := 34) C dX4_compares_33 rfl rfl rfl ?_
    refine me_lcmp (q := 35) C dX4_compares_34 rfl ?_
    refine me_if_ge (q2 := 42) (q := 38) C dX4_compares_35 (by decide) rfl (fun c2 => ?_) (fun c2 => ?_)
    · have hf := mm_if_t c2 hf
      refine me_iconst (v := (0 : Int32)) (q := 43) C dX4_compares_42 (by decide) rfl ?_
      exact me_zret C hE (Nat.le_of_ble_eq_true rfl) (Nat.le_of_ble_eq_true rfl) rfl (Or.inl rfl) dX4_compares_43 (mm_ri hf)
    · have hf := mm_if_f c2 hf
      refine me_iconst (v := (1 : Int32)) (q := 39) C dX4_compares_38 (by decide) rfl ?_
      refine me_goto (q := 43) C dX4_compares_39 (by decide) ?_
      exact me_zret C hE (Nat.le_of_ble_eq_true rfl) (Nat.le_of_ble_eq_true rfl) rfl (Or.inr rfl) dX4_compares_43 (mm_ri hf)
  have hf := mm_if_f c1 hf
  by_cases c3 : a0 = 31
  · have hf := mm_if_t c3 hf
    refine me_tabIn (q := 44) C dX4_compares_1 (by rw [c3]; decide) (by rw [c3]; decide) (by rw [c3]; rfl) (by decide) ?_
    refine me_lload_n (q := 45) C dX4_compares_44 rfl rfl rfl ?_
    refine me_lload_n (q := 46) C dX4_compares_45 rfl rfl rfl ?_
    refine me_lcmp (q := 47) C dX4_compares_46 rfl ?_
    refine me_if_gt (q2 := 54) (q := 50) C dX4_compares_47 (by decide) rfl (fun c4 => ?_) (fun c4 => ?_)
    · have hf := mm_if_t c4 hf
      refine me_iconst (v := (0 : Int32)) (q := 55) C dX4_compares_54 (by decide) rfl ?_
      exact me_zret C hE (Nat.le_of_ble_eq_true rfl) (Nat.le_of_ble_eq_true rfl) rfl (Or.inl rfl) dX4_compares_55 (mm_ri hf)
    · have hf := mm_if_f c4 hf
      refine me_iconst (v := (1 : Int32)) (q := 51) C dX4_compares_50 (by decide) rfl ?_
      refine me_goto (q := 55) C dX4_compares_51 (by decide) ?_
      exact me_zret C hE (Nat.le_of_ble_eq_true rfl) (Nat.le_of_ble_eq_true rfl) rfl (Or.inr rfl) dX4_compares_55 (mm_ri hf)
  have hf := mm_if_f c3 hf
  by_cases c5 : a0 = 32
  · have hf := mm_if_t c5 hf
    refine me_tabIn (q := 56) C dX4_compares_1 (by rw [c5]; decide) (by rw [c5]; decide) (by rw [c5]; rfl) (by decide) ?_
    refine me_lload_n (q := 57) C dX4_compares_56 rfl rfl rfl ?_
    refine me_lload_n (q := 58) C dX4_compares_57 rfl rfl rfl ?_
    refine me_lcmp (q := 59) C dX4_compares_58 rfl ?_
    refine me_if_ne (q2 := 66) (q := 62) C dX4_compares_59 (by decide) rfl (fun c6 => ?_) (fun c6 => ?_)
    · have hf := mm_if_t c6 hf
      refine me_iconst (v := (0 : Int32)) (q := 67) C dX4_compares_66 (by decide) rfl ?_
      exact me_zret C hE (Nat.le_of_ble_eq_true rfl) (Nat.le_of_ble_eq_true rfl) rfl (Or.inl rfl) dX4_compares_67 (mm_ri hf)
    · have hf := mm_if_f c6 hf
      refine me_iconst (v := (1 : Int32)) (q := 63) C dX4_compares_62 (by decide) rfl ?_
      refine me_goto (q := 67) C dX4_compares_63 (by decide) ?_
      exact me_zret C hE (Nat.le_of_ble_eq_true rfl) (Nat.le_of_ble_eq_true rfl) rfl (Or.inr rfl) dX4_compares_67 (mm_ri hf)
  have hf := mm_if_f c5 hf
  by_cases c7 : a0 = 33
  · have hf := mm_if_t c7 hf
    refine me_tabIn (q := 68) C dX4_compares_1 (by rw [c7]; decide) (by rw [c7]; decide) (by rw [c7]; rfl) (by decide) ?_
    refine me_lload_n (q := 69) C dX4_compares_68 rfl rfl rfl ?_
    refine me_lload_n (q := 70) C dX4_compares_69 rfl rfl rfl ?_
    refine me_lcmp (q := 71) C dX4_compares_70 rfl ?_
    refine me_if_lt (q2 := 78) (q := 74) C dX4_compares_71 (by decide) rfl (fun c8 => ?_) (fun c8 => ?_)
    · have hf := mm_if_t c8 hf
      refine me_iconst (v := (0 : Int32)) (q := 79) C dX4_compares_78 (by decide) rfl ?_
      exact me_zret C hE (Nat.le_of_ble_eq_true rfl) (Nat.le_of_ble_eq_true rfl) rfl (Or.inl rfl) dX4_compares_79 (mm_ri hf)
    · have hf := mm_if_f c8 hf
      refine me_iconst (v := (1 : Int32)) (q := 75) C dX4_compares_74 (by decide) rfl ?_
      refine me_goto (q := 79) C dX4_compares_75 (by decide) ?_
      exact me_zret C hE (Nat.le_of_ble_eq_true rfl) (Nat.le_of_ble_eq_true rfl) rfl (Or.inr rfl) dX4_compares_79 (mm_ri hf)
  have hf := mm_if_f c7 hf
  refine me_tabOut (q := 80) C dX4_compares_1 ?_ (by decide) ?_
  · by_cases hz : a0.toInt < 30 ∨ 33 < a0.toInt
    · exact hz
    · exfalso
      have hw : a0.toInt = 30 ∨ a0.toInt = 31 ∨ a0.toInt = 32 ∨ a0.toInt = 33 := by omega
      rcases hw with hw | hw | hw | hw
      · exact c1 (mm_sw hw)
      · exact c3 (mm_sw hw)
      · exact c5 (mm_sw hw)
      · exact c7 (mm_sw hw)
  · refine me_lload_n (q := 81) C dX4_compares_80 rfl rfl rfl ?_
    refine me_lload_n (q := 82) C dX4_compares_81 rfl rfl rfl ?_
    refine me_lcmp (q := 83) C dX4_compares_82 rfl ?_
    refine me_if_le (q2 := 90) (q := 86) C dX4_compares_83 (by decide) rfl (fun c9 => ?_) (fun c9 => ?_)
    · have hf := mm_if_t c9 hf
      refine me_iconst (v := (0 : Int32)) (q := 91) C dX4_compares_90 (by decide) rfl ?_
      exact me_zret C hE (Nat.le_of_ble_eq_true rfl) (Nat.le_of_ble_eq_true rfl) rfl (Or.inl rfl) dX4_compares_91 (mm_ri hf)
    · have hf := mm_if_f c9 hf
      refine me_iconst (v := (1 : Int32)) (q := 87) C dX4_compares_86 (by decide) rfl ?_
      refine me_goto (q := 91) C dX4_compares_87 (by decide) ?_
      exact me_zret C hE (Nat.le_of_ble_eq_true rfl) (Nat.le_of_ble_eq_true rfl) rfl (Or.inr rfl) dX4_compares_91 (mm_ri hf)
set_option maxRecDepth 100000 in
set_option maxHeartbeats 4000000 in
theorem cX4_combine_ok (l : Launch) {a0 : Int32} {a1 : Int64} {a3 : Int64} {h : mm_H} {r : Int64} {h1 : mm_H} (hf : fX4_combine a0 a1 a3 h = some (r, h1)) : mm_M l yX4_combine cX4_combine 5 (some .long) 4 0 0 [vI a0, vJ a1, vJ a3] h (some (vJ r)) h1 := by
  refine mm_enter (lv := [some (vI a0), some (vJ a1), none, some (vJ a3), none]) (by decide) rfl (Nat.le_of_ble_eq_true rfl) ?_
  intro X hl C hE
  subst hl
  unfold fX4_combine at hf
  refine me_iload_n (q := 1) C dX4_combine_0 rfl rfl rfl ?_
  by_cases c1 : a0 = 18
  · have hf := mm_if_t c1 hf
    refine me_tabIn (q := 64) C dX4_combine_1 (by rw [c1]; decide) (by rw [c1]; decide) (by rw [c1]; rfl) (by decide) ?_
    refine me_lload_n (q := 65) C dX4_combine_64 rfl rfl rfl ?_
    refine me_lload_n (q := 66) C dX4_combine_65 rfl rfl rfl ?_
    refine me_lor (q := 67) C dX4_combine_66 rfl ?_
    exact me_lret C hE (Nat.le_of_ble_eq_true rfl) (Nat.le_of_ble_eq_true rfl) rfl dX4_combine_67 (mm_rj hf)
  have hf := mm_if_f c1 hf
  by_cases c2 : a0 = 19
  · have hf := mm_if_t c2 hf
    refine me_tabIn (q := 68) C dX4_combine_1 (by rw [c2]; decide) (by rw [c2]; decide) (by rw [c2]; rfl) (by decide) ?_
    refine me_lload_n (q := 69) C dX4_combine_68 rfl rfl rfl ?_
    refine me_lload_n (q := 70) C dX4_combine_69 rfl rfl rfl ?_
    refine me_land (q := 71) C dX4_combine_70 rfl ?_
    exact me_lret C hE (Nat.le_of_ble_eq_true rfl) (Nat.le_of_ble_eq_true rfl) rfl dX4_combine_71 (mm_rj hf)
  have hf := mm_if_f c2 hf
  by_cases c3 : a0 = 20
  · have hf := mm_if_t c3 hf
    refine me_tabIn (q := 84) C dX4_combine_1 (by rw [c3]; decide) (by rw [c3]; decide) (by rw [c3]; rfl) (by decide) ?_
    refine me_iload_n (q := 85) C dX4_combine_84 rfl rfl rfl ?_
    refine me_lload_n (q := 86) C dX4_combine_85 rfl rfl rfl ?_
    refine me_lload_n (q := 87) C dX4_combine_86 rfl rfl rfl ?_
    obtain ⟨v4, g5, e6, hf⟩ := mm_cl_some hf
    refine me_callS (q := 90) (c2 := 0) (s2 := 0) (st := []) C (cX4_compares_ok _ e6) mt_X4_39 ms_X4_compares dX4_combine_87 rfl rfl rfl (Nat.le_of_ble_eq_true rfl) rfl (Nat.le_of_ble_eq_true rfl) rfl (Nat.le_of_ble_eq_true rfl) rfl rfl ?_
    refine me_if_eq (q2 := 97) (q := 93) C dX4_combine_90 (by decide) rfl (fun c7 => ?_) (fun c7 => ?_)
    · have hf := mm_if_t c7 hf
      refine me_lconst (v := (0 : Int64)) (q := 98) C dX4_combine_97 (by decide) rfl ?_
      exact me_lret C hE (Nat.le_of_ble_eq_true rfl) (Nat.le_of_ble_eq_true rfl) rfl dX4_combine_98 (mm_rj hf)
    · have hf := mm_if_f c7 hf
      refine me_lconst (v := (1 : Int64)) (q := 94) C dX4_combine_93 (by decide) rfl ?_
      refine me_goto (q := 98) C dX4_combine_94 (by decide) ?_
      exact me_lret C hE (Nat.le_of_ble_eq_true rfl) (Nat.le_of_ble_eq_true rfl) rfl dX4_combine_98 (mm_rj hf)
  have hf := mm_if_f c3 hf
  by_cases c8 : a0 = 21
  · have hf := mm_if_t c8 hf
    refine me_tabIn (q := 84) C dX4_combine_1 (by rw [c8]; decide) (by rw [c8]; decide) (by rw [c8]; rfl) (by decide) ?_
    refine me_iload_n (q := 85) C dX4_combine_84 rfl rfl rfl ?_
    refine me_lload_n (q := 86) C dX4_combine_85 rfl rfl rfl ?_
    refine me_lload_n (q := 87) C dX4_combine_86 rfl rfl rfl ?_
    obtain ⟨v9, g10, e11, hf⟩ := mm_cl_some hf
    refine me_callS (q := 90) (c2 := 0) (s2 := 0) (st := []) C (cX4_compares_ok _ e11) mt_X4_39 ms_X4_compares dX4_combine_87 rfl rfl rfl (Nat.le_of_ble_eq_true rfl) rfl (Nat.le_of_ble_eq_true rfl) rfl (Nat.le_of_ble_eq_true rfl) rfl rfl ?_
    refine me_if_eq (q2 := 97) (q := 93) C dX4_combine_90 (by decide) rfl (fun c12 => ?_) (fun c12 => ?_)
    · have hf := mm_if_t c12 hf
      refine me_lconst (v := (0 : Int64)) (q := 98) C dX4_combine_97 (by decide) rfl ?_
      exact me_lret C hE (Nat.le_of_ble_eq_true rfl) (Nat.le_of_ble_eq_true rfl) rfl dX4_combine_98 (mm_rj hf)
    · have hf := mm_if_f c12 hf
      refine me_lconst (v := (1 : Int64)) (q := 94) C dX4_combine_93 (by decide) rfl ?_
      refine me_goto (q := 98) C dX4_combine_94 (by decide) ?_
      exact me_lret C hE (Nat.le_of_ble_eq_true rfl) (Nat.le_of_ble_eq_true rfl) rfl dX4_combine_98 (mm_rj hf)
  have hf := mm_if_f c8 hf
  by_cases c13 : a0 = 22
  · have hf := mm_if_t c13 hf
    refine me_tabIn (q := 84) C dX4_combine_1 (by rw [c13]; decide) (by rw [c13]; decide) (by rw [c13]; rfl) (by decide) ?_
    refine me_iload_n (q := 85) C dX4_combine_84 rfl rfl rfl ?_
    refine me_lload_n (q := 86) C dX4_combine_85 rfl rfl rfl ?_
    refine me_lload_n (q := 87) C dX4_combine_86 rfl rfl rfl ?_
    obtain ⟨v14, g15, e16, hf⟩ := mm_cl_some hf
    refine me_callS (q := 90) (c2 := 0) (s2 := 0) (st := []) C (cX4_compares_ok _ e16) mt_X4_39 ms_X4_compares dX4_combine_87 rfl rfl rfl (Nat.le_of_ble_eq_true rfl) rfl (Nat.le_of_ble_eq_true rfl) rfl (Nat.le_of_ble_eq_true rfl) rfl rfl ?_
    refine me_if_eq (q2 := 97) (q := 93) C dX4_combine_90 (by decide) rfl (fun c17 => ?_) (fun c17 => ?_)
    · have hf := mm_if_t c17 hf
      refine me_lconst (v := (0 : Int64)) (q := 98) C dX4_combine_97 (by decide) rfl ?_
      exact me_lret C hE (Nat.le_of_ble_eq_true rfl) (Nat.le_of_ble_eq_true rfl) rfl dX4_combine_98 (mm_rj hf)
    · have hf := mm_if_f c17 hf
      refine me_lconst (v := (1 : Int64)) (q := 94) C dX4_combine_93 (by decide) rfl ?_
      refine me_goto (q := 98) C dX4_combine_94 (by decide) ?_
      exact me_lret C hE (Nat.le_of_ble_eq_true rfl) (Nat.le_of_ble_eq_true rfl) rfl dX4_combine_98 (mm_rj hf)
  have hf := mm_if_f c13 hf
  by_cases c18 : a0 = 23
  · have hf := mm_if_t c18 hf
    refine me_tabIn (q := 84) C dX4_combine_1 (by rw [c18]; decide) (by rw [c18]; decide) (by rw [c18]; rfl) (by decide) ?_
    refine me_iload_n (q := 85) C dX4_combine_84 rfl rfl rfl ?_
    refine me_lload_n (q := 86) C dX4_combine_85 rfl rfl rfl ?_
    refine me_lload_n (q := 87) C dX4_combine_86 rfl rfl rfl ?_
    obtain ⟨v19, g20, e21, hf⟩ := mm_cl_some hf
    refine me_callS (q := 90) (c2 := 0) (s2 := 0) (st := []) C (cX4_compares_ok _ e21) mt_X4_39 ms_X4_compares dX4_combine_87 rfl rfl rfl (Nat.le_of_ble_eq_true rfl) rfl (Nat.le_of_ble_eq_true rfl) rfl (Nat.le_of_ble_eq_true rfl) rfl rfl ?_
    refine me_if_eq (q2 := 97) (q := 93) C dX4_combine_90 (by decide) rfl (fun c22 => ?_) (fun c22 => ?_)
    · have hf := mm_if_t c22 hf
      refine me_lconst (v := (0 : Int64)) (q := 98) C dX4_combine_97 (by decide) rfl ?_
      exact me_lret C hE (Nat.le_of_ble_eq_true rfl) (Nat.le_of_ble_eq_true rfl) rfl dX4_combine_98 (mm_rj hf)
    · have hf := mm_if_f c22 hf
      refine me_lconst (v := (1 : Int64)) (q := 94) C dX4_combine_93 (by decide) rfl ?_
      refine me_goto (q := 98) C dX4_combine_94 (by decide) ?_
      exact me_lret C hE (Nat.le_of_ble_eq_true rfl) (Nat.le_of_ble_eq_true rfl) rfl dX4_combine_98 (mm_rj hf)
  have hf := mm_if_f c18 hf
  by_cases c23 : a0 = 24
  · have hf := mm_if_t c23 hf
    refine me_tabIn (q := 84) C dX4_combine_1 (by rw [c23]; decide) (by rw [c23]; decide) (by rw [c23]; rfl) (by decide) ?_
    refine me_iload_n (q := 85) C dX4_combine_84 rfl rfl rfl ?_
    refine me_lload_n (q := 86) C dX4_combine_85 rfl rfl rfl ?_
    refine me_lload_n (q := 87) C dX4_combine_86 rfl rfl rfl ?_
    obtain ⟨v24, g25, e26, hf⟩ := mm_cl_some hf
    refine me_callS (q := 90) (c2 := 0) (s2 := 0) (st := []) C (cX4_compares_ok _ e26) mt_X4_39 ms_X4_compares dX4_combine_87 rfl rfl rfl (Nat.le_of_ble_eq_true rfl) rfl (Nat.le_of_ble_eq_true rfl) rfl (Nat.le_of_ble_eq_true rfl) rfl rfl ?_
    refine me_if_eq (q2 := 97) (q := 93) C dX4_combine_90 (by decide) rfl (fun c27 => ?_) (fun c27 => ?_)
    · have hf := mm_if_t c27 hf
      refine me_lconst (v := (0 : Int64)) (q := 98) C dX4_combine_97 (by decide) rfl ?_
      exact me_lret C hE (Nat.le_of_ble_eq_true rfl) (Nat.le_of_ble_eq_true rfl) rfl dX4_combine_98 (mm_rj hf)
    · have hf := mm_if_f c27 hf
      refine me_lconst (v := (1 : Int64)) (q := 94) C dX4_combine_93 (by decide) rfl ?_
      refine me_goto (q := 98) C dX4_combine_94 (by decide) ?_
      exact me_lret C hE (Nat.le_of_ble_eq_true rfl) (Nat.le_of_ble_eq_true rfl) rfl dX4_combine_98 (mm_rj hf)
  have hf := mm_if_f c23 hf
  by_cases c28 : a0 = 25
  · have hf := mm_if_t c28 hf
    refine me_tabIn (q := 84) C dX4_combine_1 (by rw [c28]; decide) (by rw [c28]; decide) (by rw [c28]; rfl) (by decide) ?_
    refine me_iload_n (q := 85) C dX4_combine_84 rfl rfl rfl ?_
    refine me_lload_n (q := 86) C dX4_combine_85 rfl rfl rfl ?_
    refine me_lload_n (q := 87) C dX4_combine_86 rfl rfl rfl ?_
    obtain ⟨v29, g30, e31, hf⟩ := mm_cl_some hf
    refine me_callS (q := 90) (c2 := 0) (s2 := 0) (st := []) C (cX4_compares_ok _ e31) mt_X4_39 ms_X4_compares dX4_combine_87 rfl rfl rfl (Nat.le_of_ble_eq_true rfl) rfl (Nat.le_of_ble_eq_true rfl) rfl (Nat.le_of_ble_eq_true rfl) rfl rfl ?_
    refine me_if_eq (q2 := 97) (q := 93) C dX4_combine_90 (by decide) rfl (fun c32 => ?_) (fun c32 => ?_)
    · have hf := mm_if_t c32 hf
      refine me_lconst (v := (0 : Int64)) (q := 98) C dX4_combine_97 (by decide) rfl ?_
      exact me_lret C hE (Nat.le_of_ble_eq_true rfl) (Nat.le_of_ble_eq_true rfl) rfl dX4_combine_98 (mm_rj hf)
    · have hf := mm_if_f c32 hf
      refine me_lconst (v := (1 : Int64)) (q := 94) C dX4_combine_93 (by decide) rfl ?_
      refine me_goto (q := 98) C dX4_combine_94 (by decide) ?_
      exact me_lret C hE (Nat.le_of_ble_eq_true rfl) (Nat.le_of_ble_eq_true rfl) rfl dX4_combine_98 (mm_rj hf)
  have hf := mm_if_f c28 hf
  by_cases c33 : a0 = 26
  · have hf := mm_if_t c33 hf
    refine me_tabIn (q := 84) C dX4_combine_1 (by rw [c33]; decide) (by rw [c33]; decide) (by rw [c33]; rfl) (by decide) ?_
    refine me_iload_n (q := 85) C dX4_combine_84 rfl rfl rfl ?_
    refine me_lload_n (q := 86) C dX4_combine_85 rfl rfl rfl ?_
    refine me_lload_n (q := 87) C dX4_combine_86 rfl rfl rfl ?_
    obtain ⟨v34, g35, e36, hf⟩ := mm_cl_some hf
    refine me_callS (q := 90) (c2 := 0) (s2 := 0) (st := []) C (cX4_compares_ok _ e36) mt_X4_39 ms_X4_compares dX4_combine_87 rfl rfl rfl (Nat.le_of_ble_eq_true rfl) rfl (Nat.le_of_ble_eq_true rfl) rfl (Nat.le_of_ble_eq_true rfl) rfl rfl ?_
    refine me_if_eq (q2 := 97) (q := 93) C dX4_combine_90 (by decide) rfl (fun c37 => ?_) (fun c37 => ?_)
    · have hf := mm_if_t c37 hf
      refine me_lconst (v := (0 : Int64)) (q := 98) C dX4_combine_97 (by decide) rfl ?_
      exact me_lret C hE (Nat.le_of_ble_eq_true rfl) (Nat.le_of_ble_eq_true rfl) rfl dX4_combine_98 (mm_rj hf)
    · have hf := mm_if_f c37 hf
      refine me_lconst (v := (1 : Int64)) (q := 94) C dX4_combine_93 (by decide) rfl ?_
      refine me_goto (q := 98) C dX4_combine_94 (by decide) ?_
      exact me_lret C hE (Nat.le_of_ble_eq_true rfl) (Nat.le_of_ble_eq_true rfl) rfl dX4_combine_98 (mm_rj hf)
  have hf := mm_if_f c33 hf
  by_cases c38 : a0 = 27
  · have hf := mm_if_t c38 hf
    refine me_tabIn (q := 72) C dX4_combine_1 (by rw [c38]; decide) (by rw [c38]; decide) (by rw [c38]; rfl) (by decide) ?_
    refine me_lload_n (q := 73) C dX4_combine_72 rfl rfl rfl ?_
    refine me_lload_n (q := 74) C dX4_combine_73 rfl rfl rfl ?_
    refine me_ladd (q := 75) C dX4_combine_74 rfl ?_
    exact me_lret C hE (Nat.le_of_ble_eq_true rfl) (Nat.le_of_ble_eq_true rfl) rfl dX4_combine_75 (mm_rj hf)
  have hf := mm_if_f c38 hf
  by_cases c39 : a0 = 28
  · have hf := mm_if_t c39 hf
    refine me_tabIn (q := 76) C dX4_combine_1 (by rw [c39]; decide) (by rw [c39]; decide) (by rw [c39]; rfl) (by decide) ?_
    refine me_lload_n (q := 77) C dX4_combine_76 rfl rfl rfl ?_
    refine me_lload_n (q := 78) C dX4_combine_77 rfl rfl rfl ?_
    refine me_lsub (q := 79) C dX4_combine_78 rfl ?_
    exact me_lret C hE (Nat.le_of_ble_eq_true rfl) (Nat.le_of_ble_eq_true rfl) rfl dX4_combine_79 (mm_rj hf)
  have hf := mm_if_f c39 hf
  by_cases c40 : a0 = 29
  · have hf := mm_if_t c40 hf
    refine me_tabIn (q := 80) C dX4_combine_1 (by rw [c40]; decide) (by rw [c40]; decide) (by rw [c40]; rfl) (by decide) ?_
    refine me_lload_n (q := 81) C dX4_combine_80 rfl rfl rfl ?_
    refine me_lload_n (q := 82) C dX4_combine_81 rfl rfl rfl ?_
    refine me_lmul (q := 83) C dX4_combine_82 rfl ?_
    exact me_lret C hE (Nat.le_of_ble_eq_true rfl) (Nat.le_of_ble_eq_true rfl) rfl dX4_combine_83 (mm_rj hf)
  have hf := mm_if_f c40 hf
  refine me_tabOut (q := 84) C dX4_combine_1 ?_ (by decide) ?_
  · by_cases hz : a0.toInt < 18 ∨ 29 < a0.toInt
    · exact hz
    · exfalso
      have hw : a0.toInt = 18 ∨ a0.toInt = 19 ∨ a0.toInt = 20 ∨ a0.toInt = 21 ∨ a0.toInt = 22 ∨ a0.toInt = 23 ∨ a0.toInt = 24 ∨ a0.toInt = 25 ∨ a0.toInt = 26 ∨ a0.toInt = 27 ∨ a0.toInt = 28 ∨ a0.toInt = 29 := by omega
      rcases hw with hw | hw | hw | hw | hw | hw | hw | hw | hw | hw | hw | hw
      · exact c1 (mm_sw hw)
      · exact c2 (mm_sw hw)
      · exact c3 (mm_sw hw)
      · exact c8 (mm_sw hw)
      · exact c13 (mm_sw hw)
      · exact c18 (mm_sw hw)
      · exact c23 (mm_sw hw)
      · exact c28 (mm_sw hw)
      · exact c33 (mm_sw hw)
      · exact c38 (mm_sw hw)
      · exact c39 (mm_sw hw)
      · exact c40 (mm_sw hw)
  · refine me_iload_n (q := 85) C dX4_combine_84 rfl rfl rfl ?_
    refine me_lload_n (q := 86) C dX4_combine_85 rfl rfl rfl ?_
    refine me_lload_n (q := 87) C dX4_combine_86 rfl rfl rfl ?_
    obtain ⟨v41, g42, e43, hf⟩ := mm_cl_some hf
    refine me_callS (q := 90) (c2 := 0) (s2 := 0) (st := []) C (cX4_compares_ok _ e43) mt_X4_39 ms_X4_compares dX4_combine_87 rfl rfl rfl (Nat.le_of_ble_eq_true rfl) rfl (Nat.le_of_ble_eq_true rfl) rfl (Nat.le_of_ble_eq_true rfl) rfl rfl ?_
    refine me_if_eq (q2 := 97) (q := 93) C dX4_combine_90 (by decide) rfl (fun c44 => ?_) (fun c44 => ?_)
    · have hf := mm_if_t c44 hf
      refine me_lconst (v := (0 : Int64)) (q := 98) C dX4_combine_97 (by decide) rfl ?_
      exact me_lret C hE (Nat.le_of_ble_eq_true rfl) (Nat.le_of_ble_eq_true rfl) rfl dX4_combine_98 (mm_rj hf)
    · have hf := mm_if_f c44 hf
      refine me_lconst (v := (1 : Int64)) (q := 94) C dX4_combine_93 (by decide) rfl ?_
      refine me_goto (q := 98) C dX4_combine_94 (by decide) ?_
      exact me_lret C hE (Nat.le_of_ble_eq_true rfl) (Nat.le_of_ble_eq_true rfl) rfl dX4_combine_98 (mm_rj hf)
set_option maxRecDepth 100000 in
set_option maxHeartbeats 4000000 in
theorem cX4_isTrue_L11 {X : mm_X} (C : mm_C X cX4_isTrue yX4_isTrue 6 0 0) {r : Int32} {h1 : mm_H} (hE : mm_End X 0 0 (some .boolean) (some (vI r)) h1) {b0 : Nat} {b1 : Int32} {b2 : Nat} {b3 : Nat} (K161 : Int32 → mm_H → Option (Int32 × mm_H)) : ∀ (n : Nat) (x4 : Int32) (x5 : Int32) (h : mm_H), fX4_isTrue_L11 b0 b1 b2 b3 K161 n x4 x5 h = some (r, h1) → (∀ (y4 : Int32) (h : mm_H), K161 y4 h = some (r, h1) → mm_E X h 0 0 161 [none, none, none, some (vR (some b3)), some (vI y4), none, none, none] []) → mm_E X h 0 0 11 [some (vR (some b0)), some (vI b1), some (vR (some b2)), some (vR (some b3)), some (vI x4), some (vI x5), none, none] [] := by
  intro n
  induction n with
  | zero =>
    intro x4 x5 h hf
    exact absurd (show (none : Option (Int32 × mm_H)) = some (r, h1) from hf) (by simp)
  | succ n ih =>
    intro x4 x5 h hf hk161
    have hf : fX4_isTrue_L11_b b0 b1 b2 b3 K161 (fX4_isTrue_L11 b0 b1 b2 b3 K161 n) x4 x5 h = some (r, h1) := hf
    unfold fX4_isTrue_L11_b at hf
    refine me_iload (q := 13) C dX4_isTrue_11 rfl rfl ?_
    refine me_aload_n (q := 14) C dX4_isTrue_13 rfl rfl rfl ?_
    obtain ⟨k6, hf⟩ := mm_ck_some hf
    refine me_getR (q := 17) C dX4_isTrue_14 mf_X4_25 rfl rfl k6 rfl ?_
    refine me_iload_n (q := 18) C dX4_isTrue_17 rfl rfl rfl ?_
    refine me_iconst (v := (1 : Int32)) (q := 19) C dX4_isTrue_18 (by decide) rfl ?_
    refine me_iadd (q := 20) C dX4_isTrue_19 rfl ?_
    obtain ⟨u7, eu7, hf⟩ := mm_rf_some hf
    obtain ⟨k8, hf⟩ := mm_ck_some hf
    obtain ⟨k9, hf⟩ := mm_ck_some hf
    refine me_iald (q := 21) C dX4_isTrue_20 eu7 k8 k9 rfl ?_
    refine me_icmp_ge (q2 := 161) (q := 24) C dX4_isTrue_21 (by decide) rfl (fun c10 => ?_) (fun c10 => ?_)
    · have hf := mm_if_t c10 hf
      refine me_mask [false, false, false, true, true, false, false, false] (lv2 := [none, none, none, some (vR (some b3)), some (vI x4), none, none, none]) rfl ?_
      exact hk161 _ _ hf
    · have hf := mm_if_f c10 hf
      refine me_iload (q := 26) C dX4_isTrue_24 rfl rfl ?_
      refine me_aload_n (q := 27) C dX4_isTrue_26 rfl rfl rfl ?_
      refine me_getR (q := 30) C dX4_isTrue_27 mf_X4_28 rfl rfl k6 rfl ?_
      obtain ⟨u11, eu11, hf⟩ := mm_rf_some hf
      obtain ⟨k12, hf⟩ := mm_ck_some hf
      refine me_alen (q := 31) C 0 rfl (by decide) dX4_isTrue_30 eu11 k12 rfl ?_
      refine me_icmp_ge (q2 := 161) (q := 34) C dX4_isTrue_31 (by decide) rfl (fun c13 => ?_) (fun c13 => ?_)
      · have hf := mm_if_t c13 hf
        refine me_mask [false, false, false, true, true, false, false, false] (lv2 := [none, none, none, some (vR (some b3)), some (vI x4), none, none, none]) rfl ?_
        exact hk161 _ _ hf
      · have hf := mm_if_f c13 hf
        refine me_aload_n (q := 35) C dX4_isTrue_34 rfl rfl rfl ?_
        refine me_getR (q := 38) C dX4_isTrue_35 mf_X4_28 rfl rfl k6 rfl ?_
        refine me_iload (q := 40) C dX4_isTrue_38 rfl rfl ?_
        obtain ⟨k14, hf⟩ := mm_ck_some hf
        refine me_iald (q := 41) C dX4_isTrue_40 eu11 k12 k14 rfl ?_
        obtain ⟨v15, ev15, hf⟩ := mm_lt_some hf
        refine me_topI ev15 ?_
        refine me_istore (q := 43) (lv2 := [some (vR (some b0)), some (vI b1), some (vR (some b2)), some (vR (some b3)), some (vI x4), some (vI x5), some (vI v15), none]) C dX4_isTrue_41 (Nat.le_of_ble_eq_true rfl) rfl rfl rfl ?_
        refine me_iconst (v := (-1 : Int32)) (q := 44) C dX4_isTrue_43 (by decide) rfl ?_
        refine me_iload (q := 46) C dX4_isTrue_44 rfl rfl ?_
        refine me_isub (q := 47) C dX4_isTrue_46 rfl ?_
        obtain ⟨v16, ev16, hf⟩ := mm_lt_some hf
        refine me_topI ev16 ?_
        refine me_istore (q := 49) (lv2 := [some (vR (some b0)), some (vI b1), some (vR (some b2)), some (vR (some b3)), some (vI x4), some (vI x5), some (vI v15), some (vI v16)]) C dX4_isTrue_47 (Nat.le_of_ble_eq_true rfl) rfl rfl rfl ?_
        refine me_iload (q := 51) C dX4_isTrue_49 rfl rfl ?_
        obtain ⟨q19, eq19, hf⟩ := mm_jn_some hf
        have Hq19 : ∀ (v17 : Int32) (g18 : mm_H), q19 v17 g18 = some (r, h1) → mm_E X g18 0 0 155 [some (vR (some b0)), some (vI b1), some (vR (some b2)), some (vR (some b3)), some (vI v17), some (vI x5), none, none] [] := by
          intro v17 g18 hf
          subst eq19
          obtain ⟨v20, ev20, hf⟩ := mm_lt_some hf
          refine me_iinc (q := 158) (v := v20) (lv2 := [some (vR (some b0)), some (vI b1), some (vR (some b2)), some (vR (some b3)), some (vI v17), some (vI v20), none, none]) C dX4_isTrue_155 rfl (by rw [ev20]; rfl) (Nat.le_of_ble_eq_true rfl) rfl rfl rfl ?_
          refine me_goto (q := 11) C dX4_isTrue_158 (by decide) ?_
          exact ih _ _ _ hf hk161
        obtain ⟨q21, eq21, hf⟩ := mm_jn_some hf
        have Hq21 : ∀ (_u : Unit), q21 _u = some (r, h1) → mm_E X h 0 0 61 [some (vR (some b0)), some (vI b1), some (vR (some b2)), some (vR (some b3)), some (vI x4), some (vI x5), some (vI v15), some (vI v16)] [] := by
          intro _u hf
          subst eq21
          refine me_iload (q := 63) C dX4_isTrue_61 rfl rfl ?_
          refine me_aload_n (q := 64) C dX4_isTrue_63 rfl rfl rfl ?_
          obtain ⟨k22, hf⟩ := mm_ck_some hf
          refine me_alen (q := 65) C 1 rfl (by decide) dX4_isTrue_64 rfl k22 rfl ?_
          refine me_icmp_lt (q2 := 70) (q := 68) C dX4_isTrue_65 (by decide) rfl (fun c23 => ?_) (fun c23 => ?_)
          · have hf := mm_if_t c23 hf
            refine me_aload_n (q := 71) C dX4_isTrue_70 rfl rfl rfl ?_
            refine me_iload (q := 73) C dX4_isTrue_71 rfl rfl ?_
            refine me_iload (q := 75) C dX4_isTrue_73 rfl rfl ?_
            obtain ⟨q25, eq25, hf⟩ := mm_jn_some hf
            have Hq25 : ∀ (v24 : Int64), q25 v24 = some (r, h1) → mm_E X h 0 0 88 [some (vR (some b0)), some (vI b1), some (vR (some b2)), some (vR (some b3)), some (vI x4), some (vI x5), none, none] [vJ v24, vI x4, vR (some b3)] := by
              intro v24 hf
              subst eq25
              obtain ⟨k26, hf⟩ := mm_ck_some hf
              obtain ⟨g27, eg27, hf⟩ := mm_lt_some hf
              refine me_lastH (q := 89) C eg27 dX4_isTrue_88 rfl k22 k26 rfl ?_
              obtain ⟨v28, ev28, hf⟩ := mm_lt_some hf
              refine me_iinc (q := 92) (v := v28) (lv2 := [some (vR (some b0)), some (vI b1), some (vR (some b2)), some (vR (some b3)), some (vI v28), some (vI x5), none, none]) C dX4_isTrue_89 rfl (by rw [ev28]; rfl) (Nat.le_of_ble_eq_true rfl) rfl rfl rfl ?_
              refine me_goto (q := 155) C dX4_isTrue_92 (by decide) ?_
              exact Hq19 _ _ hf
            refine me_if_lt (q2 := 84) (q := 78) C dX4_isTrue_75 (by decide) rfl (fun c29 => ?_) (fun c29 => ?_)
            · have hf := mm_if_t c29 hf
              refine me_aload_n (q := 85) C dX4_isTrue_84 rfl rfl rfl ?_
              refine me_iload (q := 87) C dX4_isTrue_85 rfl rfl ?_
              obtain ⟨k30, hf⟩ := mm_ck_some hf
              obtain ⟨k31, hf⟩ := mm_ck_some hf
              refine me_lald (q := 88) C dX4_isTrue_87 rfl k30 k31 rfl ?_
              refine me_mask [true, true, true, true, true, true, false, false] (lv2 := [some (vR (some b0)), some (vI b1), some (vR (some b2)), some (vR (some b3)), some (vI x4), some (vI x5), none, none]) rfl ?_
              exact Hq25 _ hf
            · have hf := mm_if_f c29 hf
              refine me_iload (q := 80) C dX4_isTrue_78 rfl rfl ?_
              refine me_i2l (q := 81) C dX4_isTrue_80 rfl ?_
              refine me_goto (q := 88) C dX4_isTrue_81 (by decide) ?_
              refine me_mask [true, true, true, true, true, true, false, false] (lv2 := [some (vR (some b0)), some (vI b1), some (vR (some b2)), some (vR (some b3)), some (vI x4), some (vI x5), none, none]) rfl ?_
              exact Hq25 _ hf
          · have hf := mm_if_f c23 hf
            refine me_iconst (v := (0 : Int32)) (q := 69) C dX4_isTrue_68 (by decide) rfl ?_
            exact me_zret C hE (Nat.le_of_ble_eq_true rfl) (Nat.le_of_ble_eq_true rfl) rfl (Or.inl rfl) dX4_isTrue_69 (mm_ri hf)
        refine me_if_ge (q2 := 61) (q := 54) C dX4_isTrue_51 (by decide) rfl (fun c32 => ?_) (fun c32 => ?_)
        · have hf := mm_if_t c32 hf
          exact Hq21 () hf
        · have hf := mm_if_f c32 hf
          refine me_iload (q := 56) C dX4_isTrue_54 rfl rfl ?_
          refine me_bipush (v := (14 : Int32)) (q := 58) C dX4_isTrue_56 (by decide) rfl ?_
          refine me_icmp_ge (q2 := 95) (q := 61) C dX4_isTrue_58 (by decide) rfl (fun c33 => ?_) (fun c33 => ?_)
          · have hf := mm_if_t c33 hf
            refine me_iload (q := 97) C dX4_isTrue_95 rfl rfl ?_
            refine me_bipush (v := (20 : Int32)) (q := 99) C dX4_isTrue_97 (by decide) rfl ?_
            obtain ⟨q34, eq34, hf⟩ := mm_jn_some hf
            have Hq34 : ∀ (_u : Unit), q34 _u = some (r, h1) → mm_E X h 0 0 125 [some (vR (some b0)), some (vI b1), some (vR (some b2)), some (vR (some b3)), some (vI x4), some (vI x5), none, some (vI v16)] [] := by
              intro _u hf
              subst eq34
              refine me_iload (q := 127) C dX4_isTrue_125 rfl rfl ?_
              refine me_iconst (v := (2 : Int32)) (q := 128) C dX4_isTrue_127 (by decide) rfl ?_
              refine me_icmp_lt (q2 := 155) (q := 131) C dX4_isTrue_128 (by decide) rfl (fun c35 => ?_) (fun c35 => ?_)
              · have hf := mm_if_t c35 hf
                refine me_mask [true, true, true, true, true, true, false, false] (lv2 := [some (vR (some b0)), some (vI b1), some (vR (some b2)), some (vR (some b3)), some (vI x4), some (vI x5), none, none]) rfl ?_
                exact Hq19 _ _ hf
              · have hf := mm_if_f c35 hf
                obtain ⟨v36, ev36, hf⟩ := mm_lt_some hf
                refine me_iinc (q := 134) (v := v36) (lv2 := [some (vR (some b0)), some (vI b1), some (vR (some b2)), some (vR (some b3)), some (vI v36), some (vI x5), none, some (vI v16)]) C dX4_isTrue_131 rfl (by rw [ev36]; rfl) (Nat.le_of_ble_eq_true rfl) rfl rfl rfl ?_
                refine me_aload_n (q := 135) C dX4_isTrue_134 rfl rfl rfl ?_
                refine me_iload (q := 137) C dX4_isTrue_135 rfl rfl ?_
                refine me_iconst (v := (1 : Int32)) (q := 138) C dX4_isTrue_137 (by decide) rfl ?_
                refine me_isub (q := 139) C dX4_isTrue_138 rfl ?_
                refine me_iload (q := 141) C dX4_isTrue_139 rfl rfl ?_
                refine me_aload_n (q := 142) C dX4_isTrue_141 rfl rfl rfl ?_
                refine me_iload (q := 144) C dX4_isTrue_142 rfl rfl ?_
                refine me_iconst (v := (1 : Int32)) (q := 145) C dX4_isTrue_144 (by decide) rfl ?_
                refine me_isub (q := 146) C dX4_isTrue_145 rfl ?_
                obtain ⟨k37, hf⟩ := mm_ck_some hf
                obtain ⟨k38, hf⟩ := mm_ck_some hf
                refine me_lald (q := 147) C dX4_isTrue_146 rfl k37 k38 rfl ?_
                refine me_aload_n (q := 148) C dX4_isTrue_147 rfl rfl rfl ?_
                refine me_iload (q := 150) C dX4_isTrue_148 rfl rfl ?_
                obtain ⟨k39, hf⟩ := mm_ck_some hf
                refine me_lald (q := 151) C dX4_isTrue_150 rfl k37 k39 rfl ?_
                obtain ⟨v40, g41, e42, hf⟩ := mm_cl_some hf
                refine me_callS (q := 154) (c2 := 0) (s2 := 0) (st := [vI (v36 - (1 : Int32)), vR (some b3)]) C (cX4_combine_ok _ e42) mt_X4_35 ms_X4_combine dX4_isTrue_151 rfl rfl rfl (Nat.le_of_ble_eq_true rfl) rfl (Nat.le_of_ble_eq_true rfl) rfl (Nat.le_of_ble_eq_true rfl) rfl rfl ?_
                obtain ⟨k43, hf⟩ := mm_ck_some hf
                obtain ⟨k44, hf⟩ := mm_ck_some hf
                obtain ⟨g45, eg45, hf⟩ := mm_lt_some hf
                refine me_lastH (q := 155) C eg45 dX4_isTrue_154 rfl k43 k44 rfl ?_
                refine me_mask [true, true, true, true, true, true, false, false] (lv2 := [some (vR (some b0)), some (vI b1), some (vR (some b2)), some (vR (some b3)), some (vI v36), some (vI x5), none, none]) rfl ?_
                exact Hq19 _ _ hf
            refine me_icmp_ne (q2 := 125) (q := 102) C dX4_isTrue_99 (by decide) rfl (fun c46 => ?_) (fun c46 => ?_)
            · have hf := mm_if_t c46 hf
              refine me_mask [true, true, true, true, true, true, false, true] (lv2 := [some (vR (some b0)), some (vI b1), some (vR (some b2)), some (vR (some b3)), some (vI x4), some (vI x5), none, some (vI v16)]) rfl ?_
              exact Hq34 () hf
            · have hf := mm_if_f c46 hf
              refine me_iload (q := 104) C dX4_isTrue_102 rfl rfl ?_
              refine me_iconst (v := (1 : Int32)) (q := 105) C dX4_isTrue_104 (by decide) rfl ?_
              refine me_icmp_lt (q2 := 125) (q := 108) C dX4_isTrue_105 (by decide) rfl (fun c47 => ?_) (fun c47 => ?_)
              · have hf := mm_if_t c47 hf
                refine me_mask [true, true, true, true, true, true, false, true] (lv2 := [some (vR (some b0)), some (vI b1), some (vR (some b2)), some (vR (some b3)), some (vI x4), some (vI x5), none, some (vI v16)]) rfl ?_
                exact Hq34 () hf
              · have hf := mm_if_f c47 hf
                refine me_aload_n (q := 109) C dX4_isTrue_108 rfl rfl rfl ?_
                refine me_iload (q := 111) C dX4_isTrue_109 rfl rfl ?_
                refine me_iconst (v := (1 : Int32)) (q := 112) C dX4_isTrue_111 (by decide) rfl ?_
                refine me_isub (q := 113) C dX4_isTrue_112 rfl ?_
                refine me_lconst (v := (1 : Int64)) (q := 114) C dX4_isTrue_113 (by decide) rfl ?_
                refine me_aload_n (q := 115) C dX4_isTrue_114 rfl rfl rfl ?_
                refine me_iload (q := 117) C dX4_isTrue_115 rfl rfl ?_
                refine me_iconst (v := (1 : Int32)) (q := 118) C dX4_isTrue_117 (by decide) rfl ?_
                refine me_isub (q := 119) C dX4_isTrue_118 rfl ?_
                obtain ⟨k48, hf⟩ := mm_ck_some hf
                obtain ⟨k49, hf⟩ := mm_ck_some hf
                refine me_lald (q := 120) C dX4_isTrue_119 rfl k48 k49 rfl ?_
                refine me_lsub (q := 121) C dX4_isTrue_120 rfl ?_
                obtain ⟨k50, hf⟩ := mm_ck_some hf
                obtain ⟨g51, eg51, hf⟩ := mm_lt_some hf
                refine me_lastH (q := 122) C eg51 dX4_isTrue_121 rfl k48 k50 rfl ?_
                refine me_goto (q := 155) C dX4_isTrue_122 (by decide) ?_
                refine me_mask [true, true, true, true, true, true, false, false] (lv2 := [some (vR (some b0)), some (vI b1), some (vR (some b2)), some (vR (some b3)), some (vI x4), some (vI x5), none, none]) rfl ?_
                exact Hq19 _ _ hf
          · have hf := mm_if_f c33 hf
            exact Hq21 () hf
set_option maxRecDepth 100000 in
set_option maxHeartbeats 4000000 in
theorem cX4_isTrue_ok (l : Launch) {a0 : Nat} {a1 : Int32} {a2 : Nat} {a3 : Nat} {h : mm_H} {r : Int32} {h1 : mm_H} (hf : fX4_isTrue a0 a1 a2 a3 h = some (r, h1)) : mm_M l yX4_isTrue cX4_isTrue 8 (some .boolean) 6 0 0 [vR (some a0), vI a1, vR (some a2), vR (some a3)] h (some (vI r)) h1 := by
  refine mm_enter (lv := [some (vR (some a0)), some (vI a1), some (vR (some a2)), some (vR (some a3)), none, none, none, none]) (by decide) rfl (Nat.le_of_ble_eq_true rfl) ?_
  intro X hl C hE
  subst hl
  unfold fX4_isTrue at hf
  refine me_iconst (v := (0 : Int32)) (q := 1) C dX4_isTrue_0 (by decide) rfl ?_
  refine me_istore (q := 3) (lv2 := [some (vR (some a0)), some (vI a1), some (vR (some a2)), some (vR (some a3)), some (vI (0 : Int32)), none, none, none]) C dX4_isTrue_1 (Nat.le_of_ble_eq_true rfl) rfl rfl rfl ?_
  refine me_aload_n (q := 4) C dX4_isTrue_3 rfl rfl rfl ?_
  obtain ⟨k1, hf⟩ := mm_ck_some hf
  refine me_getR (q := 7) C dX4_isTrue_4 mf_X4_25 rfl rfl k1 rfl ?_
  refine me_iload_n (q := 8) C dX4_isTrue_7 rfl rfl rfl ?_
  obtain ⟨u2, eu2, hf⟩ := mm_rf_some hf
  obtain ⟨k3, hf⟩ := mm_ck_some hf
  obtain ⟨k4, hf⟩ := mm_ck_some hf
  refine me_iald (q := 9) C dX4_isTrue_8 eu2 k3 k4 rfl ?_
  obtain ⟨v5, ev5, hf⟩ := mm_lt_some hf
  refine me_topI ev5 ?_
  refine me_istore (q := 11) (lv2 := [some (vR (some a0)), some (vI a1), some (vR (some a2)), some (vR (some a3)), some (vI (0 : Int32)), some (vI v5), none, none]) C dX4_isTrue_9 (Nat.le_of_ble_eq_true rfl) rfl rfl rfl ?_
  refine cX4_isTrue_L11 C hE _ _ _ _ _ hf ?_
  · intro z52 g53 hf
    refine me_iload (q := 163) C dX4_isTrue_161 rfl rfl ?_
    refine me_iconst (v := (1 : Int32)) (q := 164) C dX4_isTrue_163 (by decide) rfl ?_
    refine me_icmp_ne (q2 := 179) (q := 167) C dX4_isTrue_164 (by decide) rfl (fun c54 => ?_) (fun c54 => ?_)
    · have hf := mm_if_t c54 hf
      refine me_iconst (v := (0 : Int32)) (q := 180) C dX4_isTrue_179 (by decide) rfl ?_
      exact me_zret C hE (Nat.le_of_ble_eq_true rfl) (Nat.le_of_ble_eq_true rfl) rfl (Or.inl rfl) dX4_isTrue_180 (mm_ri hf)
    · have hf := mm_if_f c54 hf
      refine me_aload_n (q := 168) C dX4_isTrue_167 rfl rfl rfl ?_
      refine me_iconst (v := (0 : Int32)) (q := 169) C dX4_isTrue_168 (by decide) rfl ?_
      obtain ⟨k55, hf⟩ := mm_ck_some hf
      obtain ⟨k56, hf⟩ := mm_ck_some hf
      refine me_lald (q := 170) C dX4_isTrue_169 rfl k55 k56 rfl ?_
      refine me_lconst (v := (0 : Int64)) (q := 171) C dX4_isTrue_170 (by decide) rfl ?_
      refine me_lcmp (q := 172) C dX4_isTrue_171 rfl ?_
      refine me_if_eq (q2 := 179) (q := 175) C dX4_isTrue_172 (by decide) rfl (fun c57 => ?_) (fun c57 => ?_)
      · have hf := mm_if_t c57 hf
        refine me_iconst (v := (0 : Int32)) (q := 180) C dX4_isTrue_179 (by decide) rfl ?_
        exact me_zret C hE (Nat.le_of_ble_eq_true rfl) (Nat.le_of_ble_eq_true rfl) rfl (Or.inl rfl) dX4_isTrue_180 (mm_ri hf)
      · have hf := mm_if_f c57 hf
        refine me_iconst (v := (1 : Int32)) (q := 176) C dX4_isTrue_175 (by decide) rfl ?_
        refine me_goto (q := 180) C dX4_isTrue_176 (by decide) ?_
        exact me_zret C hE (Nat.le_of_ble_eq_true rfl) (Nat.le_of_ble_eq_true rfl) rfl (Or.inr rfl) dX4_isTrue_180 (mm_ri hf)
set_option maxRecDepth 100000 in
set_option maxHeartbeats 4000000 in
theorem cX4_firstTrue_L2 {X : mm_X} (C : mm_C X cX4_firstTrue yX4_firstTrue 8 0 0) {r : Int32} {h1 : mm_H} (hE : mm_End X 0 0 (some .int) (some (vI r)) h1) {b0 : Nat} {b1 : Nat} {b2 : Nat} (K40 : mm_H → Option (Int32 × mm_H)) : ∀ (n : Nat) (x3 : Int32) (h : mm_H), fX4_firstTrue_L2 b0 b1 b2 K40 n x3 h = some (r, h1) → (∀ (h : mm_H), K40 h = some (r, h1) → mm_E X h 0 0 40 [none, none, none, none] []) → mm_E X h 0 0 2 [some (vR (some b0)), some (vR (some b1)), some (vR (some b2)), some (vI x3)] [] := by
  intro n
  induction n with
  | zero =>
    intro x3 h hf
    exact absurd (show (none : Option (Int32 × mm_H)) = some (r, h1) from hf) (by simp)
  | succ n ih =>
    intro x3 h hf hk40
    have hf : fX4_firstTrue_L2_b b0 b1 b2 K40 (fX4_firstTrue_L2 b0 b1 b2 K40 n) x3 h = some (r, h1) := hf
    unfold fX4_firstTrue_L2_b at hf
    refine me_iload_n (q := 3) C dX4_firstTrue_2 rfl rfl rfl ?_
    refine me_aload_n (q := 4) C dX4_firstTrue_3 rfl rfl rfl ?_
    obtain ⟨k1, hf⟩ := mm_ck_some hf
    refine me_getR (q := 7) C dX4_firstTrue_4 mf_X4_21 rfl rfl k1 rfl ?_
    obtain ⟨u2, eu2, hf⟩ := mm_rf_some hf
    obtain ⟨k3, hf⟩ := mm_ck_some hf
    refine me_alen (q := 8) C 0 rfl (by decide) dX4_firstTrue_7 eu2 k3 rfl ?_
    refine me_icmp_ge (q2 := 40) (q := 11) C dX4_firstTrue_8 (by decide) rfl (fun c4 => ?_) (fun c4 => ?_)
    · have hf := mm_if_t c4 hf
      refine me_mask [false, false, false, false] (lv2 := [none, none, none, none]) rfl ?_
      exact hk40 _ hf
    · have hf := mm_if_f c4 hf
      refine me_iload_n (q := 12) C dX4_firstTrue_11 rfl rfl rfl ?_
      refine me_iconst (v := (1 : Int32)) (q := 13) C dX4_firstTrue_12 (by decide) rfl ?_
      refine me_iadd (q := 14) C dX4_firstTrue_13 rfl ?_
      refine me_aload_n (q := 15) C dX4_firstTrue_14 rfl rfl rfl ?_
      refine me_getR (q := 18) C dX4_firstTrue_15 mf_X4_25 rfl rfl k1 rfl ?_
      obtain ⟨u5, eu5, hf⟩ := mm_rf_some hf
      obtain ⟨k6, hf⟩ := mm_ck_some hf
      refine me_alen (q := 19) C 0 rfl (by decide) dX4_firstTrue_18 eu5 k6 rfl ?_
      refine me_icmp_ge (q2 := 40) (q := 22) C dX4_firstTrue_19 (by decide) rfl (fun c7 => ?_) (fun c7 => ?_)
      · have hf := mm_if_t c7 hf
        refine me_mask [false, false, false, false] (lv2 := [none, none, none, none]) rfl ?_
        exact hk40 _ hf
      · have hf := mm_if_f c7 hf
        refine me_aload_n (q := 23) C dX4_firstTrue_22 rfl rfl rfl ?_
        refine me_iload_n (q := 24) C dX4_firstTrue_23 rfl rfl rfl ?_
        refine me_aload_n (q := 25) C dX4_firstTrue_24 rfl rfl rfl ?_
        refine me_aload_n (q := 26) C dX4_firstTrue_25 rfl rfl rfl ?_
        obtain ⟨v8, g9, e10, hf⟩ := mm_cl_some hf
        refine me_callV (q := 29) (c2 := 0) (s2 := 0) (st := []) C (cX4_isTrue_ok _ e10) mt_X4_31 mv_X4_isTrue rfl (by decide) dX4_firstTrue_26 rfl k1 rfl rfl rfl (Nat.le_of_ble_eq_true rfl) rfl (Nat.le_of_ble_eq_true rfl) rfl (Nat.le_of_ble_eq_true rfl) rfl rfl ?_
        refine me_if_eq (q2 := 34) (q := 32) C dX4_firstTrue_29 (by decide) rfl (fun c11 => ?_) (fun c11 => ?_)
        · have hf := mm_if_t c11 hf
          obtain ⟨v12, ev12, hf⟩ := mm_lt_some hf
          refine me_iinc (q := 37) (v := v12) (lv2 := [some (vR (some b0)), some (vR (some b1)), some (vR (some b2)), some (vI v12)]) C dX4_firstTrue_34 rfl (by rw [ev12]; rfl) (Nat.le_of_ble_eq_true rfl) rfl rfl rfl ?_
          refine me_goto (q := 2) C dX4_firstTrue_37 (by decide) ?_
          exact ih _ _ hf hk40
        · have hf := mm_if_f c11 hf
          refine me_iload_n (q := 33) C dX4_firstTrue_32 rfl rfl rfl ?_
          exact me_iret C hE (Nat.le_of_ble_eq_true rfl) (Nat.le_of_ble_eq_true rfl) rfl dX4_firstTrue_33 (mm_ri hf)
set_option maxRecDepth 100000 in
set_option maxHeartbeats 4000000 in
theorem cX4_firstTrue_ok (l : Launch) {a0 : Nat} {a1 : Nat} {a2 : Nat} {h : mm_H} {r : Int32} {h1 : mm_H} (hf : fX4_firstTrue a0 a1 a2 h = some (r, h1)) : mm_M l yX4_firstTrue cX4_firstTrue 4 (some .int) 8 0 0 [vR (some a0), vR (some a1), vR (some a2)] h (some (vI r)) h1 := by
  refine mm_enter (lv := [some (vR (some a0)), some (vR (some a1)), some (vR (some a2)), none]) (by decide) rfl (Nat.le_of_ble_eq_true rfl) ?_
  intro X hl C hE
  subst hl
  unfold fX4_firstTrue at hf
  refine me_iconst (v := (0 : Int32)) (q := 1) C dX4_firstTrue_0 (by decide) rfl ?_
  refine me_istore_n (q := 2) (lv2 := [some (vR (some a0)), some (vR (some a1)), some (vR (some a2)), some (vI (0 : Int32))]) C dX4_firstTrue_1 rfl (Nat.le_of_ble_eq_true rfl) rfl rfl rfl ?_
  refine cX4_firstTrue_L2 C hE _ _ _ _ hf ?_
  · intro g13 hf
    refine me_iconst (v := (-1 : Int32)) (q := 41) C dX4_firstTrue_40 (by decide) rfl ?_
    exact me_iret C hE (Nat.le_of_ble_eq_true rfl) (Nat.le_of_ble_eq_true rfl) rfl dX4_firstTrue_41 (mm_ri hf)
set_option maxRecDepth 100000 in
set_option maxHeartbeats 4000000 in
theorem cX2_decide_L2 {X : mm_X} (C : mm_C X cX2_decide yX2_decide 10 0 0) {r : Int32} {h1 : mm_H} (hE : mm_End X 0 0 (some .int) (some (vI r)) h1) {b0 : Nat} {b1 : Int32} (K81 : mm_H → Option (Int32 × mm_H)) : ∀ (n : Nat) (x2 : Int32) (h : mm_H), fX2_decide_L2 b0 b1 K81 n x2 h = some (r, h1) → (∀ (h : mm_H), K81 h = some (r, h1) → mm_E X h 0 0 81 [some (vR (some b0)), none, none, none, none, none] []) → mm_E X h 0 0 2 [some (vR (some b0)), some (vI b1), some (vI x2), none, none, none] [] := by
  intro n
  induction n with
  | zero =>
    intro x2 h hf
    exact absurd (show (none : Option (Int32 × mm_H)) = some (r, h1) from hf) (by simp)
  | succ n ih =>
    intro x2 h hf hk81
    have hf : fX2_decide_L2_b b0 b1 K81 (fX2_decide_L2 b0 b1 K81 n) x2 h = some (r, h1) := hf
    unfold fX2_decide_L2_b at hf
    refine me_iload_n (q := 3) C dX2_decide_2 rfl rfl rfl ?_
    refine me_if_lt (q2 := 81) (q := 6) C dX2_decide_3 (by decide) rfl (fun c1 => ?_) (fun c1 => ?_)
    · have hf := mm_if_t c1 hf
      refine me_mask [true, false, false, false, false, false] (lv2 := [some (vR (some b0)), none, none, none, none, none]) rfl ?_
      exact hk81 _ hf
    · have hf := mm_if_f c1 hf
      refine me_aload_n (q := 7) C dX2_decide_6 rfl rfl rfl ?_
      refine me_iload_n (q := 8) C dX2_decide_7 rfl rfl rfl ?_
      refine me_iload_n (q := 9) C dX2_decide_8 rfl rfl rfl ?_
      obtain ⟨k2, hf⟩ := mm_ck_some hf
      obtain ⟨v3, g4, e5, hf⟩ := mm_cl_some hf
      refine me_callV (q := 12) (c2 := 0) (s2 := 0) (st := []) C (cX2_inForce_ok _ e5) mt_X2_50 mv_X2_inForce rfl (by decide) dX2_decide_9 rfl k2 rfl rfl rfl (Nat.le_of_ble_eq_true rfl) rfl (Nat.le_of_ble_eq_true rfl) rfl (Nat.le_of_ble_eq_true rfl) rfl rfl ?_
      refine me_istore_n (q := 13) (lv2 := [some (vR (some b0)), some (vI b1), some (vI x2), some (vI v3), none, none]) C dX2_decide_12 rfl (Nat.le_of_ble_eq_true rfl) rfl rfl rfl ?_
      refine me_aload_n (q := 14) C dX2_decide_13 rfl rfl rfl ?_
      refine me_iload_n (q := 15) C dX2_decide_14 rfl rfl rfl ?_
      obtain ⟨k6, hf⟩ := mm_ck_some hf
      obtain ⟨v7, g8, e9, hf⟩ := mm_cl_some hf
      refine me_callV (q := 18) (c2 := 0) (s2 := 0) (st := []) C (cX2_lawAt_ok _ e9) mt_X2_54 mv_X2_lawAt rfl (by decide) dX2_decide_15 rfl k6 rfl rfl rfl (Nat.le_of_ble_eq_true rfl) rfl (Nat.le_of_ble_eq_true rfl) rfl (Nat.le_of_ble_eq_true rfl) rfl rfl ?_
      refine me_astore (q := 20) (lv2 := [some (vR (some b0)), some (vI b1), some (vI x2), some (vI v3), some (vR v7), none]) C dX2_decide_18 (Nat.le_of_ble_eq_true rfl) rfl rfl rfl ?_
      refine me_aload (q := 22) C dX2_decide_20 rfl rfl ?_
      obtain ⟨q12, eq12, hf⟩ := mm_jn_some hf
      have Hq12 : ∀ (v10 : Int32) (g11 : mm_H), q12 v10 g11 = some (r, h1) → mm_E X g11 0 0 42 [some (vR (some b0)), some (vI b1), some (vI x2), some (vI v3), some (vR v7), none] [vI v10] := by
        intro v10 g11 hf
        subst eq12
        refine me_istore (q := 44) (lv2 := [some (vR (some b0)), some (vI b1), some (vI x2), some (vI v3), some (vR v7), some (vI v10)]) C dX2_decide_42 (Nat.le_of_ble_eq_true rfl) rfl rfl rfl ?_
        refine me_aload (q := 46) C dX2_decide_44 rfl rfl ?_
        obtain ⟨q13, eq13, hf⟩ := mm_jn_some hf
        have Hq13 : ∀ (_u : Unit), q13 _u = some (r, h1) → mm_E X g11 0 0 75 [some (vR (some b0)), some (vI b1), some (vI x2), none, none, none] [] := by
          intro _u hf
          subst eq13
          obtain ⟨v14, ev14, hf⟩ := mm_lt_some hf
          refine me_iinc (q := 78) (v := v14) (lv2 := [some (vR (some b0)), some (vI b1), some (vI v14), none, none, none]) C dX2_decide_75 rfl (by rw [ev14]; rfl) (Nat.le_of_ble_eq_true rfl) rfl rfl rfl ?_
          refine me_goto (q := 2) C dX2_decide_78 (by decide) ?_
          exact ih _ _ hf hk81
        refine me_ifnull (q2 := 75) (q := 49) C dX2_decide_46 (by decide) rfl (fun c15 => ?_) (fun c15 => ?_)
        · have hf := mm_if_t c15 hf
          refine me_mask [true, true, true, false, false, false] (lv2 := [some (vR (some b0)), some (vI b1), some (vI x2), none, none, none]) rfl ?_
          exact Hq13 () hf
        · have hf := mm_if_f c15 hf
          refine me_iload (q := 51) C dX2_decide_49 rfl rfl ?_
          refine me_iconst (v := (-1 : Int32)) (q := 52) C dX2_decide_51 (by decide) rfl ?_
          refine me_icmp_eq (q2 := 75) (q := 55) C dX2_decide_52 (by decide) rfl (fun c16 => ?_) (fun c16 => ?_)
          · have hf := mm_if_t c16 hf
            refine me_mask [true, true, true, false, false, false] (lv2 := [some (vR (some b0)), some (vI b1), some (vI x2), none, none, none]) rfl ?_
            exact Hq13 () hf
          · have hf := mm_if_f c16 hf
            refine me_aload_n (q := 56) C dX2_decide_55 rfl rfl rfl ?_
            refine me_iload_n (q := 57) C dX2_decide_56 rfl rfl rfl ?_
            obtain ⟨k17, hf⟩ := mm_ck_some hf
            obtain ⟨g18, eg18, hf⟩ := mm_lt_some hf
            refine me_putI (q := 60) C eg18 dX2_decide_57 mf_X2_27 mp_X2_3_3 rfl (by decide) rfl k17 rfl ?_
            refine me_aload_n (q := 61) C dX2_decide_60 rfl rfl rfl ?_
            refine me_iload (q := 63) C dX2_decide_61 rfl rfl ?_
            obtain ⟨g19, eg19, hf⟩ := mm_lt_some hf
            refine me_putI (q := 66) C eg19 dX2_decide_63 mf_X2_31 mp_X2_3_4 rfl (by decide) rfl (mm_kI eg18 k17) rfl ?_
            refine me_aload (q := 68) C dX2_decide_66 rfl rfl ?_
            obtain ⟨u20, eu20, hf⟩ := mm_rf_some hf
            obtain ⟨k21, hf⟩ := mm_ck_some hf
            refine me_getR (q := 71) C dX2_decide_68 mf_X2_62 rfl eu20 k21 rfl ?_
            refine me_iload (q := 73) C dX2_decide_71 rfl rfl ?_
            obtain ⟨u22, eu22, hf⟩ := mm_rf_some hf
            obtain ⟨k23, hf⟩ := mm_ck_some hf
            obtain ⟨k24, hf⟩ := mm_ck_some hf
            refine me_iald (q := 74) C dX2_decide_73 eu22 k23 k24 rfl ?_
            exact me_iret C hE (Nat.le_of_ble_eq_true rfl) (Nat.le_of_ble_eq_true rfl) rfl dX2_decide_74 (mm_ri hf)
      refine me_ifnonnull (q2 := 29) (q := 25) C dX2_decide_22 (by decide) rfl (fun c25 => ?_) (fun c25 => ?_)
      · have hf := mm_if_t c25 hf
        refine me_aload (q := 31) C dX2_decide_29 rfl rfl ?_
        refine me_aload_n (q := 32) C dX2_decide_31 rfl rfl rfl ?_
        obtain ⟨k26, hf⟩ := mm_ck_some hf
        refine me_getR (q := 35) C dX2_decide_32 mf_X2_18 rfl rfl k26 rfl ?_
        refine me_aload_n (q := 36) C dX2_decide_35 rfl rfl rfl ?_
        refine me_getR (q := 39) C dX2_decide_36 mf_X2_24 rfl rfl k26 rfl ?_
        obtain ⟨u27, eu27, hf⟩ := mm_rf_some hf
        obtain ⟨k28, hf⟩ := mm_ck_some hf
        obtain ⟨u29, eu29, hf⟩ := mm_rf_some hf
        obtain ⟨u30, eu30, hf⟩ := mm_rf_some hf
        obtain ⟨v31, g32, e33, hf⟩ := mm_cl_some hf
        refine me_callV (q := 42) (c2 := 0) (s2 := 0) (st := []) C (cX4_firstTrue_ok _ e33) mt_X2_58 mv_X4_firstTrue rfl (by decide) dX2_decide_39 eu27 k28 (by rw [eu29, eu30]; rfl) rfl rfl (Nat.le_of_ble_eq_true rfl) rfl (Nat.le_of_ble_eq_true rfl) rfl (Nat.le_of_ble_eq_true rfl) rfl rfl ?_
        exact Hq12 _ _ hf
      · have hf := mm_if_f c25 hf
        refine me_iconst (v := (-1 : Int32)) (q := 26) C dX2_decide_25 (by decide) rfl ?_
        refine me_goto (q := 42) C dX2_decide_26 (by decide) ?_
        exact Hq12 _ _ hf
set_option maxRecDepth 100000 in
set_option maxHeartbeats 4000000 in
theorem cX2_decide_ok (l : Launch) {a0 : Nat} {a1 : Int32} {h : mm_H} {r : Int32} {h1 : mm_H} (hf : fX2_decide a0 a1 h = some (r, h1)) : mm_M l yX2_decide cX2_decide 6 (some .int) 10 0 0 [vR (some a0), vI a1] h (some (vI r)) h1 := by
  refine mm_enter (lv := [some (vR (some a0)), some (vI a1), none, none, none, none]) (by decide) rfl (Nat.le_of_ble_eq_true rfl) ?_
  intro X hl C hE
  subst hl
  unfold fX2_decide at hf
  refine me_iconst (v := (2 : Int32)) (q := 1) C dX2_decide_0 (by decide) rfl ?_
  refine me_istore_n (q := 2) (lv2 := [some (vR (some a0)), some (vI a1), some (vI (2 : Int32)), none, none, none]) C dX2_decide_1 rfl (Nat.le_of_ble_eq_true rfl) rfl rfl rfl ?_
  refine cX2_decide_L2 C hE _ _ _ _ hf ?_
  · intro g34 hf
    refine me_aload_n (q := 82) C dX2_decide_81 rfl rfl rfl ?_
    refine me_iconst (v := (-1 : Int32)) (q := 83) C dX2_decide_82 (by decide) rfl ?_
    obtain ⟨k35, hf⟩ := mm_ck_some hf
    obtain ⟨g36, eg36, hf⟩ := mm_lt_some hf
    refine me_putI (q := 86) C eg36 dX2_decide_83 mf_X2_27 mp_X2_3_3 rfl (by decide) rfl k35 rfl ?_
    refine me_aload_n (q := 87) C dX2_decide_86 rfl rfl rfl ?_
    refine me_iconst (v := (-1 : Int32)) (q := 88) C dX2_decide_87 (by decide) rfl ?_
    obtain ⟨g37, eg37, hf⟩ := mm_lt_some hf
    refine me_putI (q := 91) C eg37 dX2_decide_88 mf_X2_31 mp_X2_3_4 rfl (by decide) rfl (mm_kI eg36 k35) rfl ?_
    refine me_iconst (v := (0 : Int32)) (q := 92) C dX2_decide_91 (by decide) rfl ?_
    exact me_iret C hE (Nat.le_of_ble_eq_true rfl) (Nat.le_of_ble_eq_true rfl) rfl dX2_decide_92 (mm_ri hf)
set_option maxRecDepth 100000 in
set_option maxHeartbeats 4000000 in
theorem cX3_init_ok (l : Launch) {a0 : Nat} {h : mm_H} {r : Unit} {h1 : mm_H} (hf : fX3_init a0 h = some (r, h1)) : mm_M l yX3_init cX3_init 1 none 2 4 280 [vR (some a0)] h none h1 := by
  refine mm_enter (lv := [some (vR (some a0))]) (by decide) rfl (Nat.le_of_ble_eq_true rfl) ?_
  intro X hl C hE
  subst hl
  unfold fX3_init at hf
  refine me_aload_n (q := 1) C dX3_init_0 rfl rfl rfl ?_
  refine me_objInit (q := 4) C dX3_init_1 mo_X3_1 rfl rfl (Nat.le_of_ble_eq_true rfl) rfl ?_
  refine me_aload_n (q := 5) C dX3_init_4 rfl rfl rfl ?_
  refine me_bipush (v := (8 : Int32)) (q := 7) C dX3_init_5 (by decide) rfl ?_
  obtain ⟨g1, eg1, hf⟩ := mm_lt_some hf
  obtain ⟨u2, eu2, hf⟩ := mm_lt_some hf
  refine me_newaI (q := 9) (B := 8) (c2 := 1) (s2 := 8) C eg1 dX3_init_7 ma_int ⟨by decide, Nat.le_of_ble_eq_true rfl⟩ (Nat.le_of_ble_eq_true rfl) rfl (Nat.le_of_ble_eq_true rfl) rfl (Nat.le_of_ble_eq_true rfl) rfl ?_
  refine me_topR (congrArg some eu2) ?_
  have k3 : mm_kd g1 u2 = 14 := by rw [eu2]; exact mm_kN eg1
  obtain ⟨k4, hf⟩ := mm_ck_some hf
  obtain ⟨g5, eg5, hf⟩ := mm_lt_some hf
  refine me_putR (q := 12) C eg5 dX3_init_9 mf_X3_9 mp_X3_4_0 (Or.inr ⟨_, rfl⟩) rfl (by decide) rfl k4 rfl ?_
  refine me_aload_n (q := 13) C dX3_init_12 rfl rfl rfl ?_
  refine me_bipush (v := (8 : Int32)) (q := 15) C dX3_init_13 (by decide) rfl ?_
  obtain ⟨g6, eg6, hf⟩ := mm_lt_some hf
  obtain ⟨u7, eu7, hf⟩ := mm_lt_some hf
  refine me_newaI (q := 17) (B := 8) (c2 := 2) (s2 := 16) C eg6 dX3_init_15 ma_int ⟨by decide, Nat.le_of_ble_eq_true rfl⟩ (Nat.le_of_ble_eq_true rfl) rfl (Nat.le_of_ble_eq_true rfl) rfl (Nat.le_of_ble_eq_true rfl) rfl ?_
  refine me_topR (congrArg some eu7) ?_
  have k8 : mm_kd g6 u7 = 14 := by rw [eu7]; exact mm_kN eg6
  obtain ⟨k9, hf⟩ := mm_ck_some hf
  obtain ⟨g10, eg10, hf⟩ := mm_lt_some hf
  refine me_putR (q := 20) C eg10 dX3_init_17 mf_X3_13 mp_X3_4_1 (Or.inr ⟨_, rfl⟩) rfl (by decide) rfl k9 rfl ?_
  refine me_aload_n (q := 21) C dX3_init_20 rfl rfl rfl ?_
  refine me_bipush (v := (8 : Int32)) (q := 23) C dX3_init_21 (by decide) rfl ?_
  obtain ⟨g11, eg11, hf⟩ := mm_lt_some hf
  obtain ⟨u12, eu12, hf⟩ := mm_lt_some hf
  refine me_newaI (q := 25) (B := 8) (c2 := 3) (s2 := 24) C eg11 dX3_init_23 ma_int ⟨by decide, Nat.le_of_ble_eq_true rfl⟩ (Nat.le_of_ble_eq_true rfl) rfl (Nat.le_of_ble_eq_true rfl) rfl (Nat.le_of_ble_eq_true rfl) rfl ?_
  refine me_topR (congrArg some eu12) ?_
  have k13 : mm_kd g11 u12 = 14 := by rw [eu12]; exact mm_kN eg11
  obtain ⟨k14, hf⟩ := mm_ck_some hf
  obtain ⟨g15, eg15, hf⟩ := mm_lt_some hf
  refine me_putR (q := 28) C eg15 dX3_init_25 mf_X3_16 mp_X3_4_2 (Or.inr ⟨_, rfl⟩) rfl (by decide) rfl k14 rfl ?_
  refine me_aload_n (q := 29) C dX3_init_28 rfl rfl rfl ?_
  refine me_sipush (v := (256 : Int32)) (q := 32) C dX3_init_29 (by decide) rfl ?_
  obtain ⟨g16, eg16, hf⟩ := mm_lt_some hf
  obtain ⟨u17, eu17, hf⟩ := mm_lt_some hf
  refine me_newaI (q := 34) (B := 256) (c2 := 4) (s2 := 280) C eg16 dX3_init_32 ma_int ⟨by decide, Nat.le_of_ble_eq_true rfl⟩ (Nat.le_of_ble_eq_true rfl) rfl (Nat.le_of_ble_eq_true rfl) rfl (Nat.le_of_ble_eq_true rfl) rfl ?_
  refine me_topR (congrArg some eu17) ?_
  have k18 : mm_kd g16 u17 = 14 := by rw [eu17]; exact mm_kN eg16
  obtain ⟨k19, hf⟩ := mm_ck_some hf
  obtain ⟨g20, eg20, hf⟩ := mm_lt_some hf
  refine me_putR (q := 37) C eg20 dX3_init_34 mf_X3_19 mp_X3_4_4 (Or.inr ⟨_, rfl⟩) rfl (by decide) rfl k19 rfl ?_
  exact me_vret C hE (Nat.le_of_ble_eq_true rfl) (Nat.le_of_ble_eq_true rfl) rfl dX3_init_37 (mm_ru hf)
set_option maxRecDepth 100000 in
set_option maxHeartbeats 4000000 in
theorem cX3_setHand_ok (l : Launch) {a0 : Nat} {a1 : Int32} {a2 : Int32} {a3 : Int32} {a4 : Int32} {h : mm_H} {r : Int32} {h1 : mm_H} (hf : fX3_setHand a0 a1 a2 a3 a4 h = some (r, h1)) : mm_M l yX3_setHand cX3_setHand 5 (some .boolean) 2 0 0 [vR (some a0), vI a1, vI a2, vI a3, vI a4] h (some (vI r)) h1 := by
  refine mm_enter (lv := [some (vR (some a0)), some (vI a1), some (vI a2), some (vI a3), some (vI a4)]) (by decide) rfl (Nat.le_of_ble_eq_true rfl) ?_
  intro X hl C hE
  subst hl
  unfold fX3_setHand at hf
  refine me_iload_n (q := 1) C dX3_setHand_0 rfl rfl rfl ?_
  refine me_if_lt (q2 := 18) (q := 4) C dX3_setHand_1 (by decide) rfl (fun c1 => ?_) (fun c1 => ?_)
  · have hf := mm_if_t c1 hf
    refine me_iconst (v := (0 : Int32)) (q := 19) C dX3_setHand_18 (by decide) rfl ?_
    exact me_zret C hE (Nat.le_of_ble_eq_true rfl) (Nat.le_of_ble_eq_true rfl) rfl (Or.inl rfl) dX3_setHand_19 (mm_ri hf)
  · have hf := mm_if_f c1 hf
    refine me_iload_n (q := 5) C dX3_setHand_4 rfl rfl rfl ?_
    refine me_bipush (v := (8 : Int32)) (q := 7) C dX3_setHand_5 (by decide) rfl ?_
    refine me_icmp_ge (q2 := 18) (q := 10) C dX3_setHand_7 (by decide) rfl (fun c2 => ?_) (fun c2 => ?_)
    · have hf := mm_if_t c2 hf
      refine me_iconst (v := (0 : Int32)) (q := 19) C dX3_setHand_18 (by decide) rfl ?_
      exact me_zret C hE (Nat.le_of_ble_eq_true rfl) (Nat.le_of_ble_eq_true rfl) rfl (Or.inl rfl) dX3_setHand_19 (mm_ri hf)
    · have hf := mm_if_f c2 hf
      refine me_iload_n (q := 11) C dX3_setHand_10 rfl rfl rfl ?_
      refine me_aload_n (q := 12) C dX3_setHand_11 rfl rfl rfl ?_
      obtain ⟨k3, hf⟩ := mm_ck_some hf
      refine me_getI (q := 15) C dX3_setHand_12 mf_X3_22 rfl rfl k3 rfl ?_
      refine me_icmp_le (q2 := 20) (q := 18) C dX3_setHand_15 (by decide) rfl (fun c4 => ?_) (fun c4 => ?_)
      · have hf := mm_if_t c4 hf
        refine me_aload_n (q := 21) C dX3_setHand_20 rfl rfl rfl ?_
        refine me_getR (q := 24) C dX3_setHand_21 mf_X3_9 rfl rfl k3 rfl ?_
        refine me_iload_n (q := 25) C dX3_setHand_24 rfl rfl rfl ?_
        refine me_iload_n (q := 26) C dX3_setHand_25 rfl rfl rfl ?_
        obtain ⟨u5, eu5, hf⟩ := mm_rf_some hf
        obtain ⟨k6, hf⟩ := mm_ck_some hf
        obtain ⟨k7, hf⟩ := mm_ck_some hf
        obtain ⟨g8, eg8, hf⟩ := mm_lt_some hf
        refine me_iastH (q := 27) C eg8 dX3_setHand_26 eu5 k6 k7 rfl ?_
        refine me_aload_n (q := 28) C dX3_setHand_27 rfl rfl rfl ?_
        refine me_getR (q := 31) C dX3_setHand_28 mf_X3_13 rfl rfl (mm_kI eg8 k3) rfl ?_
        refine me_iload_n (q := 32) C dX3_setHand_31 rfl rfl rfl ?_
        refine me_iload_n (q := 33) C dX3_setHand_32 rfl rfl rfl ?_
        obtain ⟨u9, eu9, hf⟩ := mm_rf_some hf
        obtain ⟨k10, hf⟩ := mm_ck_some hf
        obtain ⟨k11, hf⟩ := mm_ck_some hf
        obtain ⟨g12, eg12, hf⟩ := mm_lt_some hf
        refine me_iastH (q := 34) C eg12 dX3_setHand_33 eu9 k10 k11 rfl ?_
        refine me_aload_n (q := 35) C dX3_setHand_34 rfl rfl rfl ?_
        refine me_getR (q := 38) C dX3_setHand_35 mf_X3_16 rfl rfl (mm_kI eg12 (mm_kI eg8 k3)) rfl ?_
        refine me_iload_n (q := 39) C dX3_setHand_38 rfl rfl rfl ?_
        refine me_iload (q := 41) C dX3_setHand_39 rfl rfl ?_
        obtain ⟨u13, eu13, hf⟩ := mm_rf_some hf
        obtain ⟨k14, hf⟩ := mm_ck_some hf
        obtain ⟨k15, hf⟩ := mm_ck_some hf
        obtain ⟨g16, eg16, hf⟩ := mm_lt_some hf
        refine me_iastH (q := 42) C eg16 dX3_setHand_41 eu13 k14 k15 rfl ?_
        refine me_aload_n (q := 43) C dX3_setHand_42 rfl rfl rfl ?_
        refine me_aload_n (q := 44) C dX3_setHand_43 rfl rfl rfl ?_
        refine me_getI (q := 47) C dX3_setHand_44 mf_X3_22 rfl rfl (mm_kI eg16 (mm_kI eg12 (mm_kI eg8 k3))) rfl ?_
        refine me_iload_n (q := 48) C dX3_setHand_47 rfl rfl rfl ?_
        refine me_iconst (v := (1 : Int32)) (q := 49) C dX3_setHand_48 (by decide) rfl ?_
        refine me_iadd (q := 50) C dX3_setHand_49 rfl ?_
        refine me_mmax (q := 53) C dX3_setHand_50 mm_X3_26 rfl (Nat.le_of_ble_eq_true rfl) rfl ?_
        obtain ⟨v17, ev17, hf⟩ := mm_lt_some hf
        refine me_topI ev17 ?_
        obtain ⟨g18, eg18, hf⟩ := mm_lt_some hf
        refine me_putI (q := 56) C eg18 dX3_setHand_53 mf_X3_22 mp_X3_4_3 rfl (by decide) rfl (mm_kI eg16 (mm_kI eg12 (mm_kI eg8 k3))) rfl ?_
        refine me_iconst (v := (1 : Int32)) (q := 57) C dX3_setHand_56 (by decide) rfl ?_
        exact me_zret C hE (Nat.le_of_ble_eq_true rfl) (Nat.le_of_ble_eq_true rfl) rfl (Or.inr rfl) dX3_setHand_57 (mm_ri hf)
      · have hf := mm_if_f c4 hf
        refine me_iconst (v := (0 : Int32)) (q := 19) C dX3_setHand_18 (by decide) rfl ?_
        exact me_zret C hE (Nat.le_of_ble_eq_true rfl) (Nat.le_of_ble_eq_true rfl) rfl (Or.inl rfl) dX3_setHand_19 (mm_ri hf)
set_option maxRecDepth 100000 in
set_option maxHeartbeats 4000000 in
theorem cX3_profit_ok (l : Launch) {a0 : Nat} {a1 : Int32} {a2 : Int32} {h : mm_H} {r : Int32} {h1 : mm_H} (hf : fX3_profit a0 a1 a2 h = some (r, h1)) : mm_M l yX3_profit cX3_profit 3 (some .int) 2 0 0 [vR (some a0), vI a1, vI a2] h (some (vI r)) h1 := by
  refine mm_enter (lv := [some (vR (some a0)), some (vI a1), some (vI a2)]) (by decide) rfl (Nat.le_of_ble_eq_true rfl) ?_
  intro X hl C hE
  subst hl
  unfold fX3_profit at hf
  refine me_aload_n (q := 1) C dX3_profit_0 rfl rfl rfl ?_
  obtain ⟨k1, hf⟩ := mm_ck_some hf
  refine me_getR (q := 4) C dX3_profit_1 mf_X3_9 rfl rfl k1 rfl ?_
  refine me_iload_n (q := 5) C dX3_profit_4 rfl rfl rfl ?_
  obtain ⟨u2, eu2, hf⟩ := mm_rf_some hf
  obtain ⟨k3, hf⟩ := mm_ck_some hf
  obtain ⟨k4, hf⟩ := mm_ck_some hf
  refine me_iald (q := 6) C dX3_profit_5 eu2 k3 k4 rfl ?_
  refine me_iload_n (q := 7) C dX3_profit_6 rfl rfl rfl ?_
  refine me_aload_n (q := 8) C dX3_profit_7 rfl rfl rfl ?_
  refine me_getR (q := 11) C dX3_profit_8 mf_X3_16 rfl rfl k1 rfl ?_
  refine me_iload_n (q := 12) C dX3_profit_11 rfl rfl rfl ?_
  obtain ⟨u5, eu5, hf⟩ := mm_rf_some hf
  obtain ⟨k6, hf⟩ := mm_ck_some hf
  obtain ⟨k7, hf⟩ := mm_ck_some hf
  refine me_iald (q := 13) C dX3_profit_12 eu5 k6 k7 rfl ?_
  refine me_icmp_ge (q2 := 25) (q := 16) C dX3_profit_13 (by decide) rfl (fun c8 => ?_) (fun c8 => ?_)
  · have hf := mm_if_t c8 hf
    refine me_iconst (v := (0 : Int32)) (q := 26) C dX3_profit_25 (by decide) rfl ?_
    refine me_isub (q := 27) C dX3_profit_26 rfl ?_
    exact me_iret C hE (Nat.le_of_ble_eq_true rfl) (Nat.le_of_ble_eq_true rfl) rfl dX3_profit_27 (mm_ri hf)
  · have hf := mm_if_f c8 hf
    refine me_aload_n (q := 17) C dX3_profit_16 rfl rfl rfl ?_
    refine me_getR (q := 20) C dX3_profit_17 mf_X3_13 rfl rfl k1 rfl ?_
    refine me_iload_n (q := 21) C dX3_profit_20 rfl rfl rfl ?_
    obtain ⟨u9, eu9, hf⟩ := mm_rf_some hf
    obtain ⟨k10, hf⟩ := mm_ck_some hf
    obtain ⟨k11, hf⟩ := mm_ck_some hf
    refine me_iald (q := 22) C dX3_profit_21 eu9 k10 k11 rfl ?_
    refine me_goto (q := 26) C dX3_profit_22 (by decide) ?_
    refine me_isub (q := 27) C dX3_profit_26 rfl ?_
    exact me_iret C hE (Nat.le_of_ble_eq_true rfl) (Nat.le_of_ble_eq_true rfl) rfl dX3_profit_27 (mm_ri hf)
set_option maxRecDepth 100000 in
set_option maxHeartbeats 4000000 in
theorem cX3_isStable_L8 {X : mm_X} (C : mm_C X cX3_isStable yX3_isStable 4 0 0) {r : Int32} {h1 : mm_H} (hE : mm_End X 0 0 (some .boolean) (some (vI r)) h1) {b0 : Nat} {b1 : Int32} {b2 : Int32} {b3 : Int32} (K70 : mm_H → Option (Int32 × mm_H)) : ∀ (n : Nat) (x4 : Int32) (h : mm_H), fX3_isStable_L8 b0 b1 b2 b3 K70 n x4 h = some (r, h1) → (∀ (h : mm_H), K70 h = some (r, h1) → mm_E X h 0 0 70 [none, none, none, none, none, none] []) → mm_E X h 0 0 8 [some (vR (some b0)), some (vI b1), some (vI b2), some (vI b3), some (vI x4), none] [] := by
  intro n
  induction n with
  | zero =>
    intro x4 h hf
    exact absurd (show (none : Option (Int32 × mm_H)) = some (r, h1) from hf) (by simp)
  | succ n ih =>
    intro x4 h hf hk70
    have hf : fX3_isStable_L8_b b0 b1 b2 b3 K70 (fX3_isStable_L8 b0 b1 b2 b3 K70 n) x4 h = some (r, h1) := hf
    unfold fX3_isStable_L8_b at hf
    refine me_iload (q := 10) C dX3_isStable_8 rfl rfl ?_
    refine me_iload_n (q := 11) C dX3_isStable_10 rfl rfl rfl ?_
    refine me_icmp_ge (q2 := 70) (q := 14) C dX3_isStable_11 (by decide) rfl (fun c4 => ?_) (fun c4 => ?_)
    · have hf := mm_if_t c4 hf
      refine me_mask [false, false, false, false, false, false] (lv2 := [none, none, none, none, none, none]) rfl ?_
      exact hk70 _ hf
    · have hf := mm_if_f c4 hf
      refine me_iload_n (q := 15) C dX3_isStable_14 rfl rfl rfl ?_
      refine me_iload (q := 17) C dX3_isStable_15 rfl rfl ?_
      refine me_ishr (q := 18) C dX3_isStable_17 rfl ?_
      refine me_iconst (v := (1 : Int32)) (q := 19) C dX3_isStable_18 (by decide) rfl ?_
      refine me_iand (q := 20) C dX3_isStable_19 rfl ?_
      obtain ⟨q6, eq6, hf⟩ := mm_jn_some hf
      have Hq6 : ∀ (v5 : Int32), q6 v5 = some (r, h1) → mm_E X h 0 0 28 [some (vR (some b0)), some (vI b1), some (vI b2), some (vI b3), some (vI x4), none] [vI v5] := by
        intro v5 hf
        subst eq6
        refine me_istore (q := 30) (lv2 := [some (vR (some b0)), some (vI b1), some (vI b2), some (vI b3), some (vI x4), some (vI v5)]) C dX3_isStable_28 (Nat.le_of_ble_eq_true rfl) rfl rfl rfl ?_
        refine me_iload (q := 32) C dX3_isStable_30 rfl rfl ?_
        obtain ⟨q8, eq8, hf⟩ := mm_jn_some hf
        have Hq8 : ∀ (g7 : mm_H), q8 g7 = some (r, h1) → mm_E X g7 0 0 45 [some (vR (some b0)), some (vI b1), some (vI b2), some (vI b3), some (vI x4), some (vI v5)] [] := by
          intro g7 hf
          subst eq8
          refine me_iload (q := 47) C dX3_isStable_45 rfl rfl ?_
          obtain ⟨q10, eq10, hf⟩ := mm_jn_some hf
          have Hq10 : ∀ (g9 : mm_H), q10 g9 = some (r, h1) → mm_E X g9 0 0 64 [some (vR (some b0)), some (vI b1), some (vI b2), some (vI b3), some (vI x4), none] [] := by
            intro g9 hf
            subst eq10
            obtain ⟨v11, ev11, hf⟩ := mm_lt_some hf
            refine me_iinc (q := 67) (v := v11) (lv2 := [some (vR (some b0)), some (vI b1), some (vI b2), some (vI b3), some (vI v11), none]) C dX3_isStable_64 rfl (by rw [ev11]; rfl) (Nat.le_of_ble_eq_true rfl) rfl rfl rfl ?_
            refine me_goto (q := 8) C dX3_isStable_67 (by decide) ?_
            exact ih _ _ hf hk70
          refine me_if_ne (q2 := 64) (q := 50) C dX3_isStable_47 (by decide) rfl (fun c12 => ?_) (fun c12 => ?_)
          · have hf := mm_if_t c12 hf
            refine me_mask [true, true, true, true, true, false] (lv2 := [some (vR (some b0)), some (vI b1), some (vI b2), some (vI b3), some (vI x4), none]) rfl ?_
            exact Hq10 _ hf
          · have hf := mm_if_f c12 hf
            refine me_aload_n (q := 51) C dX3_isStable_50 rfl rfl rfl ?_
            refine me_iload (q := 53) C dX3_isStable_51 rfl rfl ?_
            refine me_iload_n (q := 54) C dX3_isStable_53 rfl rfl rfl ?_
            refine me_iconst (v := (1 : Int32)) (q := 55) C dX3_isStable_54 (by decide) rfl ?_
            refine me_iadd (q := 56) C dX3_isStable_55 rfl ?_
            obtain ⟨k13, hf⟩ := mm_ck_some hf
            obtain ⟨v14, g15, e16, hf⟩ := mm_cl_some hf
            refine me_callV (q := 59) (c2 := 0) (s2 := 0) (st := []) C (cX3_profit_ok _ e16) mt_X3_48 mv_X3_profit rfl (by decide) dX3_isStable_56 rfl k13 rfl rfl rfl (Nat.le_of_ble_eq_true rfl) rfl (Nat.le_of_ble_eq_true rfl) rfl (Nat.le_of_ble_eq_true rfl) rfl rfl ?_
            refine me_if_le (q2 := 64) (q := 62) C dX3_isStable_59 (by decide) rfl (fun c17 => ?_) (fun c17 => ?_)
            · have hf := mm_if_t c17 hf
              refine me_mask [true, true, true, true, true, false] (lv2 := [some (vR (some b0)), some (vI b1), some (vI b2), some (vI b3), some (vI x4), none]) rfl ?_
              exact Hq10 _ hf
            · have hf := mm_if_f c17 hf
              refine me_iconst (v := (0 : Int32)) (q := 63) C dX3_isStable_62 (by decide) rfl ?_
              exact me_zret C hE (Nat.le_of_ble_eq_true rfl) (Nat.le_of_ble_eq_true rfl) rfl (Or.inl rfl) dX3_isStable_63 (mm_ri hf)
        refine me_if_eq (q2 := 45) (q := 35) C dX3_isStable_32 (by decide) rfl (fun c18 => ?_) (fun c18 => ?_)
        · have hf := mm_if_t c18 hf
          exact Hq8 _ hf
        · have hf := mm_if_f c18 hf
          refine me_aload_n (q := 36) C dX3_isStable_35 rfl rfl rfl ?_
          refine me_iload (q := 38) C dX3_isStable_36 rfl rfl ?_
          refine me_iload_n (q := 39) C dX3_isStable_38 rfl rfl rfl ?_
          obtain ⟨k19, hf⟩ := mm_ck_some hf
          obtain ⟨v20, g21, e22, hf⟩ := mm_cl_some hf
          refine me_callV (q := 42) (c2 := 0) (s2 := 0) (st := []) C (cX3_profit_ok _ e22) mt_X3_48 mv_X3_profit rfl (by decide) dX3_isStable_39 rfl k19 rfl rfl rfl (Nat.le_of_ble_eq_true rfl) rfl (Nat.le_of_ble_eq_true rfl) rfl (Nat.le_of_ble_eq_true rfl) rfl rfl ?_
          refine me_if_lt (q2 := 62) (q := 45) C dX3_isStable_42 (by decide) rfl (fun c23 => ?_) (fun c23 => ?_)
          · have hf := mm_if_t c23 hf
            refine me_iconst (v := (0 : Int32)) (q := 63) C dX3_isStable_62 (by decide) rfl ?_
            exact me_zret C hE (Nat.le_of_ble_eq_true rfl) (Nat.le_of_ble_eq_true rfl) rfl (Or.inl rfl) dX3_isStable_63 (mm_ri hf)
          · have hf := mm_if_f c23 hf
            exact Hq8 _ hf
      refine me_if_eq (q2 := 27) (q := 23) C dX3_isStable_20 (by decide) rfl (fun c24 => ?_) (fun c24 => ?_)
      · have hf := mm_if_t c24 hf
        refine me_iconst (v := (0 : Int32)) (q := 28) C dX3_isStable_27 (by decide) rfl ?_
        exact Hq6 _ hf
      · have hf := mm_if_f c24 hf
        refine me_iconst (v := (1 : Int32)) (q := 24) C dX3_isStable_23 (by decide) rfl ?_
        refine me_goto (q := 28) C dX3_isStable_24 (by decide) ?_
        exact Hq6 _ hf
set_option maxRecDepth 100000 in
set_option maxHeartbeats 4000000 in
theorem cX3_isStable_ok (l : Launch) {a0 : Nat} {a1 : Int32} {a2 : Int32} {h : mm_H} {r : Int32} {h1 : mm_H} (hf : fX3_isStable a0 a1 a2 h = some (r, h1)) : mm_M l yX3_isStable cX3_isStable 6 (some .boolean) 4 0 0 [vR (some a0), vI a1, vI a2] h (some (vI r)) h1 := by
  refine mm_enter (lv := [some (vR (some a0)), some (vI a1), some (vI a2), none, none, none]) (by decide) rfl (Nat.le_of_ble_eq_true rfl) ?_
  intro X hl C hE
  subst hl
  unfold fX3_isStable at hf
  refine me_iload_n (q := 1) C dX3_isStable_0 rfl rfl rfl ?_
  obtain ⟨v1, g2, e3, hf⟩ := mm_cl_some hf
  refine me_callS (q := 4) (c2 := 0) (s2 := 0) (st := []) C (cJ6_bitCount_0f7a4_ok _ e3) mt_X3_42 ms_J6_bitCount_0f7a4 dX3_isStable_1 rfl rfl rfl (Nat.le_of_ble_eq_true rfl) rfl (Nat.le_of_ble_eq_true rfl) rfl (Nat.le_of_ble_eq_true rfl) rfl rfl ?_
  refine me_istore_n (q := 5) (lv2 := [some (vR (some a0)), some (vI a1), some (vI a2), some (vI v1), none, none]) C dX3_isStable_4 rfl (Nat.le_of_ble_eq_true rfl) rfl rfl rfl ?_
  refine me_iconst (v := (0 : Int32)) (q := 6) C dX3_isStable_5 (by decide) rfl ?_
  refine me_istore (q := 8) (lv2 := [some (vR (some a0)), some (vI a1), some (vI a2), some (vI v1), some (vI (0 : Int32)), none]) C dX3_isStable_6 (Nat.le_of_ble_eq_true rfl) rfl rfl rfl ?_
  refine cX3_isStable_L8 C hE _ _ _ _ hf ?_
  · intro g25 hf
    refine me_iconst (v := (1 : Int32)) (q := 71) C dX3_isStable_70 (by decide) rfl ?_
    exact me_zret C hE (Nat.le_of_ble_eq_true rfl) (Nat.le_of_ble_eq_true rfl) rfl (Or.inr rfl) dX3_isStable_71 (mm_ri hf)
set_option maxRecDepth 100000 in
set_option maxHeartbeats 4000000 in
theorem cX3_findHolding_L14 {X : mm_X} (C : mm_C X cX3_findHolding yX3_findHolding 6 0 0) {r : Int32} {h1 : mm_H} (hE : mm_End X 0 0 (some .int) (some (vI r)) h1) {b0 : Nat} {b2 : Int32} (K56 : mm_H → Option (Int32 × mm_H)) : ∀ (n : Nat) (x3 : Int32) (h : mm_H), fX3_findHolding_L14 b0 b2 K56 n x3 h = some (r, h1) → (∀ (h : mm_H), K56 h = some (r, h1) → mm_E X h 0 0 56 [some (vR (some b0)), none, none, none] []) → mm_E X h 0 0 14 [some (vR (some b0)), none, some (vI b2), some (vI x3)] [] := by
  intro n
  induction n with
  | zero =>
    intro x3 h hf
    exact absurd (show (none : Option (Int32 × mm_H)) = some (r, h1) from hf) (by simp)
  | succ n ih =>
    intro x3 h hf hk56
    have hf : fX3_findHolding_L14_b b0 b2 K56 (fX3_findHolding_L14 b0 b2 K56 n) x3 h = some (r, h1) := hf
    unfold fX3_findHolding_L14_b at hf
    refine me_iload_n (q := 15) C dX3_findHolding_14 rfl rfl rfl ?_
    refine me_iconst (v := (1 : Int32)) (q := 16) C dX3_findHolding_15 (by decide) rfl ?_
    refine me_iload_n (q := 17) C dX3_findHolding_16 rfl rfl rfl ?_
    refine me_ishl (q := 18) C dX3_findHolding_17 rfl ?_
    refine me_icmp_ge (q2 := 56) (q := 21) C dX3_findHolding_18 (by decide) rfl (fun c4 => ?_) (fun c4 => ?_)
    · have hf := mm_if_t c4 hf
      refine me_mask [true, false, false, false] (lv2 := [some (vR (some b0)), none, none, none]) rfl ?_
      exact hk56 _ hf
    · have hf := mm_if_f c4 hf
      refine me_aload_n (q := 22) C dX3_findHolding_21 rfl rfl rfl ?_
      refine me_iload_n (q := 23) C dX3_findHolding_22 rfl rfl rfl ?_
      refine me_iload_n (q := 24) C dX3_findHolding_23 rfl rfl rfl ?_
      obtain ⟨k5, hf⟩ := mm_ck_some hf
      obtain ⟨v6, g7, e8, hf⟩ := mm_cl_some hf
      refine me_callV (q := 27) (c2 := 0) (s2 := 0) (st := []) C (cX3_isStable_ok _ e8) mt_X3_38 mv_X3_isStable rfl (by decide) dX3_findHolding_24 rfl k5 rfl rfl rfl (Nat.le_of_ble_eq_true rfl) rfl (Nat.le_of_ble_eq_true rfl) rfl (Nat.le_of_ble_eq_true rfl) rfl rfl ?_
      obtain ⟨q10, eq10, hf⟩ := mm_jn_some hf
      have Hq10 : ∀ (g9 : mm_H), q10 g9 = some (r, h1) → mm_E X g9 0 0 50 [some (vR (some b0)), none, some (vI b2), some (vI x3)] [] := by
        intro g9 hf
        subst eq10
        obtain ⟨v11, ev11, hf⟩ := mm_lt_some hf
        refine me_iinc (q := 53) (v := v11) (lv2 := [some (vR (some b0)), none, some (vI b2), some (vI v11)]) C dX3_findHolding_50 rfl (by rw [ev11]; rfl) (Nat.le_of_ble_eq_true rfl) rfl rfl rfl ?_
        refine me_goto (q := 14) C dX3_findHolding_53 (by decide) ?_
        exact ih _ _ hf hk56
      refine me_if_eq (q2 := 50) (q := 30) C dX3_findHolding_27 (by decide) rfl (fun c12 => ?_) (fun c12 => ?_)
      · have hf := mm_if_t c12 hf
        exact Hq10 _ hf
      · have hf := mm_if_f c12 hf
        refine me_aload_n (q := 31) C dX3_findHolding_30 rfl rfl rfl ?_
        obtain ⟨k13, hf⟩ := mm_ck_some hf
        refine me_getR (q := 34) C dX3_findHolding_31 mf_X3_19 rfl rfl k13 rfl ?_
        refine me_aload_n (q := 35) C dX3_findHolding_34 rfl rfl rfl ?_
        refine me_getI (q := 38) C dX3_findHolding_35 mf_X3_35 rfl rfl k13 rfl ?_
        refine me_iload_n (q := 39) C dX3_findHolding_38 rfl rfl rfl ?_
        obtain ⟨u14, eu14, hf⟩ := mm_rf_some hf
        obtain ⟨k15, hf⟩ := mm_ck_some hf
        obtain ⟨k16, hf⟩ := mm_ck_some hf
        obtain ⟨g17, eg17, hf⟩ := mm_lt_some hf
        refine me_iastH (q := 40) C eg17 dX3_findHolding_39 eu14 k15 k16 rfl ?_
        refine me_aload_n (q := 41) C dX3_findHolding_40 rfl rfl rfl ?_
        refine me_dup (q := 42) C dX3_findHolding_41 rfl rfl ?_
        refine me_getI (q := 45) C dX3_findHolding_42 mf_X3_35 rfl rfl (mm_kI eg17 k13) rfl ?_
        refine me_iconst (v := (1 : Int32)) (q := 46) C dX3_findHolding_45 (by decide) rfl ?_
        refine me_iadd (q := 47) C dX3_findHolding_46 rfl ?_
        obtain ⟨g18, eg18, hf⟩ := mm_lt_some hf
        refine me_putI (q := 50) C eg18 dX3_findHolding_47 mf_X3_35 mp_X3_4_5 rfl (by decide) rfl (mm_kI eg17 k13) rfl ?_
        exact Hq10 _ hf
set_option maxRecDepth 100000 in
set_option maxHeartbeats 4000000 in
theorem cX3_findHolding_ok (l : Launch) {a0 : Nat} {a1 : Int32} {h : mm_H} {r : Int32} {h1 : mm_H} (hf : fX3_findHolding a0 a1 h = some (r, h1)) : mm_M l yX3_findHolding cX3_findHolding 4 (some .int) 6 0 0 [vR (some a0), vI a1] h (some (vI r)) h1 := by
  refine mm_enter (lv := [some (vR (some a0)), some (vI a1), none, none]) (by decide) rfl (Nat.le_of_ble_eq_true rfl) ?_
  intro X hl C hE
  subst hl
  unfold fX3_findHolding at hf
  refine me_iload_n (q := 1) C dX3_findHolding_0 rfl rfl rfl ?_
  refine me_bipush (v := (8 : Int32)) (q := 3) C dX3_findHolding_1 (by decide) rfl ?_
  refine me_mmin (q := 6) C dX3_findHolding_3 mm_X3_32 rfl (Nat.le_of_ble_eq_true rfl) rfl ?_
  obtain ⟨v1, ev1, hf⟩ := mm_lt_some hf
  refine me_topI ev1 ?_
  refine me_istore_n (q := 7) (lv2 := [some (vR (some a0)), some (vI a1), some (vI v1), none]) C dX3_findHolding_6 rfl (Nat.le_of_ble_eq_true rfl) rfl rfl rfl ?_
  refine me_aload_n (q := 8) C dX3_findHolding_7 rfl rfl rfl ?_
  refine me_iconst (v := (0 : Int32)) (q := 9) C dX3_findHolding_8 (by decide) rfl ?_
  obtain ⟨k2, hf⟩ := mm_ck_some hf
  obtain ⟨g3, eg3, hf⟩ := mm_lt_some hf
  refine me_putI (q := 12) C eg3 dX3_findHolding_9 mf_X3_35 mp_X3_4_5 rfl (by decide) rfl k2 rfl ?_
  refine me_iconst (v := (0 : Int32)) (q := 13) C dX3_findHolding_12 (by decide) rfl ?_
  refine me_istore_n (q := 14) (lv2 := [some (vR (some a0)), some (vI a1), some (vI v1), some (vI (0 : Int32))]) C dX3_findHolding_13 rfl (Nat.le_of_ble_eq_true rfl) rfl rfl rfl ?_
  refine me_mask [true, false, true, true] (lv2 := [some (vR (some a0)), none, some (vI v1), some (vI (0 : Int32))]) rfl ?_
  refine cX3_findHolding_L14 C hE _ _ _ _ hf ?_
  · intro g19 hf
    refine me_aload_n (q := 57) C dX3_findHolding_56 rfl rfl rfl ?_
    obtain ⟨k20, hf⟩ := mm_ck_some hf
    refine me_getI (q := 60) C dX3_findHolding_57 mf_X3_35 rfl rfl k20 rfl ?_
    exact me_iret C hE (Nat.le_of_ble_eq_true rfl) (Nat.le_of_ble_eq_true rfl) rfl dX3_findHolding_60 (mm_ri hf)
set_option maxRecDepth 100000 in
set_option maxHeartbeats 4000000 in
theorem cX4_init_ok (l : Launch) {a0 : Nat} {a1 : Int32} {a2 : Int32} {a3 : Int32} {a4 : Nat} {a5 : Nat} {a6 : Nat} {h : mm_H} {r : Unit} {h1 : mm_H} (hf : fX4_init a0 a1 a2 a3 a4 a5 a6 h = some (r, h1)) : mm_M l yX4_init cX4_init 7 none 2 0 0 [vR (some a0), vI a1, vI a2, vI a3, vR (some a4), vR (some a5), vR (some a6)] h none h1 := by
  refine mm_enter (lv := [some (vR (some a0)), some (vI a1), some (vI a2), some (vI a3), some (vR (some a4)), some (vR (some a5)), some (vR (some a6))]) (by decide) rfl (Nat.le_of_ble_eq_true rfl) ?_
  intro X hl C hE
  subst hl
  unfold fX4_init at hf
  refine me_aload_n (q := 1) C dX4_init_0 rfl rfl rfl ?_
  refine me_objInit (q := 4) C dX4_init_1 mo_X4_3 rfl rfl (Nat.le_of_ble_eq_true rfl) rfl ?_
  refine me_aload_n (q := 5) C dX4_init_4 rfl rfl rfl ?_
  refine me_iload_n (q := 6) C dX4_init_5 rfl rfl rfl ?_
  obtain ⟨k1, hf⟩ := mm_ck_some hf
  obtain ⟨g2, eg2, hf⟩ := mm_lt_some hf
  refine me_putI (q := 9) C eg2 dX4_init_6 mf_X4_9 mp_X4_5_0 rfl (by decide) rfl k1 rfl ?_
  refine me_aload_n (q := 10) C dX4_init_9 rfl rfl rfl ?_
  refine me_iload_n (q := 11) C dX4_init_10 rfl rfl rfl ?_
  obtain ⟨g3, eg3, hf⟩ := mm_lt_some hf
  refine me_putI (q := 14) C eg3 dX4_init_11 mf_X4_15 mp_X4_5_2 rfl (by decide) rfl (mm_kI eg2 k1) rfl ?_
  refine me_aload_n (q := 15) C dX4_init_14 rfl rfl rfl ?_
  refine me_iload_n (q := 16) C dX4_init_15 rfl rfl rfl ?_
  obtain ⟨g4, eg4, hf⟩ := mm_lt_some hf
  refine me_putI (q := 19) C eg4 dX4_init_16 mf_X4_18 mp_X4_5_1 rfl (by decide) rfl (mm_kI eg3 (mm_kI eg2 k1)) rfl ?_
  refine me_aload_n (q := 20) C dX4_init_19 rfl rfl rfl ?_
  refine me_aload (q := 22) C dX4_init_20 rfl rfl ?_
  obtain ⟨g5, eg5, hf⟩ := mm_lt_some hf
  refine me_putR (q := 25) C eg5 dX4_init_22 mf_X4_21 mp_X4_5_3 (Or.inr ⟨_, rfl⟩) rfl (by decide) rfl (mm_kI eg4 (mm_kI eg3 (mm_kI eg2 k1))) rfl ?_
  refine me_aload_n (q := 26) C dX4_init_25 rfl rfl rfl ?_
  refine me_aload (q := 28) C dX4_init_26 rfl rfl ?_
  obtain ⟨g6, eg6, hf⟩ := mm_lt_some hf
  refine me_putR (q := 31) C eg6 dX4_init_28 mf_X4_25 mp_X4_5_4 (Or.inr ⟨_, rfl⟩) rfl (by decide) rfl (mm_kR eg5 (mm_kI eg4 (mm_kI eg3 (mm_kI eg2 k1)))) rfl ?_
  refine me_aload_n (q := 32) C dX4_init_31 rfl rfl rfl ?_
  refine me_aload (q := 34) C dX4_init_32 rfl rfl ?_
  obtain ⟨g7, eg7, hf⟩ := mm_lt_some hf
  refine me_putR (q := 37) C eg7 dX4_init_34 mf_X4_28 mp_X4_5_5 (Or.inr ⟨_, rfl⟩) rfl (by decide) rfl (mm_kR eg6 (mm_kR eg5 (mm_kI eg4 (mm_kI eg3 (mm_kI eg2 k1))))) rfl ?_
  exact me_vret C hE (Nat.le_of_ble_eq_true rfl) (Nat.le_of_ble_eq_true rfl) rfl dX4_init_37 (mm_ru hf)
set_option maxRecDepth 100000 in
set_option maxHeartbeats 4000000 in
theorem cX5_init_ok (l : Launch) {a0 : Nat} {h : mm_H} {r : Unit} {h1 : mm_H} (hf : fX5_init a0 h = some (r, h1)) : mm_M l yX5_init cX5_init 1 none 2 7 2024 [vR (some a0)] h none h1 := by
  refine mm_enter (lv := [some (vR (some a0))]) (by decide) rfl (Nat.le_of_ble_eq_true rfl) ?_
  intro X hl C hE
  subst hl
  unfold fX5_init at hf
  refine me_aload_n (q := 1) C dX5_init_0 rfl rfl rfl ?_
  refine me_objInit (q := 4) C dX5_init_1 mo_X5_3 rfl rfl (Nat.le_of_ble_eq_true rfl) rfl ?_
  refine me_aload_n (q := 5) C dX5_init_4 rfl rfl rfl ?_
  refine me_sipush (v := (400 : Int32)) (q := 8) C dX5_init_5 (by decide) rfl ?_
  obtain ⟨g1, eg1, hf⟩ := mm_lt_some hf
  obtain ⟨u2, eu2, hf⟩ := mm_lt_some hf
  refine me_newaB (q := 10) (B := 400) (c2 := 1) (s2 := 400) C eg1 dX5_init_8 ma_byte ⟨by decide, Nat.le_of_ble_eq_true rfl⟩ (Nat.le_of_ble_eq_true rfl) rfl (Nat.le_of_ble_eq_true rfl) rfl (Nat.le_of_ble_eq_true rfl) rfl ?_
  refine me_topR (congrArg some eu2) ?_
  have k3 : mm_kd g1 u2 = 16 := by rw [eu2]; exact mm_kN eg1
  obtain ⟨k4, hf⟩ := mm_ck_some hf
  obtain ⟨g5, eg5, hf⟩ := mm_lt_some hf
  refine me_putR (q := 13) C eg5 dX5_init_10 mf_X5_11 mp_X5_6_0 (Or.inr ⟨_, rfl⟩) rfl (by decide) rfl k4 rfl ?_
  refine me_aload_n (q := 14) C dX5_init_13 rfl rfl rfl ?_
  refine me_sipush (v := (401 : Int32)) (q := 17) C dX5_init_14 (by decide) rfl ?_
  obtain ⟨g6, eg6, hf⟩ := mm_lt_some hf
  obtain ⟨u7, eu7, hf⟩ := mm_lt_some hf
  refine me_newaI (q := 19) (B := 401) (c2 := 2) (s2 := 801) C eg6 dX5_init_17 ma_int ⟨by decide, Nat.le_of_ble_eq_true rfl⟩ (Nat.le_of_ble_eq_true rfl) rfl (Nat.le_of_ble_eq_true rfl) rfl (Nat.le_of_ble_eq_true rfl) rfl ?_
  refine me_topR (congrArg some eu7) ?_
  have k8 : mm_kd g6 u7 = 14 := by rw [eu7]; exact mm_kN eg6
  obtain ⟨k9, hf⟩ := mm_ck_some hf
  obtain ⟨g10, eg10, hf⟩ := mm_lt_some hf
  refine me_putR (q := 22) C eg10 dX5_init_19 mf_X5_15 mp_X5_6_2 (Or.inr ⟨_, rfl⟩) rfl (by decide) rfl k9 rfl ?_
  refine me_aload_n (q := 23) C dX5_init_22 rfl rfl rfl ?_
  refine me_sipush (v := (401 : Int32)) (q := 26) C dX5_init_23 (by decide) rfl ?_
  obtain ⟨g11, eg11, hf⟩ := mm_lt_some hf
  obtain ⟨u12, eu12, hf⟩ := mm_lt_some hf
  refine me_newaI (q := 28) (B := 401) (c2 := 3) (s2 := 1202) C eg11 dX5_init_26 ma_int ⟨by decide, Nat.le_of_ble_eq_true rfl⟩ (Nat.le_of_ble_eq_true rfl) rfl (Nat.le_of_ble_eq_true rfl) rfl (Nat.le_of_ble_eq_true rfl) rfl ?_
  refine me_topR (congrArg some eu12) ?_
  have k13 : mm_kd g11 u12 = 14 := by rw [eu12]; exact mm_kN eg11
  obtain ⟨k14, hf⟩ := mm_ck_some hf
  obtain ⟨g15, eg15, hf⟩ := mm_lt_some hf
  refine me_putR (q := 31) C eg15 dX5_init_28 mf_X5_19 mp_X5_6_3 (Or.inr ⟨_, rfl⟩) rfl (by decide) rfl k14 rfl ?_
  refine me_aload_n (q := 32) C dX5_init_31 rfl rfl rfl ?_
  refine me_sipush (v := (401 : Int32)) (q := 35) C dX5_init_32 (by decide) rfl ?_
  obtain ⟨g16, eg16, hf⟩ := mm_lt_some hf
  obtain ⟨u17, eu17, hf⟩ := mm_lt_some hf
  refine me_newaI (q := 37) (B := 401) (c2 := 4) (s2 := 1603) C eg16 dX5_init_35 ma_int ⟨by decide, Nat.le_of_ble_eq_true rfl⟩ (Nat.le_of_ble_eq_true rfl) rfl (Nat.le_of_ble_eq_true rfl) rfl (Nat.le_of_ble_eq_true rfl) rfl ?_
  refine me_topR (congrArg some eu17) ?_
  have k18 : mm_kd g16 u17 = 14 := by rw [eu17]; exact mm_kN eg16
  obtain ⟨k19, hf⟩ := mm_ck_some hf
  obtain ⟨g20, eg20, hf⟩ := mm_lt_some hf
  refine me_putR (q := 40) C eg20 dX5_init_37 mf_X5_22 mp_X5_6_4 (Or.inr ⟨_, rfl⟩) rfl (by decide) rfl k19 rfl ?_
  refine me_aload_n (q := 41) C dX5_init_40 rfl rfl rfl ?_
  refine me_sipush (v := (400 : Int32)) (q := 44) C dX5_init_41 (by decide) rfl ?_
  obtain ⟨g21, eg21, hf⟩ := mm_lt_some hf
  obtain ⟨u22, eu22, hf⟩ := mm_lt_some hf
  refine me_newaI (q := 46) (B := 400) (c2 := 5) (s2 := 2003) C eg21 dX5_init_44 ma_int ⟨by decide, Nat.le_of_ble_eq_true rfl⟩ (Nat.le_of_ble_eq_true rfl) rfl (Nat.le_of_ble_eq_true rfl) rfl (Nat.le_of_ble_eq_true rfl) rfl ?_
  refine me_topR (congrArg some eu22) ?_
  have k23 : mm_kd g21 u22 = 14 := by rw [eu22]; exact mm_kN eg21
  obtain ⟨k24, hf⟩ := mm_ck_some hf
  obtain ⟨g25, eg25, hf⟩ := mm_lt_some hf
  refine me_putR (q := 49) C eg25 dX5_init_46 mf_X5_25 mp_X5_6_9 (Or.inr ⟨_, rfl⟩) rfl (by decide) rfl k24 rfl ?_
  refine me_aload_n (q := 50) C dX5_init_49 rfl rfl rfl ?_
  refine me_bipush (v := (10 : Int32)) (q := 52) C dX5_init_50 (by decide) rfl ?_
  obtain ⟨g26, eg26, hf⟩ := mm_lt_some hf
  obtain ⟨u27, eu27, hf⟩ := mm_lt_some hf
  refine me_newaI (q := 54) (B := 10) (c2 := 6) (s2 := 2013) C eg26 dX5_init_52 ma_int ⟨by decide, Nat.le_of_ble_eq_true rfl⟩ (Nat.le_of_ble_eq_true rfl) rfl (Nat.le_of_ble_eq_true rfl) rfl (Nat.le_of_ble_eq_true rfl) rfl ?_
  refine me_topR (congrArg some eu27) ?_
  have k28 : mm_kd g26 u27 = 14 := by rw [eu27]; exact mm_kN eg26
  obtain ⟨k29, hf⟩ := mm_ck_some hf
  obtain ⟨g30, eg30, hf⟩ := mm_lt_some hf
  refine me_putR (q := 57) C eg30 dX5_init_54 mf_X5_28 mp_X5_6_11 (Or.inr ⟨_, rfl⟩) rfl (by decide) rfl k29 rfl ?_
  refine me_aload_n (q := 58) C dX5_init_57 rfl rfl rfl ?_
  refine me_bipush (v := (11 : Int32)) (q := 60) C dX5_init_58 (by decide) rfl ?_
  obtain ⟨g31, eg31, hf⟩ := mm_lt_some hf
  obtain ⟨u32, eu32, hf⟩ := mm_lt_some hf
  refine me_newaI (q := 62) (B := 11) (c2 := 7) (s2 := 2024) C eg31 dX5_init_60 ma_int ⟨by decide, Nat.le_of_ble_eq_true rfl⟩ (Nat.le_of_ble_eq_true rfl) rfl (Nat.le_of_ble_eq_true rfl) rfl (Nat.le_of_ble_eq_true rfl) rfl ?_
  refine me_topR (congrArg some eu32) ?_
  have k33 : mm_kd g31 u32 = 14 := by rw [eu32]; exact mm_kN eg31
  obtain ⟨k34, hf⟩ := mm_ck_some hf
  obtain ⟨g35, eg35, hf⟩ := mm_lt_some hf
  refine me_putR (q := 65) C eg35 dX5_init_62 mf_X5_31 mp_X5_6_12 (Or.inr ⟨_, rfl⟩) rfl (by decide) rfl k34 rfl ?_
  exact me_vret C hE (Nat.le_of_ble_eq_true rfl) (Nat.le_of_ble_eq_true rfl) rfl dX5_init_65 (mm_ru hf)
set_option maxRecDepth 100000 in
set_option maxHeartbeats 4000000 in
theorem cX5_hasRoomFor_ok (l : Launch) {a0 : Nat} {a1 : Int32} {h : mm_H} {r : Int32} {h1 : mm_H} (hf : fX5_hasRoomFor a0 a1 h = some (r, h1)) : mm_M l yX5_hasRoomFor cX5_hasRoomFor 2 (some .boolean) 2 0 0 [vR (some a0), vI a1] h (some (vI r)) h1 := by
  refine mm_enter (lv := [some (vR (some a0)), some (vI a1)]) (by decide) rfl (Nat.le_of_ble_eq_true rfl) ?_
  intro X hl C hE
  subst hl
  unfold fX5_hasRoomFor at hf
  refine me_aload_n (q := 1) C dX5_hasRoomFor_0 rfl rfl rfl ?_
  obtain ⟨k1, hf⟩ := mm_ck_some hf
  refine me_getI (q := 4) C dX5_hasRoomFor_1 mf_X5_34 rfl rfl k1 rfl ?_
  refine me_iload_n (q := 5) C dX5_hasRoomFor_4 rfl rfl rfl ?_
  refine me_iadd (q := 6) C dX5_hasRoomFor_5 rfl ?_
  refine me_sipush (v := (400 : Int32)) (q := 9) C dX5_hasRoomFor_6 (by decide) rfl ?_
  refine me_icmp_gt (q2 := 16) (q := 12) C dX5_hasRoomFor_9 (by decide) rfl (fun c2 => ?_) (fun c2 => ?_)
  · have hf := mm_if_t c2 hf
    refine me_iconst (v := (0 : Int32)) (q := 17) C dX5_hasRoomFor_16 (by decide) rfl ?_
    exact me_zret C hE (Nat.le_of_ble_eq_true rfl) (Nat.le_of_ble_eq_true rfl) rfl (Or.inl rfl) dX5_hasRoomFor_17 (mm_ri hf)
  · have hf := mm_if_f c2 hf
    refine me_iconst (v := (1 : Int32)) (q := 13) C dX5_hasRoomFor_12 (by decide) rfl ?_
    refine me_goto (q := 17) C dX5_hasRoomFor_13 (by decide) ?_
    exact me_zret C hE (Nat.le_of_ble_eq_true rfl) (Nat.le_of_ble_eq_true rfl) rfl (Or.inr rfl) dX5_hasRoomFor_17 (mm_ri hf)
set_option maxRecDepth 100000 in
set_option maxHeartbeats 4000000 in
theorem cX5_write_L12 {X : mm_X} (C : mm_C X cX5_write yX5_write 4 0 0) {r : Unit} {h1 : mm_H} (hE : mm_End X 0 0 none none h1) {b0 : Nat} {b1 : Int32} (K45 : mm_H → Option (Unit × mm_H)) : ∀ (n : Nat) (x2 : Int32) (h : mm_H), fX5_write_L12 b0 b1 K45 n x2 h = some (r, h1) → (∀ (h : mm_H), K45 h = some (r, h1) → mm_E X h 0 0 45 [none, none, none] []) → mm_E X h 0 0 12 [some (vR (some b0)), some (vI b1), some (vI x2)] [] := by
  intro n
  induction n with
  | zero =>
    intro x2 h hf
    exact absurd (show (none : Option (Unit × mm_H)) = some (r, h1) from hf) (by simp)
  | succ n ih =>
    intro x2 h hf hk45
    have hf : fX5_write_L12_b b0 b1 K45 (fX5_write_L12 b0 b1 K45 n) x2 h = some (r, h1) := hf
    unfold fX5_write_L12_b at hf
    refine me_iload_n (q := 13) C dX5_write_12 rfl rfl rfl ?_
    refine me_if_lt (q2 := 45) (q := 16) C dX5_write_13 (by decide) rfl (fun c6 => ?_) (fun c6 => ?_)
    · have hf := mm_if_t c6 hf
      refine me_mask [false, false, false] (lv2 := [none, none, none]) rfl ?_
      exact hk45 _ hf
    · have hf := mm_if_f c6 hf
      refine me_aload_n (q := 17) C dX5_write_16 rfl rfl rfl ?_
      obtain ⟨k7, hf⟩ := mm_ck_some hf
      refine me_getR (q := 20) C dX5_write_17 mf_X5_11 rfl rfl k7 rfl ?_
      refine me_aload_n (q := 21) C dX5_write_20 rfl rfl rfl ?_
      refine me_getI (q := 24) C dX5_write_21 mf_X5_34 rfl rfl k7 rfl ?_
      refine me_iload_n (q := 25) C dX5_write_24 rfl rfl rfl ?_
      refine me_iload_n (q := 26) C dX5_write_25 rfl rfl rfl ?_
      refine me_ishr (q := 27) C dX5_write_26 rfl ?_
      refine me_i2b (q := 28) C dX5_write_27 rfl ?_
      obtain ⟨u8, eu8, hf⟩ := mm_rf_some hf
      obtain ⟨k9, hf⟩ := mm_ck_some hf
      obtain ⟨k10, hf⟩ := mm_ck_some hf
      obtain ⟨g11, eg11, hf⟩ := mm_lt_some hf
      refine me_bastH (q := 29) C eg11 dX5_write_28 eu8 k9 k10 rfl ?_
      refine me_aload_n (q := 30) C dX5_write_29 rfl rfl rfl ?_
      refine me_dup (q := 31) C dX5_write_30 rfl rfl ?_
      refine me_getI (q := 34) C dX5_write_31 mf_X5_34 rfl rfl (mm_kI eg11 k7) rfl ?_
      refine me_iconst (v := (1 : Int32)) (q := 35) C dX5_write_34 (by decide) rfl ?_
      refine me_iadd (q := 36) C dX5_write_35 rfl ?_
      obtain ⟨g12, eg12, hf⟩ := mm_lt_some hf
      refine me_putI (q := 39) C eg12 dX5_write_36 mf_X5_34 mp_X5_6_1 rfl (by decide) rfl (mm_kI eg11 k7) rfl ?_
      obtain ⟨v13, ev13, hf⟩ := mm_lt_some hf
      refine me_iinc (q := 42) (v := v13) (lv2 := [some (vR (some b0)), some (vI b1), some (vI v13)]) C dX5_write_39 rfl (by rw [ev13]; rfl) (Nat.le_of_ble_eq_true rfl) rfl rfl rfl ?_
      refine me_goto (q := 12) C dX5_write_42 (by decide) ?_
      exact ih _ _ hf hk45
set_option maxRecDepth 100000 in
set_option maxHeartbeats 4000000 in
theorem cX5_write_ok (l : Launch) {a0 : Nat} {a1 : Int32} {h : mm_H} {r : Unit} {h1 : mm_H} (hf : fX5_write a0 a1 h = some (r, h1)) : mm_M l yX5_write cX5_write 3 none 4 0 0 [vR (some a0), vI a1] h none h1 := by
  refine mm_enter (lv := [some (vR (some a0)), some (vI a1), none]) (by decide) rfl (Nat.le_of_ble_eq_true rfl) ?_
  intro X hl C hE
  subst hl
  unfold fX5_write at hf
  refine me_aload_n (q := 1) C dX5_write_0 rfl rfl rfl ?_
  refine me_iconst (v := (4 : Int32)) (q := 2) C dX5_write_1 (by decide) rfl ?_
  obtain ⟨k1, hf⟩ := mm_ck_some hf
  obtain ⟨v2, g3, e4, hf⟩ := mm_cl_some hf
  refine me_callV (q := 5) (c2 := 0) (s2 := 0) (st := []) C (cX5_hasRoomFor_ok _ e4) mt_X5_38 mv_X5_hasRoomFor rfl (by decide) dX5_write_2 rfl k1 rfl rfl rfl (Nat.le_of_ble_eq_true rfl) rfl (Nat.le_of_ble_eq_true rfl) rfl (Nat.le_of_ble_eq_true rfl) rfl rfl ?_
  refine me_if_ne (q2 := 9) (q := 8) C dX5_write_5 (by decide) rfl (fun c5 => ?_) (fun c5 => ?_)
  · have hf := mm_if_t c5 hf
    refine me_bipush (v := (24 : Int32)) (q := 11) C dX5_write_9 (by decide) rfl ?_
    refine me_istore_n (q := 12) (lv2 := [some (vR (some a0)), some (vI a1), some (vI (24 : Int32))]) C dX5_write_11 rfl (Nat.le_of_ble_eq_true rfl) rfl rfl rfl ?_
    refine cX5_write_L12 C hE _ _ _ _ hf ?_
    · intro g14 hf
      exact me_vret C hE (Nat.le_of_ble_eq_true rfl) (Nat.le_of_ble_eq_true rfl) rfl dX5_write_45 (mm_ru hf)
  · have hf := mm_if_f c5 hf
    exact me_vret C hE (Nat.le_of_ble_eq_true rfl) (Nat.le_of_ble_eq_true rfl) rfl dX5_write_8 (mm_ru hf)
set_option maxRecDepth 100000 in
set_option maxHeartbeats 4000000 in
theorem cX5_isDigit_ok (l : Launch) {a0 : Int32} {h : mm_H} {r : Int32} {h1 : mm_H} (hf : fX5_isDigit a0 h = some (r, h1)) : mm_M l yX5_isDigit cX5_isDigit 1 (some .boolean) 2 0 0 [vI a0] h (some (vI r)) h1 := by
  refine mm_enter (lv := [some (vI a0)]) (by decide) rfl (Nat.le_of_ble_eq_true rfl) ?_
  intro X hl C hE
  subst hl
  unfold fX5_isDigit at hf
  refine me_iload_n (q := 1) C dX5_isDigit_0 rfl rfl rfl ?_
  refine me_bipush (v := (48 : Int32)) (q := 3) C dX5_isDigit_1 (by decide) rfl ?_
  refine me_icmp_lt (q2 := 16) (q := 6) C dX5_isDigit_3 (by decide) rfl (fun c1 => ?_) (fun c1 => ?_)
  · have hf := mm_if_t c1 hf
    refine me_iconst (v := (0 : Int32)) (q := 17) C dX5_isDigit_16 (by decide) rfl ?_
    exact me_zret C hE (Nat.le_of_ble_eq_true rfl) (Nat.le_of_ble_eq_true rfl) rfl (Or.inl rfl) dX5_isDigit_17 (mm_ri hf)
  · have hf := mm_if_f c1 hf
    refine me_iload_n (q := 7) C dX5_isDigit_6 rfl rfl rfl ?_
    refine me_bipush (v := (57 : Int32)) (q := 9) C dX5_isDigit_7 (by decide) rfl ?_
    refine me_icmp_gt (q2 := 16) (q := 12) C dX5_isDigit_9 (by decide) rfl (fun c2 => ?_) (fun c2 => ?_)
    · have hf := mm_if_t c2 hf
      refine me_iconst (v := (0 : Int32)) (q := 17) C dX5_isDigit_16 (by decide) rfl ?_
      exact me_zret C hE (Nat.le_of_ble_eq_true rfl) (Nat.le_of_ble_eq_true rfl) rfl (Or.inl rfl) dX5_isDigit_17 (mm_ri hf)
    · have hf := mm_if_f c2 hf
      refine me_iconst (v := (1 : Int32)) (q := 13) C dX5_isDigit_12 (by decide) rfl ?_
      refine me_goto (q := 17) C dX5_isDigit_13 (by decide) ?_
      exact me_zret C hE (Nat.le_of_ble_eq_true rfl) (Nat.le_of_ble_eq_true rfl) rfl (Or.inr rfl) dX5_isDigit_17 (mm_ri hf)
set_option maxRecDepth 100000 in
set_option maxHeartbeats 4000000 in
theorem cX5_putToken_ok (l : Launch) {a0 : Nat} {a1 : Int32} {a2 : Int32} {a3 : Int32} {h : mm_H} {r : Unit} {h1 : mm_H} (hf : fX5_putToken a0 a1 a2 a3 h = some (r, h1)) : mm_M l yX5_putToken cX5_putToken 4 none 2 0 0 [vR (some a0), vI a1, vI a2, vI a3] h none h1 := by
  refine mm_enter (lv := [some (vR (some a0)), some (vI a1), some (vI a2), some (vI a3)]) (by decide) rfl (Nat.le_of_ble_eq_true rfl) ?_
  intro X hl C hE
  subst hl
  unfold fX5_putToken at hf
  refine me_aload_n (q := 1) C dX5_putToken_0 rfl rfl rfl ?_
  obtain ⟨k1, hf⟩ := mm_ck_some hf
  refine me_getI (q := 4) C dX5_putToken_1 mf_X5_78 rfl rfl k1 rfl ?_
  refine me_aload_n (q := 5) C dX5_putToken_4 rfl rfl rfl ?_
  refine me_getR (q := 8) C dX5_putToken_5 mf_X5_15 rfl rfl k1 rfl ?_
  obtain ⟨u2, eu2, hf⟩ := mm_rf_some hf
  obtain ⟨k3, hf⟩ := mm_ck_some hf
  refine me_alen (q := 9) C 0 rfl (by decide) dX5_putToken_8 eu2 k3 rfl ?_
  refine me_icmp_ge (q2 := 52) (q := 12) C dX5_putToken_9 (by decide) rfl (fun c4 => ?_) (fun c4 => ?_)
  · have hf := mm_if_t c4 hf
    exact me_vret C hE (Nat.le_of_ble_eq_true rfl) (Nat.le_of_ble_eq_true rfl) rfl dX5_putToken_52 (mm_ru hf)
  · have hf := mm_if_f c4 hf
    refine me_aload_n (q := 13) C dX5_putToken_12 rfl rfl rfl ?_
    refine me_getR (q := 16) C dX5_putToken_13 mf_X5_15 rfl rfl k1 rfl ?_
    refine me_aload_n (q := 17) C dX5_putToken_16 rfl rfl rfl ?_
    refine me_getI (q := 20) C dX5_putToken_17 mf_X5_78 rfl rfl k1 rfl ?_
    refine me_iload_n (q := 21) C dX5_putToken_20 rfl rfl rfl ?_
    obtain ⟨k5, hf⟩ := mm_ck_some hf
    obtain ⟨g6, eg6, hf⟩ := mm_lt_some hf
    refine me_iastH (q := 22) C eg6 dX5_putToken_21 eu2 k3 k5 rfl ?_
    refine me_aload_n (q := 23) C dX5_putToken_22 rfl rfl rfl ?_
    refine me_getR (q := 26) C dX5_putToken_23 mf_X5_19 rfl rfl (mm_kI eg6 k1) rfl ?_
    refine me_aload_n (q := 27) C dX5_putToken_26 rfl rfl rfl ?_
    refine me_getI (q := 30) C dX5_putToken_27 mf_X5_78 rfl rfl (mm_kI eg6 k1) rfl ?_
    refine me_iload_n (q := 31) C dX5_putToken_30 rfl rfl rfl ?_
    obtain ⟨u7, eu7, hf⟩ := mm_rf_some hf
    obtain ⟨k8, hf⟩ := mm_ck_some hf
    obtain ⟨k9, hf⟩ := mm_ck_some hf
    obtain ⟨g10, eg10, hf⟩ := mm_lt_some hf
    refine me_iastH (q := 32) C eg10 dX5_putToken_31 eu7 k8 k9 rfl ?_
    refine me_aload_n (q := 33) C dX5_putToken_32 rfl rfl rfl ?_
    refine me_getR (q := 36) C dX5_putToken_33 mf_X5_22 rfl rfl (mm_kI eg10 (mm_kI eg6 k1)) rfl ?_
    refine me_aload_n (q := 37) C dX5_putToken_36 rfl rfl rfl ?_
    refine me_getI (q := 40) C dX5_putToken_37 mf_X5_78 rfl rfl (mm_kI eg10 (mm_kI eg6 k1)) rfl ?_
    refine me_iload_n (q := 41) C dX5_putToken_40 rfl rfl rfl ?_
    obtain ⟨u11, eu11, hf⟩ := mm_rf_some hf
    obtain ⟨k12, hf⟩ := mm_ck_some hf
    obtain ⟨k13, hf⟩ := mm_ck_some hf
    obtain ⟨g14, eg14, hf⟩ := mm_lt_some hf
    refine me_iastH (q := 42) C eg14 dX5_putToken_41 eu11 k12 k13 rfl ?_
    refine me_aload_n (q := 43) C dX5_putToken_42 rfl rfl rfl ?_
    refine me_dup (q := 44) C dX5_putToken_43 rfl rfl ?_
    refine me_getI (q := 47) C dX5_putToken_44 mf_X5_78 rfl rfl (mm_kI eg14 (mm_kI eg10 (mm_kI eg6 k1))) rfl ?_
    refine me_iconst (v := (1 : Int32)) (q := 48) C dX5_putToken_47 (by decide) rfl ?_
    refine me_iadd (q := 49) C dX5_putToken_48 rfl ?_
    obtain ⟨g15, eg15, hf⟩ := mm_lt_some hf
    refine me_putI (q := 52) C eg15 dX5_putToken_49 mf_X5_78 mp_X5_6_5 rfl (by decide) rfl (mm_kI eg14 (mm_kI eg10 (mm_kI eg6 k1))) rfl ?_
    exact me_vret C hE (Nat.le_of_ble_eq_true rfl) (Nat.le_of_ble_eq_true rfl) rfl dX5_putToken_52 (mm_ru hf)
set_option maxRecDepth 100000 in
set_option maxHeartbeats 4000000 in
theorem cX5_cutNumber_L4 {X : mm_X} (C : mm_C X cX5_cutNumber yX5_cutNumber 4 0 0) {r : Int32} {h1 : mm_H} (hE : mm_End X 0 0 (some .int) (some (vI r)) h1) {b0 : Nat} {b1 : Int32} (K52 : Int32 → Int32 → mm_H → Option (Int32 × mm_H)) : ∀ (n : Nat) (x2 : Int32) (x3 : Int32) (h : mm_H), fX5_cutNumber_L4 b0 b1 K52 n x2 x3 h = some (r, h1) → (∀ (y2 : Int32) (y3 : Int32) (h : mm_H), K52 y2 y3 h = some (r, h1) → mm_E X h 0 0 52 [some (vR (some b0)), some (vI b1), some (vI y2), some (vI y3)] []) → mm_E X h 0 0 4 [some (vR (some b0)), some (vI b1), some (vI x2), some (vI x3)] [] := by
  intro n
  induction n with
  | zero =>
    intro x2 x3 h hf
    exact absurd (show (none : Option (Int32 × mm_H)) = some (r, h1) from hf) (by simp)
  | succ n ih =>
    intro x2 x3 h hf hk52
    have hf : fX5_cutNumber_L4_b b0 b1 K52 (fX5_cutNumber_L4 b0 b1 K52 n) x2 x3 h = some (r, h1) := hf
    unfold fX5_cutNumber_L4_b at hf
    refine me_iload_n (q := 5) C dX5_cutNumber_4 rfl rfl rfl ?_
    refine me_aload_n (q := 6) C dX5_cutNumber_5 rfl rfl rfl ?_
    obtain ⟨k1, hf⟩ := mm_ck_some hf
    refine me_getI (q := 9) C dX5_cutNumber_6 mf_X5_34 rfl rfl k1 rfl ?_
    refine me_icmp_ge (q2 := 52) (q := 12) C dX5_cutNumber_9 (by decide) rfl (fun c2 => ?_) (fun c2 => ?_)
    · have hf := mm_if_t c2 hf
      exact hk52 _ _ _ hf
    · have hf := mm_if_f c2 hf
      refine me_aload_n (q := 13) C dX5_cutNumber_12 rfl rfl rfl ?_
      refine me_getR (q := 16) C dX5_cutNumber_13 mf_X5_11 rfl rfl k1 rfl ?_
      refine me_iload_n (q := 17) C dX5_cutNumber_16 rfl rfl rfl ?_
      obtain ⟨u3, eu3, hf⟩ := mm_rf_some hf
      obtain ⟨k4, hf⟩ := mm_ck_some hf
      obtain ⟨k5, hf⟩ := mm_ck_some hf
      refine me_bald (q := 18) C dX5_cutNumber_17 eu3 k4 k5 rfl ?_
      obtain ⟨v6, g7, e8, hf⟩ := mm_cl_some hf
      refine me_callS (q := 21) (c2 := 0) (s2 := 0) (st := []) C (cX5_isDigit_ok _ e8) mt_X5_81 ms_X5_isDigit dX5_cutNumber_18 rfl rfl rfl (Nat.le_of_ble_eq_true rfl) rfl (Nat.le_of_ble_eq_true rfl) rfl (Nat.le_of_ble_eq_true rfl) rfl rfl ?_
      refine me_if_eq (q2 := 52) (q := 24) C dX5_cutNumber_21 (by decide) rfl (fun c9 => ?_) (fun c9 => ?_)
      · have hf := mm_if_t c9 hf
        exact hk52 _ _ _ hf
      · have hf := mm_if_f c9 hf
        refine me_iload_n (q := 25) C dX5_cutNumber_24 rfl rfl rfl ?_
        refine me_iload_n (q := 26) C dX5_cutNumber_25 rfl rfl rfl ?_
        refine me_isub (q := 27) C dX5_cutNumber_26 rfl ?_
        refine me_iconst (v := (5 : Int32)) (q := 28) C dX5_cutNumber_27 (by decide) rfl ?_
        obtain ⟨q11, eq11, hf⟩ := mm_jn_some hf
        have Hq11 : ∀ (v10 : Int32), q11 v10 = some (r, h1) → mm_E X g7 0 0 46 [some (vR (some b0)), some (vI b1), some (vI x2), some (vI v10)] [] := by
          intro v10 hf
          subst eq11
          obtain ⟨v12, ev12, hf⟩ := mm_lt_some hf
          refine me_iinc (q := 49) (v := v12) (lv2 := [some (vR (some b0)), some (vI b1), some (vI v12), some (vI v10)]) C dX5_cutNumber_46 rfl (by rw [ev12]; rfl) (Nat.le_of_ble_eq_true rfl) rfl rfl rfl ?_
          refine me_goto (q := 4) C dX5_cutNumber_49 (by decide) ?_
          exact ih _ _ _ hf hk52
        refine me_icmp_ge (q2 := 46) (q := 31) C dX5_cutNumber_28 (by decide) rfl (fun c13 => ?_) (fun c13 => ?_)
        · have hf := mm_if_t c13 hf
          exact Hq11 _ hf
        · have hf := mm_if_f c13 hf
          refine me_iload_n (q := 32) C dX5_cutNumber_31 rfl rfl rfl ?_
          refine me_bipush (v := (10 : Int32)) (q := 34) C dX5_cutNumber_32 (by decide) rfl ?_
          refine me_imul (q := 35) C dX5_cutNumber_34 rfl ?_
          refine me_aload_n (q := 36) C dX5_cutNumber_35 rfl rfl rfl ?_
          obtain ⟨k14, hf⟩ := mm_ck_some hf
          refine me_getR (q := 39) C dX5_cutNumber_36 mf_X5_11 rfl rfl k14 rfl ?_
          refine me_iload_n (q := 40) C dX5_cutNumber_39 rfl rfl rfl ?_
          obtain ⟨u15, eu15, hf⟩ := mm_rf_some hf
          obtain ⟨k16, hf⟩ := mm_ck_some hf
          obtain ⟨k17, hf⟩ := mm_ck_some hf
          refine me_bald (q := 41) C dX5_cutNumber_40 eu15 k16 k17 rfl ?_
          refine me_bipush (v := (48 : Int32)) (q := 43) C dX5_cutNumber_41 (by decide) rfl ?_
          refine me_isub (q := 44) C dX5_cutNumber_43 rfl ?_
          refine me_iadd (q := 45) C dX5_cutNumber_44 rfl ?_
          obtain ⟨v18, ev18, hf⟩ := mm_lt_some hf
          refine me_topI ev18 ?_
          refine me_istore_n (q := 46) (lv2 := [some (vR (some b0)), some (vI b1), some (vI x2), some (vI v18)]) C dX5_cutNumber_45 rfl (Nat.le_of_ble_eq_true rfl) rfl rfl rfl ?_
          exact Hq11 _ hf
set_option maxRecDepth 100000 in
set_option maxHeartbeats 4000000 in
theorem cX5_cutNumber_ok (l : Launch) {a0 : Nat} {a1 : Int32} {h : mm_H} {r : Int32} {h1 : mm_H} (hf : fX5_cutNumber a0 a1 h = some (r, h1)) : mm_M l yX5_cutNumber cX5_cutNumber 4 (some .int) 4 0 0 [vR (some a0), vI a1] h (some (vI r)) h1 := by
  refine mm_enter (lv := [some (vR (some a0)), some (vI a1), none, none]) (by decide) rfl (Nat.le_of_ble_eq_true rfl) ?_
  intro X hl C hE
  subst hl
  unfold fX5_cutNumber at hf
  refine me_iload_n (q := 1) C dX5_cutNumber_0 rfl rfl rfl ?_
  refine me_istore_n (q := 2) (lv2 := [some (vR (some a0)), some (vI a1), some (vI a1), none]) C dX5_cutNumber_1 rfl (Nat.le_of_ble_eq_true rfl) rfl rfl rfl ?_
  refine me_iconst (v := (0 : Int32)) (q := 3) C dX5_cutNumber_2 (by decide) rfl ?_
  refine me_istore_n (q := 4) (lv2 := [some (vR (some a0)), some (vI a1), some (vI a1), some (vI (0 : Int32))]) C dX5_cutNumber_3 rfl (Nat.le_of_ble_eq_true rfl) rfl rfl rfl ?_
  refine cX5_cutNumber_L4 C hE _ _ _ _ _ hf ?_
  · intro z19 z20 g21 hf
    refine me_aload_n (q := 53) C dX5_cutNumber_52 rfl rfl rfl ?_
    refine me_bipush (v := (21 : Int32)) (q := 55) C dX5_cutNumber_53 (by decide) rfl ?_
    refine me_iload_n (q := 56) C dX5_cutNumber_55 rfl rfl rfl ?_
    refine me_iload_n (q := 57) C dX5_cutNumber_56 rfl rfl rfl ?_
    refine me_iload_n (q := 58) C dX5_cutNumber_57 rfl rfl rfl ?_
    refine me_isub (q := 59) C dX5_cutNumber_58 rfl ?_
    refine me_iconst (v := (5 : Int32)) (q := 60) C dX5_cutNumber_59 (by decide) rfl ?_
    refine me_icmp_le (q2 := 67) (q := 63) C dX5_cutNumber_60 (by decide) rfl (fun c22 => ?_) (fun c22 => ?_)
    · have hf := mm_if_t c22 hf
      refine me_iload_n (q := 68) C dX5_cutNumber_67 rfl rfl rfl ?_
      obtain ⟨k23, hf⟩ := mm_ck_some hf
      obtain ⟨_, g24, e25, hf⟩ := mm_cl_some hf
      refine me_callV (q := 71) (c2 := 0) (s2 := 0) (st := []) C (cX5_putToken_ok _ e25) mt_X5_97 mv_X5_putToken rfl (by decide) dX5_cutNumber_68 rfl k23 rfl rfl rfl (Nat.le_of_ble_eq_true rfl) rfl (Nat.le_of_ble_eq_true rfl) rfl (Nat.le_of_ble_eq_true rfl) rfl rfl ?_
      refine me_iload_n (q := 72) C dX5_cutNumber_71 rfl rfl rfl ?_
      exact me_iret C hE (Nat.le_of_ble_eq_true rfl) (Nat.le_of_ble_eq_true rfl) rfl dX5_cutNumber_72 (mm_ri hf)
    · have hf := mm_if_f c22 hf
      refine me_iconst (v := (-1 : Int32)) (q := 64) C dX5_cutNumber_63 (by decide) rfl ?_
      refine me_goto (q := 68) C dX5_cutNumber_64 (by decide) ?_
      obtain ⟨k26, hf⟩ := mm_ck_some hf
      obtain ⟨_, g27, e28, hf⟩ := mm_cl_some hf
      refine me_callV (q := 71) (c2 := 0) (s2 := 0) (st := []) C (cX5_putToken_ok _ e28) mt_X5_97 mv_X5_putToken rfl (by decide) dX5_cutNumber_68 rfl k26 rfl rfl rfl (Nat.le_of_ble_eq_true rfl) rfl (Nat.le_of_ble_eq_true rfl) rfl (Nat.le_of_ble_eq_true rfl) rfl rfl ?_
      refine me_iload_n (q := 72) C dX5_cutNumber_71 rfl rfl rfl ?_
      exact me_iret C hE (Nat.le_of_ble_eq_true rfl) (Nat.le_of_ble_eq_true rfl) rfl dX5_cutNumber_72 (mm_ri hf)
set_option maxRecDepth 100000 in
set_option maxHeartbeats 4000000 in
theorem cX5_isLetter_ok (l : Launch) {a0 : Int32} {h : mm_H} {r : Int32} {h1 : mm_H} (hf : fX5_isLetter a0 h = some (r, h1)) : mm_M l yX5_isLetter cX5_isLetter 1 (some .boolean) 2 0 0 [vI a0] h (some (vI r)) h1 := by
  refine mm_enter (lv := [some (vI a0)]) (by decide) rfl (Nat.le_of_ble_eq_true rfl) ?_
  intro X hl C hE
  subst hl
  unfold fX5_isLetter at hf
  refine me_iload_n (q := 1) C dX5_isLetter_0 rfl rfl rfl ?_
  refine me_bipush (v := (97 : Int32)) (q := 3) C dX5_isLetter_1 (by decide) rfl ?_
  refine me_icmp_lt (q2 := 16) (q := 6) C dX5_isLetter_3 (by decide) rfl (fun c1 => ?_) (fun c1 => ?_)
  · have hf := mm_if_t c1 hf
    refine me_iconst (v := (0 : Int32)) (q := 17) C dX5_isLetter_16 (by decide) rfl ?_
    exact me_zret C hE (Nat.le_of_ble_eq_true rfl) (Nat.le_of_ble_eq_true rfl) rfl (Or.inl rfl) dX5_isLetter_17 (mm_ri hf)
  · have hf := mm_if_f c1 hf
    refine me_iload_n (q := 7) C dX5_isLetter_6 rfl rfl rfl ?_
    refine me_bipush (v := (122 : Int32)) (q := 9) C dX5_isLetter_7 (by decide) rfl ?_
    refine me_icmp_gt (q2 := 16) (q := 12) C dX5_isLetter_9 (by decide) rfl (fun c2 => ?_) (fun c2 => ?_)
    · have hf := mm_if_t c2 hf
      refine me_iconst (v := (0 : Int32)) (q := 17) C dX5_isLetter_16 (by decide) rfl ?_
      exact me_zret C hE (Nat.le_of_ble_eq_true rfl) (Nat.le_of_ble_eq_true rfl) rfl (Or.inl rfl) dX5_isLetter_17 (mm_ri hf)
    · have hf := mm_if_f c2 hf
      refine me_iconst (v := (1 : Int32)) (q := 13) C dX5_isLetter_12 (by decide) rfl ?_
      refine me_goto (q := 17) C dX5_isLetter_13 (by decide) ?_
      exact me_zret C hE (Nat.le_of_ble_eq_true rfl) (Nat.le_of_ble_eq_true rfl) rfl (Or.inr rfl) dX5_isLetter_17 (mm_ri hf)
set_option maxRecDepth 100000 in
set_option maxHeartbeats 4000000 in
theorem cJ0_isLatin1_aae02_ok (l : Launch) {a0 : Nat} {h : mm_H} {r : Int32} {h1 : mm_H} (hf : fJ0_isLatin1_aae02 a0 h = some (r, h1)) : mm_M l yJ0_isLatin1_aae02 cJ0_isLatin1_aae02 1 (some .boolean) 2 0 0 [vR (some a0)] h (some (vI r)) h1 := by
  refine mm_enter (lv := [some (vR (some a0))]) (by decide) rfl (Nat.le_of_ble_eq_true rfl) ?_
  intro X hl C hE
  subst hl
  unfold fJ0_isLatin1_aae02 at hf
  refine me_gsI (q := 3) C dJ0_isLatin1_aae02_0 mx_fie_RJ0_38 rfl ?_
  refine me_if_eq (q2 := 17) (q := 6) C dJ0_isLatin1_aae02_3 (by decide) rfl (fun c1 => ?_) (fun c1 => ?_)
  · have hf := mm_if_t c1 hf
    refine me_iconst (v := (0 : Int32)) (q := 18) C dJ0_isLatin1_aae02_17 (by decide) rfl ?_
    exact me_zret C hE (Nat.le_of_ble_eq_true rfl) (Nat.le_of_ble_eq_true rfl) rfl (Or.inl rfl) dJ0_isLatin1_aae02_18 (mm_ri hf)
  · have hf := mm_if_f c1 hf
    refine me_aload_n (q := 7) C dJ0_isLatin1_aae02_6 rfl rfl rfl ?_
    obtain ⟨k2, hf⟩ := mm_ck_some hf
    refine me_strC (q := 10) C dJ0_isLatin1_aae02_7 mx_fie_RJ0_15 rfl k2 rfl ?_
    refine me_if_ne (q2 := 17) (q := 13) C dJ0_isLatin1_aae02_10 (by decide) rfl (fun c3 => ?_) (fun c3 => ?_)
    · have hf := mm_if_t c3 hf
      refine me_iconst (v := (0 : Int32)) (q := 18) C dJ0_isLatin1_aae02_17 (by decide) rfl ?_
      exact me_zret C hE (Nat.le_of_ble_eq_true rfl) (Nat.le_of_ble_eq_true rfl) rfl (Or.inl rfl) dJ0_isLatin1_aae02_18 (mm_ri hf)
    · have hf := mm_if_f c3 hf
      refine me_iconst (v := (1 : Int32)) (q := 14) C dJ0_isLatin1_aae02_13 (by decide) rfl ?_
      refine me_goto (q := 18) C dJ0_isLatin1_aae02_14 (by decide) ?_
      exact me_zret C hE (Nat.le_of_ble_eq_true rfl) (Nat.le_of_ble_eq_true rfl) rfl (Or.inr rfl) dJ0_isLatin1_aae02_18 (mm_ri hf)
set_option maxRecDepth 100000 in
set_option maxHeartbeats 4000000 in
theorem cJ0_checkIndex_df160_ok (l : Launch) {a0 : Int32} {a1 : Int32} {h : mm_H} {r : Unit} {h1 : mm_H} (hf : fJ0_checkIndex_df160 a0 a1 h = some (r, h1)) : mm_M l yJ0_checkIndex_df160 cJ0_checkIndex_df160 2 none 4 0 0 [vI a0, vI a1] h none h1 := by
  refine mm_enter (lv := [some (vI a0), some (vI a1)]) (by decide) rfl (Nat.le_of_ble_eq_true rfl) ?_
  intro X hl C hE
  subst hl
  unfold fJ0_checkIndex_df160 at hf
  refine me_iload_n (q := 1) C dJ0_checkIndex_df160_0 rfl rfl rfl ?_
  refine me_iload_n (q := 2) C dJ0_checkIndex_df160_1 rfl rfl rfl ?_
  refine me_gsQ (q := 5) C dJ0_checkIndex_df160_2 mx_fie_RJ0_1053 rfl ?_
  intro o9
  obtain ⟨v1, g2, e3, hf⟩ := mm_cl_some hf
  refine me_callS (q := 8) (c2 := 0) (s2 := 0) (st := []) C (cJ3_checkIndex_8e157_ok _ (a2 := o9) e3) mt_J0_1059 ms_J3_checkIndex_8e157 dJ0_checkIndex_df160_5 rfl rfl rfl (Nat.le_of_ble_eq_true rfl) rfl (Nat.le_of_ble_eq_true rfl) rfl (Nat.le_of_ble_eq_true rfl) rfl rfl ?_
  refine me_pop (q := 9) C dJ0_checkIndex_df160_8 rfl rfl ?_
  exact me_vret C hE (Nat.le_of_ble_eq_true rfl) (Nat.le_of_ble_eq_true rfl) rfl dJ0_checkIndex_df160_9 (mm_ru hf)
set_option maxRecDepth 100000 in
set_option maxHeartbeats 4000000 in
theorem cJ1_charAt_3b067_ok (l : Launch) {a0 : Nat} {a1 : Int32} {h : mm_H} {r : Int32} {h1 : mm_H} (hf : fJ1_charAt_3b067 a0 a1 h = some (r, h1)) : mm_M l yJ1_charAt_3b067 cJ1_charAt_3b067 2 (some .char) 6 0 0 [vR (some a0), vI a1] h (some (vI r)) h1 := by
  refine mm_enter (lv := [some (vR (some a0)), some (vI a1)]) (by decide) rfl (Nat.le_of_ble_eq_true rfl) ?_
  intro X hl C hE
  subst hl
  unfold fJ1_charAt_3b067 at hf
  refine me_iload_n (q := 1) C dJ1_charAt_3b067_0 rfl rfl rfl ?_
  refine me_aload_n (q := 2) C dJ1_charAt_3b067_1 rfl rfl rfl ?_
  obtain ⟨w1, ew1, hf⟩ := mm_rf_some hf
  refine me_salen (q := 3) C dJ1_charAt_3b067_2 rfl ew1 rfl ?_
  obtain ⟨_, g2, e3, hf⟩ := mm_cl_some hf
  refine me_callS (q := 6) (c2 := 0) (s2 := 0) (st := []) C (cJ0_checkIndex_df160_ok _ e3) mt_J1_9 ms_J0_checkIndex_df160 dJ1_charAt_3b067_3 rfl rfl rfl (Nat.le_of_ble_eq_true rfl) rfl (Nat.le_of_ble_eq_true rfl) rfl (Nat.le_of_ble_eq_true rfl) rfl rfl ?_
  refine me_aload_n (q := 7) C dJ1_charAt_3b067_6 rfl rfl rfl ?_
  refine me_iload_n (q := 8) C dJ1_charAt_3b067_7 rfl rfl rfl ?_
  obtain ⟨w4, ew4, hf⟩ := mm_rf_some hf
  obtain ⟨k5, hf⟩ := mm_ck_some hf
  refine me_sbald (q := 9) C dJ1_charAt_3b067_8 rfl ew4 k5 rfl ?_
  refine me_sipush (v := (255 : Int32)) (q := 12) C dJ1_charAt_3b067_9 (by decide) rfl ?_
  refine me_iand (q := 13) C dJ1_charAt_3b067_12 rfl ?_
  refine me_i2c (q := 14) C dJ1_charAt_3b067_13 rfl ?_
  obtain ⟨k6, hf⟩ := mm_ck_some hf
  exact me_nret C hE (Nat.le_of_ble_eq_true rfl) (Nat.le_of_ble_eq_true rfl) rfl (congrArg Value.int k6) dJ1_charAt_3b067_14 (mm_ri hf)
set_option maxRecDepth 100000 in
set_option maxHeartbeats 4000000 in
theorem cJ0_charAt_5068e_ok (l : Launch) {a0 : Nat} {a1 : Int32} {h : mm_H} {r : Int32} {h1 : mm_H} (hf : fJ0_charAt_5068e a0 a1 h = some (r, h1)) : mm_M l yJ0_charAt_5068e cJ0_charAt_5068e 2 (some .char) 8 0 0 [vR (some a0), vI a1] h (some (vI r)) h1 := by
  refine mm_enter (lv := [some (vR (some a0)), some (vI a1)]) (by decide) rfl (Nat.le_of_ble_eq_true rfl) ?_
  intro X hl C hE
  subst hl
  unfold fJ0_charAt_5068e at hf
  refine me_aload_n (q := 1) C dJ0_charAt_5068e_0 rfl rfl rfl ?_
  obtain ⟨k1, hf⟩ := mm_ck_some hf
  obtain ⟨v2, g3, e4, hf⟩ := mm_cl_some hf
  refine me_callT (q := 4) (c2 := 0) (s2 := 0) (st := []) C (cJ0_isLatin1_aae02_ok _ e4) mt_J0_492 mv_J0_isLatin1_aae02 dJ0_charAt_5068e_1 rfl k1 rfl rfl rfl (Nat.le_of_ble_eq_true rfl) rfl (Nat.le_of_ble_eq_true rfl) rfl (Nat.le_of_ble_eq_true rfl) rfl rfl ?_
  refine me_if_eq (q2 := 16) (q := 7) C dJ0_charAt_5068e_4 (by decide) rfl (fun c5 => ?_) (fun c5 => ?_)
  · have hf := mm_if_t c5 hf
    refine me_aload_n (q := 17) C dJ0_charAt_5068e_16 rfl rfl rfl ?_
    obtain ⟨k6, hf⟩ := mm_ck_some hf
    obtain ⟨u7, eu7, hf⟩ := mm_lt_some hf
    refine me_strV (q := 20) C dJ0_charAt_5068e_17 mx_fie_RJ0_9 rfl k6 rfl ?_
    refine me_topR (congrArg some eu7) ?_
    refine me_iload_n (q := 21) C dJ0_charAt_5068e_20 rfl rfl rfl ?_
    exact absurd hf (by simp)
  · have hf := mm_if_f c5 hf
    refine me_aload_n (q := 8) C dJ0_charAt_5068e_7 rfl rfl rfl ?_
    obtain ⟨k8, hf⟩ := mm_ck_some hf
    obtain ⟨u9, eu9, hf⟩ := mm_lt_some hf
    refine me_strV (q := 11) C dJ0_charAt_5068e_8 mx_fie_RJ0_9 rfl k8 rfl ?_
    refine me_topR (congrArg some eu9) ?_
    refine me_iload_n (q := 12) C dJ0_charAt_5068e_11 rfl rfl rfl ?_
    obtain ⟨v10, g11, e12, hf⟩ := mm_cl_some hf
    refine me_callS (q := 15) (c2 := 0) (s2 := 0) (st := []) C (cJ1_charAt_3b067_ok _ e12) mt_J0_495 ms_J1_charAt_3b067 dJ0_charAt_5068e_12 rfl rfl rfl (Nat.le_of_ble_eq_true rfl) rfl (Nat.le_of_ble_eq_true rfl) rfl (Nat.le_of_ble_eq_true rfl) rfl rfl ?_
    obtain ⟨k13, hf⟩ := mm_ck_some hf
    exact me_nret C hE (Nat.le_of_ble_eq_true rfl) (Nat.le_of_ble_eq_true rfl) rfl (congrArg Value.int k13) dJ0_charAt_5068e_15 (mm_ri hf)
set_option maxRecDepth 100000 in
set_option maxHeartbeats 4000000 in
theorem cX5_isWord_L3 {X : mm_X} (C : mm_C X cX5_isWord yX5_isWord 10 0 0) {r : Int32} {h1 : mm_H} (hE : mm_End X 0 0 (some .boolean) (some (vI r)) h1) {b0 : Nat} {b1 : Int32} {b2 : Int32} {b3 : Int32} (K59 : mm_H → Option (Int32 × mm_H)) : ∀ (n : Nat) (x4 : Int32) (h : mm_H), fX5_isWord_L3 b0 b1 b2 b3 K59 n x4 h = some (r, h1) → (∀ (h : mm_H), K59 h = some (r, h1) → mm_E X h 0 0 59 [none, none, none, none, none, none] []) → mm_E X h 0 0 3 [some (vR (some b0)), some (vI b1), some (vI b2), some (vI b3), some (vI x4), none] [] := by
  intro n
  induction n with
  | zero =>
    intro x4 h hf
    exact absurd (show (none : Option (Int32 × mm_H)) = some (r, h1) from hf) (by simp)
  | succ n ih =>
    intro x4 h hf hk59
    have hf : fX5_isWord_L3_b b0 b1 b2 b3 K59 (fX5_isWord_L3 b0 b1 b2 b3 K59 n) x4 h = some (r, h1) := hf
    unfold fX5_isWord_L3_b at hf
    refine me_iload (q := 5) C dX5_isWord_3 rfl rfl ?_
    refine me_bipush (v := (6 : Int32)) (q := 7) C dX5_isWord_5 (by decide) rfl ?_
    refine me_icmp_ge (q2 := 59) (q := 10) C dX5_isWord_7 (by decide) rfl (fun c1 => ?_) (fun c1 => ?_)
    · have hf := mm_if_t c1 hf
      refine me_mask [false, false, false, false, false, false] (lv2 := [none, none, none, none, none, none]) rfl ?_
      exact hk59 _ hf
    · have hf := mm_if_f c1 hf
      refine me_iload_n (q := 11) C dX5_isWord_10 rfl rfl rfl ?_
      refine me_iload (q := 13) C dX5_isWord_11 rfl rfl ?_
      refine me_iadd (q := 14) C dX5_isWord_13 rfl ?_
      refine me_iload_n (q := 15) C dX5_isWord_14 rfl rfl rfl ?_
      obtain ⟨q3, eq3, hf⟩ := mm_jn_some hf
      have Hq3 : ∀ (v2 : Int32), q3 v2 = some (r, h1) → mm_E X h 0 0 32 [some (vR (some b0)), some (vI b1), some (vI b2), some (vI b3), some (vI x4), none] [vI v2] := by
        intro v2 hf
        subst eq3
        refine me_istore (q := 34) (lv2 := [some (vR (some b0)), some (vI b1), some (vI b2), some (vI b3), some (vI x4), some (vI v2)]) C dX5_isWord_32 (Nat.le_of_ble_eq_true rfl) rfl rfl rfl ?_
        refine me_ldcS (i := 0) (q := 36) C dX5_isWord_34 rfl rfl ?_
        refine me_iload_n (q := 37) C dX5_isWord_36 rfl rfl rfl ?_
        refine me_bipush (v := (6 : Int32)) (q := 39) C dX5_isWord_37 (by decide) rfl ?_
        refine me_imul (q := 40) C dX5_isWord_39 rfl ?_
        refine me_iload (q := 42) C dX5_isWord_40 rfl rfl ?_
        refine me_iadd (q := 43) C dX5_isWord_42 rfl ?_
        obtain ⟨k4, hf⟩ := mm_ck_some hf
        obtain ⟨v5, g6, e7, hf⟩ := mm_cl_some hf
        refine me_callT (q := 46) (c2 := 0) (s2 := 0) (st := []) C (cJ0_charAt_5068e_ok _ e7) mt_X5_115 mv_J0_charAt_5068e dX5_isWord_43 rfl k4 rfl rfl rfl (Nat.le_of_ble_eq_true rfl) rfl (Nat.le_of_ble_eq_true rfl) rfl (Nat.le_of_ble_eq_true rfl) rfl rfl ?_
        refine me_iload (q := 48) C dX5_isWord_46 rfl rfl ?_
        refine me_icmp_eq (q2 := 53) (q := 51) C dX5_isWord_48 (by decide) rfl (fun c8 => ?_) (fun c8 => ?_)
        · have hf := mm_if_t c8 hf
          obtain ⟨v9, ev9, hf⟩ := mm_lt_some hf
          refine me_iinc (q := 56) (v := v9) (lv2 := [some (vR (some b0)), some (vI b1), some (vI b2), some (vI b3), some (vI v9), some (vI v2)]) C dX5_isWord_53 rfl (by rw [ev9]; rfl) (Nat.le_of_ble_eq_true rfl) rfl rfl rfl ?_
          refine me_goto (q := 3) C dX5_isWord_56 (by decide) ?_
          refine me_mask [true, true, true, true, true, false] (lv2 := [some (vR (some b0)), some (vI b1), some (vI b2), some (vI b3), some (vI v9), none]) rfl ?_
          exact ih _ _ hf hk59
        · have hf := mm_if_f c8 hf
          refine me_iconst (v := (0 : Int32)) (q := 52) C dX5_isWord_51 (by decide) rfl ?_
          exact me_zret C hE (Nat.le_of_ble_eq_true rfl) (Nat.le_of_ble_eq_true rfl) rfl (Or.inl rfl) dX5_isWord_52 (mm_ri hf)
      refine me_icmp_ge (q2 := 30) (q := 18) C dX5_isWord_15 (by decide) rfl (fun c10 => ?_) (fun c10 => ?_)
      · have hf := mm_if_t c10 hf
        refine me_bipush (v := (32 : Int32)) (q := 32) C dX5_isWord_30 (by decide) rfl ?_
        exact Hq3 _ hf
      · have hf := mm_if_f c10 hf
        refine me_aload_n (q := 19) C dX5_isWord_18 rfl rfl rfl ?_
        obtain ⟨k11, hf⟩ := mm_ck_some hf
        refine me_getR (q := 22) C dX5_isWord_19 mf_X5_11 rfl rfl k11 rfl ?_
        refine me_iload_n (q := 23) C dX5_isWord_22 rfl rfl rfl ?_
        refine me_iload (q := 25) C dX5_isWord_23 rfl rfl ?_
        refine me_iadd (q := 26) C dX5_isWord_25 rfl ?_
        obtain ⟨u12, eu12, hf⟩ := mm_rf_some hf
        obtain ⟨k13, hf⟩ := mm_ck_some hf
        obtain ⟨k14, hf⟩ := mm_ck_some hf
        refine me_bald (q := 27) C dX5_isWord_26 eu12 k13 k14 rfl ?_
        refine me_goto (q := 32) C dX5_isWord_27 (by decide) ?_
        exact Hq3 _ hf
set_option maxRecDepth 100000 in
set_option maxHeartbeats 4000000 in
theorem cX5_isWord_ok (l : Launch) {a0 : Nat} {a1 : Int32} {a2 : Int32} {a3 : Int32} {h : mm_H} {r : Int32} {h1 : mm_H} (hf : fX5_isWord a0 a1 a2 a3 h = some (r, h1)) : mm_M l yX5_isWord cX5_isWord 6 (some .boolean) 10 0 0 [vR (some a0), vI a1, vI a2, vI a3] h (some (vI r)) h1 := by
  refine mm_enter (lv := [some (vR (some a0)), some (vI a1), some (vI a2), some (vI a3), none, none]) (by decide) rfl (Nat.le_of_ble_eq_true rfl) ?_
  intro X hl C hE
  subst hl
  unfold fX5_isWord at hf
  refine me_iconst (v := (0 : Int32)) (q := 1) C dX5_isWord_0 (by decide) rfl ?_
  refine me_istore (q := 3) (lv2 := [some (vR (some a0)), some (vI a1), some (vI a2), some (vI a3), some (vI (0 : Int32)), none]) C dX5_isWord_1 (Nat.le_of_ble_eq_true rfl) rfl rfl rfl ?_
  refine cX5_isWord_L3 C hE _ _ _ _ hf ?_
  · intro g15 hf
    refine me_iconst (v := (1 : Int32)) (q := 60) C dX5_isWord_59 (by decide) rfl ?_
    exact me_zret C hE (Nat.le_of_ble_eq_true rfl) (Nat.le_of_ble_eq_true rfl) rfl (Or.inr rfl) dX5_isWord_60 (mm_ri hf)
