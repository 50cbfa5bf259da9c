set_option maxRecDepth 100000 in
set_option maxHeartbeats 4000000 in
theorem cX11_manThere_ok (l : Launch) {a0 : Nat} {a1 : Int32} {h : mm_H} {r : Option Nat} {h1 : mm_H} (hf : fX11_manThere a0 a1 h = some (r, h1)) : mm_M l yX11_manThere cX11_manThere 2 (some (.object "MerchantYard$Man")) 8 0 0 [vR (some a0), vI a1] h (some (vR r)) h1 := by
  refine mm_enter (lv := [some (vR (some a0)), some (vI a1)]) (by decide) rfl (Nat.le_of_ble_eq_true rfl) ?_
  intro X hl C hE
  subst hl
  unfold fX11_manThere at hf
  refine me_iload_n (q := 1) C dX11_manThere_0 rfl rfl rfl ?_
  refine me_if_lt (q2 := 33) (q := 4) C dX11_manThere_1 (by decide) rfl (fun c1 => ?_) (fun c1 => ?_)
  · have hf := mm_if_t c1 hf
    refine me_null (q := 34) C dX11_manThere_33 rfl ?_
    exact me_aret C hE (Nat.le_of_ble_eq_true rfl) (Nat.le_of_ble_eq_true rfl) rfl (Or.inl ⟨_, rfl⟩) dX11_manThere_34 (mm_rr hf)
  · have hf := mm_if_f c1 hf
    refine me_iload_n (q := 5) C dX11_manThere_4 rfl rfl rfl ?_
    refine me_aload_n (q := 6) C dX11_manThere_5 rfl rfl rfl ?_
    obtain ⟨k2, hf⟩ := mm_ck_some hf
    refine me_getR (q := 9) C dX11_manThere_6 mf_X11_10 rfl rfl k2 rfl ?_
    obtain ⟨u3, eu3, hf⟩ := mm_rf_some hf
    obtain ⟨k4, hf⟩ := mm_ck_some hf
    obtain ⟨v5, g6, e7, hf⟩ := mm_cl_some hf
    refine me_callV (q := 12) (c2 := 0) (s2 := 0) (st := [vI a1]) C (cJx4a65c_size_8abf5_ok _ e7) mt_X11_89 mv_Jx4a65c_size_8abf5 rfl (by decide) dX11_manThere_9 eu3 k4 rfl rfl rfl (Nat.le_of_ble_eq_true rfl) rfl (Nat.le_of_ble_eq_true rfl) rfl (Nat.le_of_ble_eq_true rfl) rfl rfl ?_
    refine me_icmp_ge (q2 := 33) (q := 15) C dX11_manThere_12 (by decide) rfl (fun c8 => ?_) (fun c8 => ?_)
    · have hf := mm_if_t c8 hf
      refine me_null (q := 34) C dX11_manThere_33 rfl ?_
      exact me_aret C hE (Nat.le_of_ble_eq_true rfl) (Nat.le_of_ble_eq_true rfl) rfl (Or.inl ⟨_, rfl⟩) dX11_manThere_34 (mm_rr hf)
    · have hf := mm_if_f c8 hf
      refine me_aload_n (q := 16) C dX11_manThere_15 rfl rfl rfl ?_
      obtain ⟨k9, hf⟩ := mm_ck_some hf
      refine me_getR (q := 19) C dX11_manThere_16 mf_X11_10 rfl rfl k9 rfl ?_
      refine me_iload_n (q := 20) C dX11_manThere_19 rfl rfl rfl ?_
      obtain ⟨u10, eu10, hf⟩ := mm_rf_some hf
      obtain ⟨k11, hf⟩ := mm_ck_some hf
      obtain ⟨v12, g13, e14, hf⟩ := mm_cl_some hf
      refine me_callV (q := 23) (c2 := 0) (s2 := 0) (st := []) C (cJx4a65c_get_915e3_ok _ e14) mt_X11_151 mv_Jx4a65c_get_915e3 rfl (by decide) dX11_manThere_20 eu10 k11 rfl rfl rfl (Nat.le_of_ble_eq_true rfl) rfl (Nat.le_of_ble_eq_true rfl) rfl (Nat.le_of_ble_eq_true rfl) rfl rfl ?_
      obtain ⟨u15, eu15, hf⟩ := mm_rf_some hf
      obtain ⟨k16, hf⟩ := mm_ck_some hf
      refine me_cast (q := 26) C dX11_manThere_23 mk_X11_98 eu15 k16 rfl ?_
      refine me_getI (q := 29) C dX11_manThere_26 mf_X11_111 rfl eu15 k16 rfl ?_
      refine me_iconst (v := (-1 : Int32)) (q := 30) C dX11_manThere_29 (by decide) rfl ?_
      refine me_icmp_eq (q2 := 35) (q := 33) C dX11_manThere_30 (by decide) rfl (fun c17 => ?_) (fun c17 => ?_)
      · have hf := mm_if_t c17 hf
        refine me_aload_n (q := 36) C dX11_manThere_35 rfl rfl rfl ?_
        obtain ⟨k18, hf⟩ := mm_ck_some hf
        refine me_getR (q := 39) C dX11_manThere_36 mf_X11_10 rfl rfl k18 rfl ?_
        refine me_iload_n (q := 40) C dX11_manThere_39 rfl rfl rfl ?_
        obtain ⟨u19, eu19, hf⟩ := mm_rf_some hf
        obtain ⟨k20, hf⟩ := mm_ck_some hf
        obtain ⟨v21, g22, e23, hf⟩ := mm_cl_some hf
        refine me_callV (q := 43) (c2 := 0) (s2 := 0) (st := []) C (cJx4a65c_get_915e3_ok _ e23) mt_X11_151 mv_Jx4a65c_get_915e3 rfl (by decide) dX11_manThere_40 eu19 k20 rfl rfl rfl (Nat.le_of_ble_eq_true rfl) rfl (Nat.le_of_ble_eq_true rfl) rfl (Nat.le_of_ble_eq_true rfl) rfl rfl ?_
        obtain ⟨u24, eu24, hf⟩ := mm_rf_some hf
        obtain ⟨k25, hf⟩ := mm_ck_some hf
        refine me_cast (q := 46) C dX11_manThere_43 mk_X11_98 eu24 k25 rfl ?_
        exact me_aret C hE (Nat.le_of_ble_eq_true rfl) (Nat.le_of_ble_eq_true rfl) rfl (Or.inl ⟨_, rfl⟩) dX11_manThere_46 (mm_rr hf)
      · have hf := mm_if_f c17 hf
        refine me_null (q := 34) C dX11_manThere_33 rfl ?_
        exact me_aret C hE (Nat.le_of_ble_eq_true rfl) (Nat.le_of_ble_eq_true rfl) rfl (Or.inl ⟨_, rfl⟩) dX11_manThere_34 (mm_rr hf)
set_option maxRecDepth 100000 in
set_option maxHeartbeats 4000000 in
theorem cX11_leave_ok (l : Launch) {a0 : Nat} {a1 : Int32} {h : mm_H} {r : Int32} {h1 : mm_H} (hf : fX11_leave a0 a1 h = some (r, h1)) : mm_M l yX11_leave cX11_leave 3 (some .boolean) 10 0 0 [vR (some a0), vI a1] h (some (vI r)) h1 := by
  refine mm_enter (lv := [some (vR (some a0)), some (vI a1), none]) (by decide) rfl (Nat.le_of_ble_eq_true rfl) ?_
  intro X hl C hE
  subst hl
  unfold fX11_leave at hf
  refine me_aload_n (q := 1) C dX11_leave_0 rfl rfl rfl ?_
  refine me_iload_n (q := 2) C dX11_leave_1 rfl rfl rfl ?_
  obtain ⟨k1, hf⟩ := mm_ck_some hf
  obtain ⟨v2, g3, e4, hf⟩ := mm_cl_some hf
  refine me_callV (q := 5) (c2 := 0) (s2 := 0) (st := []) C (cX11_manThere_ok _ e4) mt_X11_107 mv_X11_manThere rfl (by decide) dX11_leave_2 rfl k1 rfl rfl rfl (Nat.le_of_ble_eq_true rfl) rfl (Nat.le_of_ble_eq_true rfl) rfl (Nat.le_of_ble_eq_true rfl) rfl rfl ?_
  refine me_astore_n (q := 6) (lv2 := [some (vR (some a0)), some (vI a1), some (vR v2)]) C dX11_leave_5 rfl (Nat.le_of_ble_eq_true rfl) rfl rfl rfl ?_
  refine me_aload_n (q := 7) C dX11_leave_6 rfl rfl rfl ?_
  refine me_ifnonnull (q2 := 12) (q := 10) C dX11_leave_7 (by decide) rfl (fun c5 => ?_) (fun c5 => ?_)
  · have hf := mm_if_t c5 hf
    refine me_aload_n (q := 13) C dX11_leave_12 rfl rfl rfl ?_
    refine me_aload_n (q := 14) C dX11_leave_13 rfl rfl rfl ?_
    obtain ⟨k6, hf⟩ := mm_ck_some hf
    refine me_getI (q := 17) C dX11_leave_14 mf_X11_75 rfl rfl k6 rfl ?_
    obtain ⟨u7, eu7, hf⟩ := mm_rf_some hf
    obtain ⟨k8, hf⟩ := mm_ck_some hf
    obtain ⟨g9, eg9, hf⟩ := mm_lt_some hf
    refine me_putI (q := 20) C eg9 dX11_leave_17 mf_X11_111 mp_X11_8_4 rfl (by decide) eu7 k8 rfl ?_
    refine me_iconst (v := (1 : Int32)) (q := 21) C dX11_leave_20 (by decide) rfl ?_
    exact me_zret C hE (Nat.le_of_ble_eq_true rfl) (Nat.le_of_ble_eq_true rfl) rfl (Or.inr rfl) dX11_leave_21 (mm_ri hf)
  · have hf := mm_if_f c5 hf
    refine me_iconst (v := (0 : Int32)) (q := 11) C dX11_leave_10 (by decide) rfl ?_
    exact me_zret C hE (Nat.le_of_ble_eq_true rfl) (Nat.le_of_ble_eq_true rfl) rfl (Or.inl rfl) dX11_leave_11 (mm_ri hf)
set_option maxRecDepth 100000 in
set_option maxHeartbeats 4000000 in
theorem cX11_nextDebt_L33 {X : mm_X} (C : mm_C X cX11_nextDebt yX11_nextDebt 8 0 0) {r : Int32} {h1 : mm_H} (hE : mm_End X 0 0 (some .int) (some (vI r)) h1) {b0 : Nat} {b1 : Int32} {b2 : Int32} {b3 : Int32} (K146 : Int32 → mm_H → Option (Int32 × mm_H)) : ∀ (n : Nat) (x4 : Int32) (x5 : Int32) (x6 : Int32) (h : mm_H), fX11_nextDebt_L33 b0 b1 b2 b3 K146 n x4 x5 x6 h = some (r, h1) → (∀ (y4 : Int32) (h : mm_H), K146 y4 h = some (r, h1) → mm_E X h 0 0 146 [none, none, none, none, some (vI y4), none, none, none, none] []) → mm_E X h 0 0 33 [some (vR (some b0)), some (vI b1), some (vI b2), some (vI b3), some (vI x4), some (vI x5), some (vI x6), none, none] [] := by
  intro n
  induction n with
  | zero =>
    intro x4 x5 x6 h hf
    exact absurd (show (none : Option (Int32 × mm_H)) = some (r, h1) from hf) (by simp)
  | succ n ih =>
    intro x4 x5 x6 h hf hk146
    have hf : fX11_nextDebt_L33_b b0 b1 b2 b3 K146 (fX11_nextDebt_L33 b0 b1 b2 b3 K146 n) x4 x5 x6 h = some (r, h1) := hf
    unfold fX11_nextDebt_L33_b at hf
    refine me_iload (q := 35) C dX11_nextDebt_33 rfl rfl ?_
    refine me_aload_n (q := 36) C dX11_nextDebt_35 rfl rfl rfl ?_
    obtain ⟨k4, hf⟩ := mm_ck_some hf
    refine me_getR (q := 39) C dX11_nextDebt_36 mf_X11_19 rfl rfl k4 rfl ?_
    obtain ⟨u5, eu5, hf⟩ := mm_rf_some hf
    obtain ⟨k6, hf⟩ := mm_ck_some hf
    obtain ⟨v7, g8, e9, hf⟩ := mm_cl_some hf
    refine me_callV (q := 42) (c2 := 0) (s2 := 0) (st := [vI x6]) C (cJx4a65c_size_8abf5_ok _ e9) mt_X11_89 mv_Jx4a65c_size_8abf5 rfl (by decide) dX11_nextDebt_39 eu5 k6 rfl rfl rfl (Nat.le_of_ble_eq_true rfl) rfl (Nat.le_of_ble_eq_true rfl) rfl (Nat.le_of_ble_eq_true rfl) rfl rfl ?_
    refine me_icmp_ge (q2 := 146) (q := 45) C dX11_nextDebt_42 (by decide) rfl (fun c10 => ?_) (fun c10 => ?_)
    · have hf := mm_if_t c10 hf
      refine me_mask [false, false, false, false, true, false, false, false, false] (lv2 := [none, none, none, none, some (vI x4), none, none, none, none]) rfl ?_
      exact hk146 _ _ hf
    · have hf := mm_if_f c10 hf
      refine me_aload_n (q := 46) C dX11_nextDebt_45 rfl rfl rfl ?_
      obtain ⟨k11, hf⟩ := mm_ck_some hf
      refine me_getR (q := 49) C dX11_nextDebt_46 mf_X11_19 rfl rfl k11 rfl ?_
      refine me_iload (q := 51) C dX11_nextDebt_49 rfl rfl ?_
      obtain ⟨u12, eu12, hf⟩ := mm_rf_some hf
      obtain ⟨k13, hf⟩ := mm_ck_some hf
      obtain ⟨v14, g15, e16, hf⟩ := mm_cl_some hf
      refine me_callV (q := 54) (c2 := 0) (s2 := 0) (st := []) C (cJx4a65c_get_915e3_ok _ e16) mt_X11_151 mv_Jx4a65c_get_915e3 rfl (by decide) dX11_nextDebt_51 eu12 k13 rfl rfl rfl (Nat.le_of_ble_eq_true rfl) rfl (Nat.le_of_ble_eq_true rfl) rfl (Nat.le_of_ble_eq_true rfl) rfl rfl ?_
      obtain ⟨u17, eu17, hf⟩ := mm_rf_some hf
      obtain ⟨k18, hf⟩ := mm_ck_some hf
      refine me_cast (q := 57) C dX11_nextDebt_54 mk_X11_256 eu17 k18 rfl ?_
      refine me_astore (q := 59) (lv2 := [some (vR (some b0)), some (vI b1), some (vI b2), some (vI b3), some (vI x4), some (vI x5), some (vI x6), some (vR v14), none]) C dX11_nextDebt_57 (Nat.le_of_ble_eq_true rfl) rfl rfl rfl ?_
      refine me_aload (q := 61) C dX11_nextDebt_59 rfl rfl ?_
      refine me_getI (q := 64) C dX11_nextDebt_61 mf_X11_291 rfl eu17 k18 rfl ?_
      refine me_iload_n (q := 65) C dX11_nextDebt_64 rfl rfl rfl ?_
      obtain ⟨q20, eq20, hf⟩ := mm_jn_some hf
      have Hq20 : ∀ (v19 : Int32), q20 v19 = some (r, h1) → mm_E X g15 0 0 88 [some (vR (some b0)), some (vI b1), some (vI b2), some (vI b3), some (vI x4), some (vI x5), some (vI x6), some (vR v14), none] [vI v19] := by
        intro v19 hf
        subst eq20
        refine me_istore (q := 90) (lv2 := [some (vR (some b0)), some (vI b1), some (vI b2), some (vI b3), some (vI x4), some (vI x5), some (vI x6), some (vR v14), some (vI v19)]) C dX11_nextDebt_88 (Nat.le_of_ble_eq_true rfl) rfl rfl rfl ?_
        refine me_aload (q := 92) C dX11_nextDebt_90 rfl rfl ?_
        refine me_getI (q := 95) C dX11_nextDebt_92 mf_X11_279 rfl eu17 k18 rfl ?_
        refine me_iload_n (q := 96) C dX11_nextDebt_95 rfl rfl rfl ?_
        obtain ⟨q23, eq23, hf⟩ := mm_jn_some hf
        have Hq23 : ∀ (v21 : Int32) (v22 : Int32), q23 v21 v22 = some (r, h1) → mm_E X g15 0 0 140 [some (vR (some b0)), some (vI b1), some (vI b2), some (vI b3), some (vI v21), some (vI v22), some (vI x6), none, none] [] := by
          intro v21 v22 hf
          subst eq23
          obtain ⟨v24, ev24, hf⟩ := mm_lt_some hf
          refine me_iinc (q := 143) (v := v24) (lv2 := [some (vR (some b0)), some (vI b1), some (vI b2), some (vI b3), some (vI v21), some (vI v22), some (vI v24), none, none]) C dX11_nextDebt_140 rfl (by rw [ev24]; rfl) (Nat.le_of_ble_eq_true rfl) rfl rfl rfl ?_
          refine me_goto (q := 33) C dX11_nextDebt_143 (by decide) ?_
          exact ih _ _ _ _ hf hk146
        refine me_icmp_ne (q2 := 140) (q := 99) C dX11_nextDebt_96 (by decide) rfl (fun c25 => ?_) (fun c25 => ?_)
        · have hf := mm_if_t c25 hf
          refine me_mask [true, true, true, true, true, true, true, false, false] (lv2 := [some (vR (some b0)), some (vI b1), some (vI b2), some (vI b3), some (vI x4), some (vI x5), some (vI x6), none, none]) rfl ?_
          exact Hq23 _ _ hf
        · have hf := mm_if_f c25 hf
          refine me_aload (q := 101) C dX11_nextDebt_99 rfl rfl ?_
          refine me_getI (q := 104) C dX11_nextDebt_101 mf_X11_291 rfl eu17 k18 rfl ?_
          refine me_iconst (v := (-1 : Int32)) (q := 105) C dX11_nextDebt_104 (by decide) rfl ?_
          refine me_icmp_eq (q2 := 140) (q := 108) C dX11_nextDebt_105 (by decide) rfl (fun c26 => ?_) (fun c26 => ?_)
          · have hf := mm_if_t c26 hf
            refine me_mask [true, true, true, true, true, true, true, false, false] (lv2 := [some (vR (some b0)), some (vI b1), some (vI b2), some (vI b3), some (vI x4), some (vI x5), some (vI x6), none, none]) rfl ?_
            exact Hq23 _ _ hf
          · have hf := mm_if_f c26 hf
            refine me_iload (q := 110) C dX11_nextDebt_108 rfl rfl ?_
            refine me_if_eq (q2 := 140) (q := 113) C dX11_nextDebt_110 (by decide) rfl (fun c27 => ?_) (fun c27 => ?_)
            · have hf := mm_if_t c27 hf
              refine me_mask [true, true, true, true, true, true, true, false, false] (lv2 := [some (vR (some b0)), some (vI b1), some (vI b2), some (vI b3), some (vI x4), some (vI x5), some (vI x6), none, none]) rfl ?_
              exact Hq23 _ _ hf
            · have hf := mm_if_f c27 hf
              refine me_iload (q := 115) C dX11_nextDebt_113 rfl rfl ?_
              refine me_iconst (v := (-1 : Int32)) (q := 116) C dX11_nextDebt_115 (by decide) rfl ?_
              obtain ⟨q28, eq28, hf⟩ := mm_jn_some hf
              have Hq28 : ∀ (_u : Unit), q28 _u = some (r, h1) → mm_E X g15 0 0 129 [some (vR (some b0)), some (vI b1), some (vI b2), some (vI b3), none, none, some (vI x6), some (vR v14), none] [] := by
                intro _u hf
                subst eq28
                refine me_iload (q := 131) C dX11_nextDebt_129 rfl rfl ?_
                refine me_istore (q := 133) (lv2 := [some (vR (some b0)), some (vI b1), some (vI b2), some (vI b3), some (vI x6), none, some (vI x6), some (vR v14), none]) C dX11_nextDebt_131 (Nat.le_of_ble_eq_true rfl) rfl rfl rfl ?_
                refine me_aload (q := 135) C dX11_nextDebt_133 rfl rfl ?_
                refine me_getI (q := 138) C dX11_nextDebt_135 mf_X11_291 rfl eu17 k18 rfl ?_
                obtain ⟨v29, ev29, hf⟩ := mm_lt_some hf
                refine me_topI ev29 ?_
                refine me_istore (q := 140) (lv2 := [some (vR (some b0)), some (vI b1), some (vI b2), some (vI b3), some (vI x6), some (vI v29), some (vI x6), some (vR v14), none]) C dX11_nextDebt_138 (Nat.le_of_ble_eq_true rfl) rfl rfl rfl ?_
                refine me_mask [true, true, true, true, true, true, true, false, false] (lv2 := [some (vR (some b0)), some (vI b1), some (vI b2), some (vI b3), some (vI x6), some (vI v29), some (vI x6), none, none]) rfl ?_
                exact Hq23 _ _ hf
              refine me_icmp_eq (q2 := 129) (q := 119) C dX11_nextDebt_116 (by decide) rfl (fun c30 => ?_) (fun c30 => ?_)
              · have hf := mm_if_t c30 hf
                refine me_mask [true, true, true, true, false, false, true, true, false] (lv2 := [some (vR (some b0)), some (vI b1), some (vI b2), some (vI b3), none, none, some (vI x6), some (vR v14), none]) rfl ?_
                exact Hq28 () hf
              · have hf := mm_if_f c30 hf
                refine me_aload (q := 121) C dX11_nextDebt_119 rfl rfl ?_
                refine me_getI (q := 124) C dX11_nextDebt_121 mf_X11_291 rfl eu17 k18 rfl ?_
                refine me_iload (q := 126) C dX11_nextDebt_124 rfl rfl ?_
                refine me_icmp_ge (q2 := 140) (q := 129) C dX11_nextDebt_126 (by decide) rfl (fun c31 => ?_) (fun c31 => ?_)
                · have hf := mm_if_t c31 hf
                  refine me_mask [true, true, true, true, true, true, true, false, false] (lv2 := [some (vR (some b0)), some (vI b1), some (vI b2), some (vI b3), some (vI x4), some (vI x5), some (vI x6), none, none]) rfl ?_
                  exact Hq23 _ _ hf
                · have hf := mm_if_f c31 hf
                  refine me_mask [true, true, true, true, false, false, true, true, false] (lv2 := [some (vR (some b0)), some (vI b1), some (vI b2), some (vI b3), none, none, some (vI x6), some (vR v14), none]) rfl ?_
                  exact Hq28 () hf
      obtain ⟨q32, eq32, hf⟩ := mm_jn_some hf
      have Hq32 : ∀ (_u : Unit), q32 _u = some (r, h1) → mm_E X g15 0 0 83 [some (vR (some b0)), some (vI b1), some (vI b2), some (vI b3), some (vI x4), some (vI x5), some (vI x6), some (vR v14), none] [] := by
        intro _u hf
        subst eq32
        refine me_iconst (v := (1 : Int32)) (q := 84) C dX11_nextDebt_83 (by decide) rfl ?_
        refine me_goto (q := 88) C dX11_nextDebt_84 (by decide) ?_
        exact Hq20 _ hf
      refine me_icmp_gt (q2 := 83) (q := 68) C dX11_nextDebt_65 (by decide) rfl (fun c33 => ?_) (fun c33 => ?_)
      · have hf := mm_if_t c33 hf
        exact Hq32 () hf
      · have hf := mm_if_f c33 hf
        refine me_aload (q := 70) C dX11_nextDebt_68 rfl rfl ?_
        refine me_getI (q := 73) C dX11_nextDebt_70 mf_X11_291 rfl eu17 k18 rfl ?_
        refine me_iload_n (q := 74) C dX11_nextDebt_73 rfl rfl rfl ?_
        obtain ⟨q34, eq34, hf⟩ := mm_jn_some hf
        have Hq34 : ∀ (_u : Unit), q34 _u = some (r, h1) → mm_E X g15 0 0 87 [some (vR (some b0)), some (vI b1), some (vI b2), some (vI b3), some (vI x4), some (vI x5), some (vI x6), some (vR v14), none] [] := by
          intro _u hf
          subst eq34
          refine me_iconst (v := (0 : Int32)) (q := 88) C dX11_nextDebt_87 (by decide) rfl ?_
          exact Hq20 _ hf
        refine me_icmp_ne (q2 := 87) (q := 77) C dX11_nextDebt_74 (by decide) rfl (fun c35 => ?_) (fun c35 => ?_)
        · have hf := mm_if_t c35 hf
          exact Hq34 () hf
        · have hf := mm_if_f c35 hf
          refine me_iload (q := 79) C dX11_nextDebt_77 rfl rfl ?_
          refine me_iload_n (q := 80) C dX11_nextDebt_79 rfl rfl rfl ?_
          refine me_icmp_le (q2 := 87) (q := 83) C dX11_nextDebt_80 (by decide) rfl (fun c36 => ?_) (fun c36 => ?_)
          · have hf := mm_if_t c36 hf
            exact Hq34 () hf
          · have hf := mm_if_f c36 hf
            exact Hq32 () hf
set_option maxRecDepth 100000 in
set_option maxHeartbeats 4000000 in
theorem cX11_nextDebt_ok (l : Launch) {a0 : Nat} {a1 : Int32} {a2 : Int32} {h : mm_H} {r : Int32} {h1 : mm_H} (hf : fX11_nextDebt a0 a1 a2 h = some (r, h1)) : mm_M l yX11_nextDebt cX11_nextDebt 9 (some .int) 8 0 0 [vR (some a0), vI a1, vI a2] h (some (vI r)) h1 := by
  refine mm_enter (lv := [some (vR (some a0)), some (vI a1), some (vI a2), none, none, none, none, none, none]) (by decide) rfl (Nat.le_of_ble_eq_true rfl) ?_
  intro X hl C hE
  subst hl
  unfold fX11_nextDebt at hf
  refine me_iload_n (q := 1) C dX11_nextDebt_0 rfl rfl rfl ?_
  refine me_iconst (v := (-1 : Int32)) (q := 2) C dX11_nextDebt_1 (by decide) rfl ?_
  obtain ⟨q3, eq3, hf⟩ := mm_jn_some hf
  have Hq3 : ∀ (v1 : Int32) (g2 : mm_H), q3 v1 g2 = some (r, h1) → mm_E X g2 0 0 23 [some (vR (some a0)), some (vI a1), some (vI a2), none, none, none, none, none, none] [vI v1] := by
    intro v1 g2 hf
    subst eq3
    refine me_istore_n (q := 24) (lv2 := [some (vR (some a0)), some (vI a1), some (vI a2), some (vI v1), none, none, none, none, none]) C dX11_nextDebt_23 rfl (Nat.le_of_ble_eq_true rfl) rfl rfl rfl ?_
    refine me_iconst (v := (-1 : Int32)) (q := 25) C dX11_nextDebt_24 (by decide) rfl ?_
    refine me_istore (q := 27) (lv2 := [some (vR (some a0)), some (vI a1), some (vI a2), some (vI v1), some (vI (-1 : Int32)), none, none, none, none]) C dX11_nextDebt_25 (Nat.le_of_ble_eq_true rfl) rfl rfl rfl ?_
    refine me_iconst (v := (-1 : Int32)) (q := 28) C dX11_nextDebt_27 (by decide) rfl ?_
    refine me_istore (q := 30) (lv2 := [some (vR (some a0)), some (vI a1), some (vI a2), some (vI v1), some (vI (-1 : Int32)), some (vI (-1 : Int32)), none, none, none]) C dX11_nextDebt_28 (Nat.le_of_ble_eq_true rfl) rfl rfl rfl ?_
    refine me_iconst (v := (0 : Int32)) (q := 31) C dX11_nextDebt_30 (by decide) rfl ?_
    refine me_istore (q := 33) (lv2 := [some (vR (some a0)), some (vI a1), some (vI a2), some (vI v1), some (vI (-1 : Int32)), some (vI (-1 : Int32)), some (vI (0 : Int32)), none, none]) C dX11_nextDebt_31 (Nat.le_of_ble_eq_true rfl) rfl rfl rfl ?_
    refine cX11_nextDebt_L33 C hE _ _ _ _ _ _ hf ?_
    · intro z37 g38 hf
      refine me_iload (q := 148) C dX11_nextDebt_146 rfl rfl ?_
      exact me_iret C hE (Nat.le_of_ble_eq_true rfl) (Nat.le_of_ble_eq_true rfl) rfl dX11_nextDebt_148 (mm_ri hf)
  refine me_icmp_ne (q2 := 9) (q := 5) C dX11_nextDebt_2 (by decide) rfl (fun c39 => ?_) (fun c39 => ?_)
  · have hf := mm_if_t c39 hf
    refine me_aload_n (q := 10) C dX11_nextDebt_9 rfl rfl rfl ?_
    obtain ⟨k40, hf⟩ := mm_ck_some hf
    refine me_getR (q := 13) C dX11_nextDebt_10 mf_X11_19 rfl rfl k40 rfl ?_
    refine me_iload_n (q := 14) C dX11_nextDebt_13 rfl rfl rfl ?_
    obtain ⟨u41, eu41, hf⟩ := mm_rf_some hf
    obtain ⟨k42, hf⟩ := mm_ck_some hf
    obtain ⟨v43, g44, e45, hf⟩ := mm_cl_some hf
    refine me_callV (q := 17) (c2 := 0) (s2 := 0) (st := []) C (cJx4a65c_get_915e3_ok _ e45) mt_X11_151 mv_Jx4a65c_get_915e3 rfl (by decide) dX11_nextDebt_14 eu41 k42 rfl rfl rfl (Nat.le_of_ble_eq_true rfl) rfl (Nat.le_of_ble_eq_true rfl) rfl (Nat.le_of_ble_eq_true rfl) rfl rfl ?_
    obtain ⟨u46, eu46, hf⟩ := mm_rf_some hf
    obtain ⟨k47, hf⟩ := mm_ck_some hf
    refine me_cast (q := 20) C dX11_nextDebt_17 mk_X11_256 eu46 k47 rfl ?_
    refine me_getI (q := 23) C dX11_nextDebt_20 mf_X11_291 rfl eu46 k47 rfl ?_
    exact Hq3 _ _ hf
  · have hf := mm_if_f c39 hf
    refine me_iconst (v := (-1 : Int32)) (q := 6) C dX11_nextDebt_5 (by decide) rfl ?_
    refine me_goto (q := 23) C dX11_nextDebt_6 (by decide) ?_
    exact Hq3 _ _ hf
set_option maxRecDepth 100000 in
set_option maxHeartbeats 4000000 in
theorem cX11_give_ok (l : Launch) {a0 : Nat} {a1 : Int32} {a2 : Int32} {a3 : Int32} {h : mm_H} {r : Unit} {h1 : mm_H} (hf : fX11_give a0 a1 a2 a3 h = some (r, h1)) : mm_M l yX11_give cX11_give 4 none 8 0 0 [vR (some a0), vI a1, vI a2, vI a3] h none h1 := by
  refine mm_enter (lv := [some (vR (some a0)), some (vI a1), some (vI a2), some (vI a3)]) (by decide) rfl (Nat.le_of_ble_eq_true rfl) ?_
  intro X hl C hE
  subst hl
  unfold fX11_give at hf
  refine me_iload_n (q := 1) C dX11_give_0 rfl rfl rfl ?_
  refine me_iconst (v := (-1 : Int32)) (q := 2) C dX11_give_1 (by decide) rfl ?_
  refine me_icmp_ne (q2 := 18) (q := 5) C dX11_give_2 (by decide) rfl (fun c1 => ?_) (fun c1 => ?_)
  · have hf := mm_if_t c1 hf
    refine me_aload_n (q := 19) C dX11_give_18 rfl rfl rfl ?_
    refine me_dup (q := 20) C dX11_give_19 rfl rfl ?_
    obtain ⟨k2, hf⟩ := mm_ck_some hf
    refine me_getJ (q := 23) C dX11_give_20 mf_X11_79 rfl rfl k2 rfl ?_
    refine me_aload_n (q := 24) C dX11_give_23 rfl rfl rfl ?_
    refine me_getR (q := 27) C dX11_give_24 mf_X11_10 rfl rfl k2 rfl ?_
    refine me_iload_n (q := 28) C dX11_give_27 rfl rfl rfl ?_
    obtain ⟨u3, eu3, hf⟩ := mm_rf_some hf
    obtain ⟨k4, hf⟩ := mm_ck_some hf
    obtain ⟨v5, g6, e7, hf⟩ := mm_cl_some hf
    refine me_callV (q := 31) (c2 := 0) (s2 := 0) (st := [vJ (mm_j h a0 12), vR (some a0)]) C (cJx4a65c_get_915e3_ok _ e7) mt_X11_151 mv_Jx4a65c_get_915e3 rfl (by decide) dX11_give_28 eu3 k4 rfl rfl rfl (Nat.le_of_ble_eq_true rfl) rfl (Nat.le_of_ble_eq_true rfl) rfl (Nat.le_of_ble_eq_true rfl) rfl rfl ?_
    obtain ⟨u8, eu8, hf⟩ := mm_rf_some hf
    obtain ⟨k9, hf⟩ := mm_ck_some hf
    refine me_cast (q := 34) C dX11_give_31 mk_X11_98 eu8 k9 rfl ?_
    refine me_iload_n (q := 35) C dX11_give_34 rfl rfl rfl ?_
    obtain ⟨v10, g11, e12, hf⟩ := mm_cl_some hf
    refine me_callV (q := 38) (c2 := 0) (s2 := 0) (st := [vJ (mm_j h a0 12), vR (some a0)]) C (cX7_receive_ok _ e12) mt_X11_493 mv_X7_receive rfl (by decide) dX11_give_35 eu8 k9 rfl rfl rfl (Nat.le_of_ble_eq_true rfl) rfl (Nat.le_of_ble_eq_true rfl) rfl (Nat.le_of_ble_eq_true rfl) rfl rfl ?_
    refine me_i2l (q := 39) C dX11_give_38 rfl ?_
    refine me_ladd (q := 40) C dX11_give_39 rfl ?_
    obtain ⟨k13, hf⟩ := mm_ck_some hf
    obtain ⟨g14, eg14, hf⟩ := mm_lt_some hf
    refine me_putJ (q := 43) C eg14 dX11_give_40 mf_X11_79 mp_X11_12_12 rfl (by decide) rfl k13 rfl ?_
    exact me_vret C hE (Nat.le_of_ble_eq_true rfl) (Nat.le_of_ble_eq_true rfl) rfl dX11_give_43 (mm_ru hf)
  · have hf := mm_if_f c1 hf
    refine me_aload_n (q := 6) C dX11_give_5 rfl rfl rfl ?_
    obtain ⟨k15, hf⟩ := mm_ck_some hf
    refine me_getR (q := 9) C dX11_give_6 mf_X11_22 rfl rfl k15 rfl ?_
    refine me_iload_n (q := 10) C dX11_give_9 rfl rfl rfl ?_
    refine me_dup2_11 (q := 11) C dX11_give_10 rfl rfl rfl ?_
    obtain ⟨u16, eu16, hf⟩ := mm_rf_some hf
    obtain ⟨k17, hf⟩ := mm_ck_some hf
    obtain ⟨k18, hf⟩ := mm_ck_some hf
    refine me_iald (q := 12) C dX11_give_11 eu16 k17 k18 rfl ?_
    refine me_iload_n (q := 13) C dX11_give_12 rfl rfl rfl ?_
    refine me_iadd (q := 14) C dX11_give_13 rfl ?_
    obtain ⟨k19, hf⟩ := mm_ck_some hf
    obtain ⟨g20, eg20, hf⟩ := mm_lt_some hf
    refine me_iastH (q := 15) C eg20 dX11_give_14 eu16 k17 k19 rfl ?_
    refine me_goto (q := 43) C dX11_give_15 (by decide) ?_
    exact me_vret C hE (Nat.le_of_ble_eq_true rfl) (Nat.le_of_ble_eq_true rfl) rfl dX11_give_43 (mm_ru hf)
set_option maxRecDepth 100000 in
set_option maxHeartbeats 4000000 in
theorem cX11_payOwed_ok (l : Launch) {a0 : Nat} {a1 : Nat} {a2 : Int32} {h : mm_H} {r : Int32} {h1 : mm_H} (hf : fX11_payOwed a0 a1 a2 h = some (r, h1)) : mm_M l yX11_payOwed cX11_payOwed 4 (some .int) 10 0 0 [vR (some a0), vR (some a1), vI a2] h (some (vI r)) h1 := by
  refine mm_enter (lv := [some (vR (some a0)), some (vR (some a1)), some (vI a2), none]) (by decide) rfl (Nat.le_of_ble_eq_true rfl) ?_
  intro X hl C hE
  subst hl
  unfold fX11_payOwed at hf
  refine me_aload_n (q := 1) C dX11_payOwed_0 rfl rfl rfl ?_
  obtain ⟨k1, hf⟩ := mm_ck_some hf
  refine me_getR (q := 4) C dX11_payOwed_1 mf_X11_10 rfl rfl k1 rfl ?_
  refine me_aload_n (q := 5) C dX11_payOwed_4 rfl rfl rfl ?_
  obtain ⟨k2, hf⟩ := mm_ck_some hf
  refine me_getI (q := 8) C dX11_payOwed_5 mf_X11_279 rfl rfl k2 rfl ?_
  obtain ⟨u3, eu3, hf⟩ := mm_rf_some hf
  obtain ⟨k4, hf⟩ := mm_ck_some hf
  obtain ⟨v5, g6, e7, hf⟩ := mm_cl_some hf
  refine me_callV (q := 11) (c2 := 0) (s2 := 0) (st := []) C (cJx4a65c_get_915e3_ok _ e7) mt_X11_151 mv_Jx4a65c_get_915e3 rfl (by decide) dX11_payOwed_8 eu3 k4 rfl rfl rfl (Nat.le_of_ble_eq_true rfl) rfl (Nat.le_of_ble_eq_true rfl) rfl (Nat.le_of_ble_eq_true rfl) rfl rfl ?_
  obtain ⟨u8, eu8, hf⟩ := mm_rf_some hf
  obtain ⟨k9, hf⟩ := mm_ck_some hf
  refine me_cast (q := 14) C dX11_payOwed_11 mk_X11_98 eu8 k9 rfl ?_
  refine me_iload_n (q := 15) C dX11_payOwed_14 rfl rfl rfl ?_
  refine me_aload_n (q := 16) C dX11_payOwed_15 rfl rfl rfl ?_
  obtain ⟨k10, hf⟩ := mm_ck_some hf
  refine me_getI (q := 19) C dX11_payOwed_16 mf_X11_288 rfl rfl k10 rfl ?_
  refine me_mmin (q := 22) C dX11_payOwed_19 mm_X11_499 rfl (Nat.le_of_ble_eq_true rfl) rfl ?_
  obtain ⟨v11, ev11, hf⟩ := mm_lt_some hf
  refine me_topI ev11 ?_
  obtain ⟨v12, g13, e14, hf⟩ := mm_cl_some hf
  refine me_callV (q := 25) (c2 := 0) (s2 := 0) (st := []) C (cX7_spend_ok _ e14) mt_X11_131 mv_X7_spend rfl (by decide) dX11_payOwed_22 eu8 k9 rfl rfl rfl (Nat.le_of_ble_eq_true rfl) rfl (Nat.le_of_ble_eq_true rfl) rfl (Nat.le_of_ble_eq_true rfl) rfl rfl ?_
  refine me_istore_n (q := 26) (lv2 := [some (vR (some a0)), some (vR (some a1)), some (vI a2), some (vI v12)]) C dX11_payOwed_25 rfl (Nat.le_of_ble_eq_true rfl) rfl rfl rfl ?_
  refine me_aload_n (q := 27) C dX11_payOwed_26 rfl rfl rfl ?_
  refine me_dup (q := 28) C dX11_payOwed_27 rfl rfl ?_
  obtain ⟨k15, hf⟩ := mm_ck_some hf
  refine me_getI (q := 31) C dX11_payOwed_28 mf_X11_288 rfl rfl k15 rfl ?_
  refine me_iload_n (q := 32) C dX11_payOwed_31 rfl rfl rfl ?_
  refine me_isub (q := 33) C dX11_payOwed_32 rfl ?_
  obtain ⟨g16, eg16, hf⟩ := mm_lt_some hf
  refine me_putI (q := 36) C eg16 dX11_payOwed_33 mf_X11_288 mp_X11_1_6 rfl (by decide) rfl k15 rfl ?_
  refine me_aload_n (q := 37) C dX11_payOwed_36 rfl rfl rfl ?_
  refine me_aload_n (q := 38) C dX11_payOwed_37 rfl rfl rfl ?_
  refine me_getI (q := 41) C dX11_payOwed_38 mf_X11_300 rfl rfl (mm_kI eg16 k15) rfl ?_
  refine me_aload_n (q := 42) C dX11_payOwed_41 rfl rfl rfl ?_
  obtain ⟨k17, hf⟩ := mm_ck_some hf
  refine me_getR (q := 45) C dX11_payOwed_42 mf_X11_10 rfl rfl k17 rfl ?_
  refine me_aload_n (q := 46) C dX11_payOwed_45 rfl rfl rfl ?_
  refine me_getI (q := 49) C dX11_payOwed_46 mf_X11_276 rfl rfl (mm_kI eg16 k15) rfl ?_
  obtain ⟨u18, eu18, hf⟩ := mm_rf_some hf
  obtain ⟨k19, hf⟩ := mm_ck_some hf
  obtain ⟨v20, g21, e22, hf⟩ := mm_cl_some hf
  refine me_callV (q := 52) (c2 := 0) (s2 := 0) (st := [vI (mm_i g16 a1 8), vR (some a0)]) C (cJx4a65c_get_915e3_ok _ e22) mt_X11_151 mv_Jx4a65c_get_915e3 rfl (by decide) dX11_payOwed_49 eu18 k19 rfl rfl rfl (Nat.le_of_ble_eq_true rfl) rfl (Nat.le_of_ble_eq_true rfl) rfl (Nat.le_of_ble_eq_true rfl) rfl rfl ?_
  obtain ⟨u23, eu23, hf⟩ := mm_rf_some hf
  obtain ⟨k24, hf⟩ := mm_ck_some hf
  refine me_cast (q := 55) C dX11_payOwed_52 mk_X11_98 eu23 k24 rfl ?_
  refine me_getI (q := 58) C dX11_payOwed_55 mf_X11_121 rfl eu23 k24 rfl ?_
  refine me_iload_n (q := 59) C dX11_payOwed_58 rfl rfl rfl ?_
  obtain ⟨k25, hf⟩ := mm_ck_some hf
  obtain ⟨_, g26, e27, hf⟩ := mm_cl_some hf
  refine me_callV (q := 62) (c2 := 0) (s2 := 0) (st := []) C (cX11_give_ok _ e27) mt_X11_134 mv_X11_give rfl (by decide) dX11_payOwed_59 rfl k25 rfl rfl rfl (Nat.le_of_ble_eq_true rfl) rfl (Nat.le_of_ble_eq_true rfl) rfl (Nat.le_of_ble_eq_true rfl) rfl rfl ?_
  refine me_iload_n (q := 63) C dX11_payOwed_62 rfl rfl rfl ?_
  exact me_iret C hE (Nat.le_of_ble_eq_true rfl) (Nat.le_of_ble_eq_true rfl) rfl dX11_payOwed_63 (mm_ri hf)
set_option maxRecDepth 100000 in
set_option maxHeartbeats 4000000 in
theorem cX11_payBargainsOf_L9 {X : mm_X} (C : mm_C X cX11_payBargainsOf yX11_payBargainsOf 12 0 0) {r : Unit} {h1 : mm_H} (hE : mm_End X 0 0 none none h1) {b0 : Nat} {b1 : Int32} (K59 : mm_H → Option (Unit × mm_H)) : ∀ (n : Nat) (x2 : Int32) (x3 : Int32) (h : mm_H), fX11_payBargainsOf_L9 b0 b1 K59 n x2 x3 h = some (r, h1) → (∀ (h : mm_H), K59 h = some (r, h1) → mm_E X h 0 0 59 [none, none, none, none, none] []) → mm_E X h 0 0 9 [some (vR (some b0)), some (vI b1), some (vI x2), some (vI x3), none] [] := by
  intro n
  induction n with
  | zero =>
    intro x2 x3 h hf
    exact absurd (show (none : Option (Unit × mm_H)) = some (r, h1) from hf) (by simp)
  | succ n ih =>
    intro x2 x3 h hf hk59
    have hf : fX11_payBargainsOf_L9_b b0 b1 K59 (fX11_payBargainsOf_L9 b0 b1 K59 n) x2 x3 h = some (r, h1) := hf
    unfold fX11_payBargainsOf_L9_b at hf
    refine me_iload_n (q := 10) C dX11_payBargainsOf_9 rfl rfl rfl ?_
    refine me_sipush (v := (300 : Int32)) (q := 13) C dX11_payBargainsOf_10 (by decide) rfl ?_
    refine me_icmp_ge (q2 := 59) (q := 16) C dX11_payBargainsOf_13 (by decide) rfl (fun c5 => ?_) (fun c5 => ?_)
    · have hf := mm_if_t c5 hf
      refine me_mask [false, false, false, false, false] (lv2 := [none, none, none, none, none]) rfl ?_
      exact hk59 _ hf
    · have hf := mm_if_f c5 hf
      refine me_iload_n (q := 17) C dX11_payBargainsOf_16 rfl rfl rfl ?_
      refine me_iconst (v := (-1 : Int32)) (q := 18) C dX11_payBargainsOf_17 (by decide) rfl ?_
      refine me_icmp_eq (q2 := 59) (q := 21) C dX11_payBargainsOf_18 (by decide) rfl (fun c6 => ?_) (fun c6 => ?_)
      · have hf := mm_if_t c6 hf
        refine me_mask [false, false, false, false, false] (lv2 := [none, none, none, none, none]) rfl ?_
        exact hk59 _ hf
      · have hf := mm_if_f c6 hf
        refine me_aload_n (q := 22) C dX11_payBargainsOf_21 rfl rfl rfl ?_
        obtain ⟨k7, hf⟩ := mm_ck_some hf
        refine me_getR (q := 25) C dX11_payBargainsOf_22 mf_X11_19 rfl rfl k7 rfl ?_
        refine me_iload_n (q := 26) C dX11_payBargainsOf_25 rfl rfl rfl ?_
        obtain ⟨u8, eu8, hf⟩ := mm_rf_some hf
        obtain ⟨k9, hf⟩ := mm_ck_some hf
        obtain ⟨v10, g11, e12, hf⟩ := mm_cl_some hf
        refine me_callV (q := 29) (c2 := 0) (s2 := 0) (st := []) C (cJx4a65c_get_915e3_ok _ e12) mt_X11_151 mv_Jx4a65c_get_915e3 rfl (by decide) dX11_payBargainsOf_26 eu8 k9 rfl rfl rfl (Nat.le_of_ble_eq_true rfl) rfl (Nat.le_of_ble_eq_true rfl) rfl (Nat.le_of_ble_eq_true rfl) rfl rfl ?_
        obtain ⟨u13, eu13, hf⟩ := mm_rf_some hf
        obtain ⟨k14, hf⟩ := mm_ck_some hf
        refine me_cast (q := 32) C dX11_payBargainsOf_29 mk_X11_256 eu13 k14 rfl ?_
        refine me_astore (q := 34) (lv2 := [some (vR (some b0)), some (vI b1), some (vI x2), some (vI x3), some (vR v10)]) C dX11_payBargainsOf_32 (Nat.le_of_ble_eq_true rfl) rfl rfl rfl ?_
        refine me_aload_n (q := 35) C dX11_payBargainsOf_34 rfl rfl rfl ?_
        refine me_aload (q := 37) C dX11_payBargainsOf_35 rfl rfl ?_
        refine me_aload (q := 39) C dX11_payBargainsOf_37 rfl rfl ?_
        refine me_getI (q := 42) C dX11_payBargainsOf_39 mf_X11_288 rfl eu13 k14 rfl ?_
        obtain ⟨k15, hf⟩ := mm_ck_some hf
        obtain ⟨v16, g17, e18, hf⟩ := mm_cl_some hf
        refine me_callV (q := 45) (c2 := 0) (s2 := 0) (st := []) C (cX11_payOwed_ok _ e18) mt_X11_261 mv_X11_payOwed rfl (by decide) dX11_payBargainsOf_42 rfl k15 (by rw [eu13]; rfl) rfl rfl (Nat.le_of_ble_eq_true rfl) rfl (Nat.le_of_ble_eq_true rfl) rfl (Nat.le_of_ble_eq_true rfl) rfl rfl ?_
        refine me_pop (q := 46) C dX11_payBargainsOf_45 rfl rfl ?_
        refine me_aload_n (q := 47) C dX11_payBargainsOf_46 rfl rfl rfl ?_
        refine me_iload_n (q := 48) C dX11_payBargainsOf_47 rfl rfl rfl ?_
        refine me_iload_n (q := 49) C dX11_payBargainsOf_48 rfl rfl rfl ?_
        obtain ⟨k19, hf⟩ := mm_ck_some hf
        obtain ⟨v20, g21, e22, hf⟩ := mm_cl_some hf
        refine me_callV (q := 52) (c2 := 0) (s2 := 0) (st := []) C (cX11_nextDebt_ok _ e22) mt_X11_517 mv_X11_nextDebt rfl (by decide) dX11_payBargainsOf_49 rfl k19 rfl rfl rfl (Nat.le_of_ble_eq_true rfl) rfl (Nat.le_of_ble_eq_true rfl) rfl (Nat.le_of_ble_eq_true rfl) rfl rfl ?_
        refine me_istore_n (q := 53) (lv2 := [some (vR (some b0)), some (vI b1), some (vI v20), some (vI x3), some (vR v10)]) C dX11_payBargainsOf_52 rfl (Nat.le_of_ble_eq_true rfl) rfl rfl rfl ?_
        obtain ⟨v23, ev23, hf⟩ := mm_lt_some hf
        refine me_iinc (q := 56) (v := v23) (lv2 := [some (vR (some b0)), some (vI b1), some (vI v20), some (vI v23), some (vR v10)]) C dX11_payBargainsOf_53 rfl (by rw [ev23]; rfl) (Nat.le_of_ble_eq_true rfl) rfl rfl rfl ?_
        refine me_goto (q := 9) C dX11_payBargainsOf_56 (by decide) ?_
        refine me_mask [true, true, true, true, false] (lv2 := [some (vR (some b0)), some (vI b1), some (vI v20), some (vI v23), none]) rfl ?_
        exact ih _ _ _ hf hk59
set_option maxRecDepth 100000 in
set_option maxHeartbeats 4000000 in
theorem cX11_payBargainsOf_ok (l : Launch) {a0 : Nat} {a1 : Int32} {h : mm_H} {r : Unit} {h1 : mm_H} (hf : fX11_payBargainsOf a0 a1 h = some (r, h1)) : mm_M l yX11_payBargainsOf cX11_payBargainsOf 5 none 12 0 0 [vR (some a0), vI a1] h none h1 := by
  refine mm_enter (lv := [some (vR (some a0)), some (vI a1), none, none, none]) (by decide) rfl (Nat.le_of_ble_eq_true rfl) ?_
  intro X hl C hE
  subst hl
  unfold fX11_payBargainsOf at hf
  refine me_aload_n (q := 1) C dX11_payBargainsOf_0 rfl rfl rfl ?_
  refine me_iload_n (q := 2) C dX11_payBargainsOf_1 rfl rfl rfl ?_
  refine me_iconst (v := (-1 : Int32)) (q := 3) C dX11_payBargainsOf_2 (by decide) rfl ?_
  obtain ⟨k1, hf⟩ := mm_ck_some hf
  obtain ⟨v2, g3, e4, hf⟩ := mm_cl_some hf
  refine me_callV (q := 6) (c2 := 0) (s2 := 0) (st := []) C (cX11_nextDebt_ok _ e4) mt_X11_517 mv_X11_nextDebt rfl (by decide) dX11_payBargainsOf_3 rfl k1 rfl rfl rfl (Nat.le_of_ble_eq_true rfl) rfl (Nat.le_of_ble_eq_true rfl) rfl (Nat.le_of_ble_eq_true rfl) rfl rfl ?_
  refine me_istore_n (q := 7) (lv2 := [some (vR (some a0)), some (vI a1), some (vI v2), none, none]) C dX11_payBargainsOf_6 rfl (Nat.le_of_ble_eq_true rfl) rfl rfl rfl ?_
  refine me_iconst (v := (0 : Int32)) (q := 8) C dX11_payBargainsOf_7 (by decide) rfl ?_
  refine me_istore_n (q := 9) (lv2 := [some (vR (some a0)), some (vI a1), some (vI v2), some (vI (0 : Int32)), none]) C dX11_payBargainsOf_8 rfl (Nat.le_of_ble_eq_true rfl) rfl rfl rfl ?_
  refine cX11_payBargainsOf_L9 C hE _ _ _ _ _ hf ?_
  · intro g24 hf
    exact me_vret C hE (Nat.le_of_ble_eq_true rfl) (Nat.le_of_ble_eq_true rfl) rfl dX11_payBargainsOf_59 (mm_ru hf)
set_option maxRecDepth 100000 in
set_option maxHeartbeats 4000000 in
theorem cX11_payClaim_ok (l : Launch) {a0 : Nat} {a1 : Nat} {a2 : Int32} {a3 : Int32} {h : mm_H} {r : Int32} {h1 : mm_H} (hf : fX11_payClaim a0 a1 a2 a3 h = some (r, h1)) : mm_M l yX11_payClaim cX11_payClaim 5 (some .int) 10 0 0 [vR (some a0), vR (some a1), vI a2, vI a3] h (some (vI r)) h1 := by
  refine mm_enter (lv := [some (vR (some a0)), some (vR (some a1)), some (vI a2), some (vI a3), none]) (by decide) rfl (Nat.le_of_ble_eq_true rfl) ?_
  intro X hl C hE
  subst hl
  unfold fX11_payClaim at hf
  refine me_aload_n (q := 1) C dX11_payClaim_0 rfl rfl rfl ?_
  obtain ⟨k1, hf⟩ := mm_ck_some hf
  refine me_getR (q := 4) C dX11_payClaim_1 mf_X11_10 rfl rfl k1 rfl ?_
  refine me_aload_n (q := 5) C dX11_payClaim_4 rfl rfl rfl ?_
  obtain ⟨k2, hf⟩ := mm_ck_some hf
  refine me_getI (q := 8) C dX11_payClaim_5 mf_X11_279 rfl rfl k2 rfl ?_
  obtain ⟨u3, eu3, hf⟩ := mm_rf_some hf
  obtain ⟨k4, hf⟩ := mm_ck_some hf
  obtain ⟨v5, g6, e7, hf⟩ := mm_cl_some hf
  refine me_callV (q := 11) (c2 := 0) (s2 := 0) (st := []) C (cJx4a65c_get_915e3_ok _ e7) mt_X11_151 mv_Jx4a65c_get_915e3 rfl (by decide) dX11_payClaim_8 eu3 k4 rfl rfl rfl (Nat.le_of_ble_eq_true rfl) rfl (Nat.le_of_ble_eq_true rfl) rfl (Nat.le_of_ble_eq_true rfl) rfl rfl ?_
  obtain ⟨u8, eu8, hf⟩ := mm_rf_some hf
  obtain ⟨k9, hf⟩ := mm_ck_some hf
  refine me_cast (q := 14) C dX11_payClaim_11 mk_X11_98 eu8 k9 rfl ?_
  refine me_iload_n (q := 15) C dX11_payClaim_14 rfl rfl rfl ?_
  refine me_aload_n (q := 16) C dX11_payClaim_15 rfl rfl rfl ?_
  obtain ⟨k10, hf⟩ := mm_ck_some hf
  refine me_getR (q := 19) C dX11_payClaim_16 mf_X11_312 rfl rfl k10 rfl ?_
  refine me_iload_n (q := 20) C dX11_payClaim_19 rfl rfl rfl ?_
  obtain ⟨u11, eu11, hf⟩ := mm_rf_some hf
  obtain ⟨k12, hf⟩ := mm_ck_some hf
  obtain ⟨k13, hf⟩ := mm_ck_some hf
  refine me_iald (q := 21) C dX11_payClaim_20 eu11 k12 k13 rfl ?_
  refine me_mmin (q := 24) C dX11_payClaim_21 mm_X11_499 rfl (Nat.le_of_ble_eq_true rfl) rfl ?_
  obtain ⟨v14, ev14, hf⟩ := mm_lt_some hf
  refine me_topI ev14 ?_
  obtain ⟨v15, g16, e17, hf⟩ := mm_cl_some hf
  refine me_callV (q := 27) (c2 := 0) (s2 := 0) (st := []) C (cX7_spend_ok _ e17) mt_X11_131 mv_X7_spend rfl (by decide) dX11_payClaim_24 eu8 k9 rfl rfl rfl (Nat.le_of_ble_eq_true rfl) rfl (Nat.le_of_ble_eq_true rfl) rfl (Nat.le_of_ble_eq_true rfl) rfl rfl ?_
  refine me_istore (q := 29) (lv2 := [some (vR (some a0)), some (vR (some a1)), some (vI a2), some (vI a3), some (vI v15)]) C dX11_payClaim_27 (Nat.le_of_ble_eq_true rfl) rfl rfl rfl ?_
  refine me_aload_n (q := 30) C dX11_payClaim_29 rfl rfl rfl ?_
  obtain ⟨k18, hf⟩ := mm_ck_some hf
  refine me_getR (q := 33) C dX11_payClaim_30 mf_X11_312 rfl rfl k18 rfl ?_
  refine me_iload_n (q := 34) C dX11_payClaim_33 rfl rfl rfl ?_
  refine me_dup2_11 (q := 35) C dX11_payClaim_34 rfl rfl rfl ?_
  obtain ⟨u19, eu19, hf⟩ := mm_rf_some hf
  obtain ⟨k20, hf⟩ := mm_ck_some hf
  obtain ⟨k21, hf⟩ := mm_ck_some hf
  refine me_iald (q := 36) C dX11_payClaim_35 eu19 k20 k21 rfl ?_
  refine me_iload (q := 38) C dX11_payClaim_36 rfl rfl ?_
  refine me_isub (q := 39) C dX11_payClaim_38 rfl ?_
  obtain ⟨k22, hf⟩ := mm_ck_some hf
  obtain ⟨g23, eg23, hf⟩ := mm_lt_some hf
  refine me_iastH (q := 40) C eg23 dX11_payClaim_39 eu19 k20 k22 rfl ?_
  refine me_aload_n (q := 41) C dX11_payClaim_40 rfl rfl rfl ?_
  refine me_aload_n (q := 42) C dX11_payClaim_41 rfl rfl rfl ?_
  refine me_getR (q := 45) C dX11_payClaim_42 mf_X11_315 rfl rfl (mm_kI eg23 k18) rfl ?_
  refine me_iload_n (q := 46) C dX11_payClaim_45 rfl rfl rfl ?_
  obtain ⟨u24, eu24, hf⟩ := mm_rf_some hf
  obtain ⟨k25, hf⟩ := mm_ck_some hf
  obtain ⟨k26, hf⟩ := mm_ck_some hf
  refine me_iald (q := 47) C dX11_payClaim_46 eu24 k25 k26 rfl ?_
  refine me_aload_n (q := 48) C dX11_payClaim_47 rfl rfl rfl ?_
  obtain ⟨k27, hf⟩ := mm_ck_some hf
  refine me_getR (q := 51) C dX11_payClaim_48 mf_X11_10 rfl rfl k27 rfl ?_
  refine me_aload_n (q := 52) C dX11_payClaim_51 rfl rfl rfl ?_
  refine me_getR (q := 55) C dX11_payClaim_52 mf_X11_309 rfl rfl (mm_kI eg23 k18) rfl ?_
  refine me_iload_n (q := 56) C dX11_payClaim_55 rfl rfl rfl ?_
  obtain ⟨u28, eu28, hf⟩ := mm_rf_some hf
  obtain ⟨k29, hf⟩ := mm_ck_some hf
  obtain ⟨k30, hf⟩ := mm_ck_some hf
  refine me_iald (q := 57) C dX11_payClaim_56 eu28 k29 k30 rfl ?_
  obtain ⟨u31, eu31, hf⟩ := mm_rf_some hf
  obtain ⟨k32, hf⟩ := mm_ck_some hf
  obtain ⟨v33, g34, e35, hf⟩ := mm_cl_some hf
  refine me_callV (q := 60) (c2 := 0) (s2 := 0) (st := [vI (mm_i g23 u24 a2.toNatClampNeg), vR (some a0)]) C (cJx4a65c_get_915e3_ok _ e35) mt_X11_151 mv_Jx4a65c_get_915e3 rfl (by decide) dX11_payClaim_57 eu31 k32 rfl rfl rfl (Nat.le_of_ble_eq_true rfl) rfl (Nat.le_of_ble_eq_true rfl) rfl (Nat.le_of_ble_eq_true rfl) rfl rfl ?_
  obtain ⟨u36, eu36, hf⟩ := mm_rf_some hf
  obtain ⟨k37, hf⟩ := mm_ck_some hf
  refine me_cast (q := 63) C dX11_payClaim_60 mk_X11_98 eu36 k37 rfl ?_
  refine me_getI (q := 66) C dX11_payClaim_63 mf_X11_121 rfl eu36 k37 rfl ?_
  refine me_iload (q := 68) C dX11_payClaim_66 rfl rfl ?_
  obtain ⟨k38, hf⟩ := mm_ck_some hf
  obtain ⟨_, g39, e40, hf⟩ := mm_cl_some hf
  refine me_callV (q := 71) (c2 := 0) (s2 := 0) (st := []) C (cX11_give_ok _ e40) mt_X11_134 mv_X11_give rfl (by decide) dX11_payClaim_68 rfl k38 rfl rfl rfl (Nat.le_of_ble_eq_true rfl) rfl (Nat.le_of_ble_eq_true rfl) rfl (Nat.le_of_ble_eq_true rfl) rfl rfl ?_
  refine me_iload (q := 73) C dX11_payClaim_71 rfl rfl ?_
  exact me_iret C hE (Nat.le_of_ble_eq_true rfl) (Nat.le_of_ble_eq_true rfl) rfl dX11_payClaim_73 (mm_ri hf)
set_option maxRecDepth 100000 in
set_option maxHeartbeats 4000000 in
theorem cX11_payClaimsOf_L28 {X : mm_X} (C : mm_C X cX11_payClaimsOf yX11_payClaimsOf 12 0 0) {r : Unit} {h1 : mm_H} (hE : mm_End X 0 0 none none h1) {b0 : Nat} {b1 : Int32} {b2 : Int32} {b3 : Option Nat} (K66 : mm_H → Option (Unit × mm_H)) : ∀ (n : Nat) (x4 : Int32) (h : mm_H), fX11_payClaimsOf_L28 b0 b1 b2 b3 K66 n x4 h = some (r, h1) → (∀ (h : mm_H), K66 h = some (r, h1) → mm_E X h 0 0 66 [some (vR (some b0)), some (vI b1), some (vI b2), none, none] []) → mm_E X h 0 0 28 [some (vR (some b0)), some (vI b1), some (vI b2), some (vR b3), some (vI x4)] [] := by
  intro n
  induction n with
  | zero =>
    intro x4 h hf
    exact absurd (show (none : Option (Unit × mm_H)) = some (r, h1) from hf) (by simp)
  | succ n ih =>
    intro x4 h hf hk66
    have hf : fX11_payClaimsOf_L28_b b0 b1 b2 b3 K66 (fX11_payClaimsOf_L28 b0 b1 b2 b3 K66 n) x4 h = some (r, h1) := hf
    unfold fX11_payClaimsOf_L28_b at hf
    refine me_iload (q := 30) C dX11_payClaimsOf_28 rfl rfl ?_
    refine me_aload_n (q := 31) C dX11_payClaimsOf_30 rfl rfl rfl ?_
    obtain ⟨u16, eu16, hf⟩ := mm_rf_some hf
    obtain ⟨k17, hf⟩ := mm_ck_some hf
    refine me_getI (q := 34) C dX11_payClaimsOf_31 mf_X11_294 rfl eu16 k17 rfl ?_
    refine me_icmp_ge (q2 := 66) (q := 37) C dX11_payClaimsOf_34 (by decide) rfl (fun c18 => ?_) (fun c18 => ?_)
    · have hf := mm_if_t c18 hf
      refine me_mask [true, true, true, false, false] (lv2 := [some (vR (some b0)), some (vI b1), some (vI b2), none, none]) rfl ?_
      exact hk66 _ hf
    · have hf := mm_if_f c18 hf
      refine me_aload_n (q := 38) C dX11_payClaimsOf_37 rfl rfl rfl ?_
      refine me_getI (q := 41) C dX11_payClaimsOf_38 mf_X11_279 rfl eu16 k17 rfl ?_
      refine me_iload_n (q := 42) C dX11_payClaimsOf_41 rfl rfl rfl ?_
      refine me_icmp_ne (q2 := 66) (q := 45) C dX11_payClaimsOf_42 (by decide) rfl (fun c19 => ?_) (fun c19 => ?_)
      · have hf := mm_if_t c19 hf
        refine me_mask [true, true, true, false, false] (lv2 := [some (vR (some b0)), some (vI b1), some (vI b2), none, none]) rfl ?_
        exact hk66 _ hf
      · have hf := mm_if_f c19 hf
        refine me_aload_n (q := 46) C dX11_payClaimsOf_45 rfl rfl rfl ?_
        refine me_aload_n (q := 47) C dX11_payClaimsOf_46 rfl rfl rfl ?_
        refine me_iload (q := 49) C dX11_payClaimsOf_47 rfl rfl ?_
        refine me_aload_n (q := 50) C dX11_payClaimsOf_49 rfl rfl rfl ?_
        refine me_getR (q := 53) C dX11_payClaimsOf_50 mf_X11_312 rfl eu16 k17 rfl ?_
        refine me_iload (q := 55) C dX11_payClaimsOf_53 rfl rfl ?_
        obtain ⟨u20, eu20, hf⟩ := mm_rf_some hf
        obtain ⟨k21, hf⟩ := mm_ck_some hf
        obtain ⟨k22, hf⟩ := mm_ck_some hf
        refine me_iald (q := 56) C dX11_payClaimsOf_55 eu20 k21 k22 rfl ?_
        obtain ⟨k23, hf⟩ := mm_ck_some hf
        obtain ⟨v24, g25, e26, hf⟩ := mm_cl_some hf
        refine me_callV (q := 59) (c2 := 0) (s2 := 0) (st := []) C (cX11_payClaim_ok _ e26) mt_X11_321 mv_X11_payClaim rfl (by decide) dX11_payClaimsOf_56 rfl k23 (by rw [eu16]; rfl) rfl rfl (Nat.le_of_ble_eq_true rfl) rfl (Nat.le_of_ble_eq_true rfl) rfl (Nat.le_of_ble_eq_true rfl) rfl rfl ?_
        refine me_pop (q := 60) C dX11_payClaimsOf_59 rfl rfl ?_
        obtain ⟨v27, ev27, hf⟩ := mm_lt_some hf
        refine me_iinc (q := 63) (v := v27) (lv2 := [some (vR (some b0)), some (vI b1), some (vI b2), some (vR b3), some (vI v27)]) C dX11_payClaimsOf_60 rfl (by rw [ev27]; rfl) (Nat.le_of_ble_eq_true rfl) rfl rfl rfl ?_
        refine me_goto (q := 28) C dX11_payClaimsOf_63 (by decide) ?_
        exact ih _ _ hf hk66
set_option maxRecDepth 100000 in
set_option maxHeartbeats 4000000 in
theorem cX11_payClaimsOf_L2 {X : mm_X} (C : mm_C X cX11_payClaimsOf yX11_payClaimsOf 12 0 0) {r : Unit} {h1 : mm_H} (hE : mm_End X 0 0 none none h1) {b0 : Nat} {b1 : Int32} (K72 : mm_H → Option (Unit × mm_H)) : ∀ (n : Nat) (x2 : Int32) (h : mm_H), fX11_payClaimsOf_L2 b0 b1 K72 n x2 h = some (r, h1) → (∀ (h : mm_H), K72 h = some (r, h1) → mm_E X h 0 0 72 [none, none, none, none, none] []) → mm_E X h 0 0 2 [some (vR (some b0)), some (vI b1), some (vI x2), none, none] [] := by
  intro n
  induction n with
  | zero =>
    intro x2 h hf
    exact absurd (show (none : Option (Unit × mm_H)) = some (r, h1) from hf) (by simp)
  | succ n ih =>
    intro x2 h hf hk72
    have hf : fX11_payClaimsOf_L2_b b0 b1 K72 (fX11_payClaimsOf_L2 b0 b1 K72 n) x2 h = some (r, h1) := hf
    unfold fX11_payClaimsOf_L2_b at hf
    refine me_iload_n (q := 3) C dX11_payClaimsOf_2 rfl rfl rfl ?_
    refine me_aload_n (q := 4) C dX11_payClaimsOf_3 rfl rfl rfl ?_
    obtain ⟨k1, hf⟩ := mm_ck_some hf
    refine me_getR (q := 7) C dX11_payClaimsOf_4 mf_X11_19 rfl rfl k1 rfl ?_
    obtain ⟨u2, eu2, hf⟩ := mm_rf_some hf
    obtain ⟨k3, hf⟩ := mm_ck_some hf
    obtain ⟨v4, g5, e6, hf⟩ := mm_cl_some hf
    refine me_callV (q := 10) (c2 := 0) (s2 := 0) (st := [vI x2]) C (cJx4a65c_size_8abf5_ok _ e6) mt_X11_89 mv_Jx4a65c_size_8abf5 rfl (by decide) dX11_payClaimsOf_7 eu2 k3 rfl rfl rfl (Nat.le_of_ble_eq_true rfl) rfl (Nat.le_of_ble_eq_true rfl) rfl (Nat.le_of_ble_eq_true rfl) rfl rfl ?_
    refine me_icmp_ge (q2 := 72) (q := 13) C dX11_payClaimsOf_10 (by decide) rfl (fun c7 => ?_) (fun c7 => ?_)
    · have hf := mm_if_t c7 hf
      refine me_mask [false, false, false, false, false] (lv2 := [none, none, none, none, none]) rfl ?_
      exact hk72 _ hf
    · have hf := mm_if_f c7 hf
      refine me_aload_n (q := 14) C dX11_payClaimsOf_13 rfl rfl rfl ?_
      obtain ⟨k8, hf⟩ := mm_ck_some hf
      refine me_getR (q := 17) C dX11_payClaimsOf_14 mf_X11_19 rfl rfl k8 rfl ?_
      refine me_iload_n (q := 18) C dX11_payClaimsOf_17 rfl rfl rfl ?_
      obtain ⟨u9, eu9, hf⟩ := mm_rf_some hf
      obtain ⟨k10, hf⟩ := mm_ck_some hf
      obtain ⟨v11, g12, e13, hf⟩ := mm_cl_some hf
      refine me_callV (q := 21) (c2 := 0) (s2 := 0) (st := []) C (cJx4a65c_get_915e3_ok _ e13) mt_X11_151 mv_Jx4a65c_get_915e3 rfl (by decide) dX11_payClaimsOf_18 eu9 k10 rfl rfl rfl (Nat.le_of_ble_eq_true rfl) rfl (Nat.le_of_ble_eq_true rfl) rfl (Nat.le_of_ble_eq_true rfl) rfl rfl ?_
      obtain ⟨u14, eu14, hf⟩ := mm_rf_some hf
      obtain ⟨k15, hf⟩ := mm_ck_some hf
      refine me_cast (q := 24) C dX11_payClaimsOf_21 mk_X11_256 eu14 k15 rfl ?_
      refine me_astore_n (q := 25) (lv2 := [some (vR (some b0)), some (vI b1), some (vI x2), some (vR v11), none]) C dX11_payClaimsOf_24 rfl (Nat.le_of_ble_eq_true rfl) rfl rfl rfl ?_
      refine me_iconst (v := (0 : Int32)) (q := 26) C dX11_payClaimsOf_25 (by decide) rfl ?_
      refine me_istore (q := 28) (lv2 := [some (vR (some b0)), some (vI b1), some (vI x2), some (vR v11), some (vI (0 : Int32))]) C dX11_payClaimsOf_26 (Nat.le_of_ble_eq_true rfl) rfl rfl rfl ?_
      refine cX11_payClaimsOf_L28 C hE _ _ _ _ hf ?_
      · intro g28 hf
        obtain ⟨v29, ev29, hf⟩ := mm_lt_some hf
        refine me_iinc (q := 69) (v := v29) (lv2 := [some (vR (some b0)), some (vI b1), some (vI v29), none, none]) C dX11_payClaimsOf_66 rfl (by rw [ev29]; rfl) (Nat.le_of_ble_eq_true rfl) rfl rfl rfl ?_
        refine me_goto (q := 2) C dX11_payClaimsOf_69 (by decide) ?_
        exact ih _ _ hf hk72
set_option maxRecDepth 100000 in
set_option maxHeartbeats 4000000 in
theorem cX11_payClaimsOf_ok (l : Launch) {a0 : Nat} {a1 : Int32} {h : mm_H} {r : Unit} {h1 : mm_H} (hf : fX11_payClaimsOf a0 a1 h = some (r, h1)) : mm_M l yX11_payClaimsOf cX11_payClaimsOf 5 none 12 0 0 [vR (some a0), vI a1] h none h1 := by
  refine mm_enter (lv := [some (vR (some a0)), some (vI a1), none, none, none]) (by decide) rfl (Nat.le_of_ble_eq_true rfl) ?_
  intro X hl C hE
  subst hl
  unfold fX11_payClaimsOf at hf
  refine me_iconst (v := (0 : Int32)) (q := 1) C dX11_payClaimsOf_0 (by decide) rfl ?_
  refine me_istore_n (q := 2) (lv2 := [some (vR (some a0)), some (vI a1), some (vI (0 : Int32)), none, none]) C dX11_payClaimsOf_1 rfl (Nat.le_of_ble_eq_true rfl) rfl rfl rfl ?_
  refine cX11_payClaimsOf_L2 C hE _ _ _ _ hf ?_
  · intro g30 hf
    exact me_vret C hE (Nat.le_of_ble_eq_true rfl) (Nat.le_of_ble_eq_true rfl) rfl dX11_payClaimsOf_72 (mm_ru hf)
set_option maxRecDepth 100000 in
set_option maxHeartbeats 4000000 in
theorem cX11_leastMan_L2 {X : mm_X} (C : mm_C X cX11_leastMan yX11_leastMan 8 0 0) {r : Int32} {h1 : mm_H} (hE : mm_End X 0 0 (some .int) (some (vI r)) h1) {b0 : Nat} {b1 : Int32} {b2 : Int32} (K57 : mm_H → Option (Int32 × mm_H)) : ∀ (n : Nat) (x3 : Int32) (h : mm_H), fX11_leastMan_L2 b0 b1 b2 K57 n x3 h = some (r, h1) → (∀ (h : mm_H), K57 h = some (r, h1) → mm_E X h 0 0 57 [none, none, none, none] []) → mm_E X h 0 0 2 [some (vR (some b0)), some (vI b1), some (vI b2), some (vI x3)] [] := by
  intro n
  induction n with
  | zero =>
    intro x3 h hf
    exact absurd (show (none : Option (Int32 × mm_H)) = some (r, h1) from hf) (by simp)
  | succ n ih =>
    intro x3 h hf hk57
    have hf : fX11_leastMan_L2_b b0 b1 b2 K57 (fX11_leastMan_L2 b0 b1 b2 K57 n) x3 h = some (r, h1) := hf
    unfold fX11_leastMan_L2_b at hf
    refine me_iload_n (q := 3) C dX11_leastMan_2 rfl rfl rfl ?_
    refine me_aload_n (q := 4) C dX11_leastMan_3 rfl rfl rfl ?_
    obtain ⟨k1, hf⟩ := mm_ck_some hf
    refine me_getR (q := 7) C dX11_leastMan_4 mf_X11_10 rfl rfl k1 rfl ?_
    obtain ⟨u2, eu2, hf⟩ := mm_rf_some hf
    obtain ⟨k3, hf⟩ := mm_ck_some hf
    obtain ⟨v4, g5, e6, hf⟩ := mm_cl_some hf
    refine me_callV (q := 10) (c2 := 0) (s2 := 0) (st := [vI x3]) C (cJx4a65c_size_8abf5_ok _ e6) mt_X11_89 mv_Jx4a65c_size_8abf5 rfl (by decide) dX11_leastMan_7 eu2 k3 rfl rfl rfl (Nat.le_of_ble_eq_true rfl) rfl (Nat.le_of_ble_eq_true rfl) rfl (Nat.le_of_ble_eq_true rfl) rfl rfl ?_
    refine me_icmp_ge (q2 := 57) (q := 13) C dX11_leastMan_10 (by decide) rfl (fun c7 => ?_) (fun c7 => ?_)
    · have hf := mm_if_t c7 hf
      refine me_mask [false, false, false, false] (lv2 := [none, none, none, none]) rfl ?_
      exact hk57 _ hf
    · have hf := mm_if_f c7 hf
      refine me_aload_n (q := 14) C dX11_leastMan_13 rfl rfl rfl ?_
      obtain ⟨k8, hf⟩ := mm_ck_some hf
      refine me_getR (q := 17) C dX11_leastMan_14 mf_X11_10 rfl rfl k8 rfl ?_
      refine me_iload_n (q := 18) C dX11_leastMan_17 rfl rfl rfl ?_
      obtain ⟨u9, eu9, hf⟩ := mm_rf_some hf
      obtain ⟨k10, hf⟩ := mm_ck_some hf
      obtain ⟨v11, g12, e13, hf⟩ := mm_cl_some hf
      refine me_callV (q := 21) (c2 := 0) (s2 := 0) (st := []) C (cJx4a65c_get_915e3_ok _ e13) mt_X11_151 mv_Jx4a65c_get_915e3 rfl (by decide) dX11_leastMan_18 eu9 k10 rfl rfl rfl (Nat.le_of_ble_eq_true rfl) rfl (Nat.le_of_ble_eq_true rfl) rfl (Nat.le_of_ble_eq_true rfl) rfl rfl ?_
      obtain ⟨u14, eu14, hf⟩ := mm_rf_some hf
      obtain ⟨k15, hf⟩ := mm_ck_some hf
      refine me_cast (q := 24) C dX11_leastMan_21 mk_X11_98 eu14 k15 rfl ?_
      refine me_getI (q := 27) C dX11_leastMan_24 mf_X11_121 rfl eu14 k15 rfl ?_
      refine me_iload_n (q := 28) C dX11_leastMan_27 rfl rfl rfl ?_
      obtain ⟨q17, eq17, hf⟩ := mm_jn_some hf
      have Hq17 : ∀ (g16 : mm_H), q17 g16 = some (r, h1) → mm_E X g16 0 0 51 [some (vR (some b0)), some (vI b1), some (vI b2), some (vI x3)] [] := by
        intro g16 hf
        subst eq17
        obtain ⟨v18, ev18, hf⟩ := mm_lt_some hf
        refine me_iinc (q := 54) (v := v18) (lv2 := [some (vR (some b0)), some (vI b1), some (vI b2), some (vI v18)]) C dX11_leastMan_51 rfl (by rw [ev18]; rfl) (Nat.le_of_ble_eq_true rfl) rfl rfl rfl ?_
        refine me_goto (q := 2) C dX11_leastMan_54 (by decide) ?_
        exact ih _ _ hf hk57
      refine me_icmp_ne (q2 := 51) (q := 31) C dX11_leastMan_28 (by decide) rfl (fun c19 => ?_) (fun c19 => ?_)
      · have hf := mm_if_t c19 hf
        exact Hq17 _ hf
      · have hf := mm_if_f c19 hf
        refine me_aload_n (q := 32) C dX11_leastMan_31 rfl rfl rfl ?_
        obtain ⟨k20, hf⟩ := mm_ck_some hf
        refine me_getR (q := 35) C dX11_leastMan_32 mf_X11_10 rfl rfl k20 rfl ?_
        refine me_iload_n (q := 36) C dX11_leastMan_35 rfl rfl rfl ?_
        obtain ⟨u21, eu21, hf⟩ := mm_rf_some hf
        obtain ⟨k22, hf⟩ := mm_ck_some hf
        obtain ⟨v23, g24, e25, hf⟩ := mm_cl_some hf
        refine me_callV (q := 39) (c2 := 0) (s2 := 0) (st := []) C (cJx4a65c_get_915e3_ok _ e25) mt_X11_151 mv_Jx4a65c_get_915e3 rfl (by decide) dX11_leastMan_36 eu21 k22 rfl rfl rfl (Nat.le_of_ble_eq_true rfl) rfl (Nat.le_of_ble_eq_true rfl) rfl (Nat.le_of_ble_eq_true rfl) rfl rfl ?_
        obtain ⟨u26, eu26, hf⟩ := mm_rf_some hf
        obtain ⟨k27, hf⟩ := mm_ck_some hf
        refine me_cast (q := 42) C dX11_leastMan_39 mk_X11_98 eu26 k27 rfl ?_
        refine me_iload_n (q := 43) C dX11_leastMan_42 rfl rfl rfl ?_
        obtain ⟨v28, g29, e30, hf⟩ := mm_cl_some hf
        refine me_callV (q := 46) (c2 := 0) (s2 := 0) (st := []) C (cX7_wasThere_ok _ e30) mt_X11_514 mv_X7_wasThere rfl (by decide) dX11_leastMan_43 eu26 k27 rfl rfl rfl (Nat.le_of_ble_eq_true rfl) rfl (Nat.le_of_ble_eq_true rfl) rfl (Nat.le_of_ble_eq_true rfl) rfl rfl ?_
        refine me_if_eq (q2 := 51) (q := 49) C dX11_leastMan_46 (by decide) rfl (fun c31 => ?_) (fun c31 => ?_)
        · have hf := mm_if_t c31 hf
          exact Hq17 _ hf
        · have hf := mm_if_f c31 hf
          refine me_iload_n (q := 50) C dX11_leastMan_49 rfl rfl rfl ?_
          exact me_iret C hE (Nat.le_of_ble_eq_true rfl) (Nat.le_of_ble_eq_true rfl) rfl dX11_leastMan_50 (mm_ri hf)
set_option maxRecDepth 100000 in
set_option maxHeartbeats 4000000 in
theorem cX11_leastMan_ok (l : Launch) {a0 : Nat} {a1 : Int32} {a2 : Int32} {h : mm_H} {r : Int32} {h1 : mm_H} (hf : fX11_leastMan a0 a1 a2 h = some (r, h1)) : mm_M l yX11_leastMan cX11_leastMan 4 (some .int) 8 0 0 [vR (some a0), vI a1, vI a2] h (some (vI r)) h1 := by
  refine mm_enter (lv := [some (vR (some a0)), some (vI a1), some (vI a2), none]) (by decide) rfl (Nat.le_of_ble_eq_true rfl) ?_
  intro X hl C hE
  subst hl
  unfold fX11_leastMan at hf
  refine me_iconst (v := (0 : Int32)) (q := 1) C dX11_leastMan_0 (by decide) rfl ?_
  refine me_istore_n (q := 2) (lv2 := [some (vR (some a0)), some (vI a1), some (vI a2), some (vI (0 : Int32))]) C dX11_leastMan_1 rfl (Nat.le_of_ble_eq_true rfl) rfl rfl rfl ?_
  refine cX11_leastMan_L2 C hE _ _ _ _ hf ?_
  · intro g32 hf
    refine me_iconst (v := (-1 : Int32)) (q := 58) C dX11_leastMan_57 (by decide) rfl ?_
    exact me_iret C hE (Nat.le_of_ble_eq_true rfl) (Nat.le_of_ble_eq_true rfl) rfl dX11_leastMan_58 (mm_ri hf)
set_option maxRecDepth 100000 in
set_option maxHeartbeats 4000000 in
theorem cX11_heirOf_ok (l : Launch) {a0 : Nat} {a1 : Int32} {h : mm_H} {r : Int32} {h1 : mm_H} (hf : fX11_heirOf a0 a1 h = some (r, h1)) : mm_M l yX11_heirOf cX11_heirOf 2 (some .int) 10 0 0 [vR (some a0), vI a1] h (some (vI r)) h1 := by
  refine mm_enter (lv := [some (vR (some a0)), some (vI a1)]) (by decide) rfl (Nat.le_of_ble_eq_true rfl) ?_
  intro X hl C hE
  subst hl
  unfold fX11_heirOf at hf
  refine me_aload_n (q := 1) C dX11_heirOf_0 rfl rfl rfl ?_
  refine me_iload_n (q := 2) C dX11_heirOf_1 rfl rfl rfl ?_
  refine me_aload_n (q := 3) C dX11_heirOf_2 rfl rfl rfl ?_
  obtain ⟨k1, hf⟩ := mm_ck_some hf
  refine me_getI (q := 6) C dX11_heirOf_3 mf_X11_75 rfl rfl k1 rfl ?_
  obtain ⟨v2, g3, e4, hf⟩ := mm_cl_some hf
  refine me_callV (q := 9) (c2 := 0) (s2 := 0) (st := []) C (cX11_leastMan_ok _ e4) mt_X11_511 mv_X11_leastMan rfl (by decide) dX11_heirOf_6 rfl k1 rfl rfl rfl (Nat.le_of_ble_eq_true rfl) rfl (Nat.le_of_ble_eq_true rfl) rfl (Nat.le_of_ble_eq_true rfl) rfl rfl ?_
  exact me_iret C hE (Nat.le_of_ble_eq_true rfl) (Nat.le_of_ble_eq_true rfl) rfl dX11_heirOf_9 (mm_ri hf)
set_option maxRecDepth 100000 in
set_option maxHeartbeats 4000000 in
theorem cX11_leaveLots_L2 {X : mm_X} (C : mm_C X cX11_leaveLots yX11_leaveLots 8 0 0) {r : Unit} {h1 : mm_H} (hE : mm_End X 0 0 none none h1) {b0 : Nat} {b1 : Int32} {b2 : Int32} (K70 : mm_H → Option (Unit × mm_H)) : ∀ (n : Nat) (x3 : Int32) (h : mm_H), fX11_leaveLots_L2 b0 b1 b2 K70 n x3 h = some (r, h1) → (∀ (h : mm_H), K70 h = some (r, h1) → mm_E X h 0 0 70 [none, none, none, none, none] []) → mm_E X h 0 0 2 [some (vR (some b0)), some (vI b1), some (vI b2), some (vI x3), none] [] := by
  intro n
  induction n with
  | zero =>
    intro x3 h hf
    exact absurd (show (none : Option (Unit × mm_H)) = some (r, h1) from hf) (by simp)
  | succ n ih =>
    intro x3 h hf hk70
    have hf : fX11_leaveLots_L2_b b0 b1 b2 K70 (fX11_leaveLots_L2 b0 b1 b2 K70 n) x3 h = some (r, h1) := hf
    unfold fX11_leaveLots_L2_b at hf
    refine me_iload_n (q := 3) C dX11_leaveLots_2 rfl rfl rfl ?_
    refine me_aload_n (q := 4) C dX11_leaveLots_3 rfl rfl rfl ?_
    obtain ⟨k1, hf⟩ := mm_ck_some hf
    refine me_getR (q := 7) C dX11_leaveLots_4 mf_X11_16 rfl rfl k1 rfl ?_
    obtain ⟨u2, eu2, hf⟩ := mm_rf_some hf
    obtain ⟨k3, hf⟩ := mm_ck_some hf
    obtain ⟨v4, g5, e6, hf⟩ := mm_cl_some hf
    refine me_callV (q := 10) (c2 := 0) (s2 := 0) (st := [vI x3]) C (cJx4a65c_size_8abf5_ok _ e6) mt_X11_89 mv_Jx4a65c_size_8abf5 rfl (by decide) dX11_leaveLots_7 eu2 k3 rfl rfl rfl (Nat.le_of_ble_eq_true rfl) rfl (Nat.le_of_ble_eq_true rfl) rfl (Nat.le_of_ble_eq_true rfl) rfl rfl ?_
    refine me_icmp_ge (q2 := 70) (q := 13) C dX11_leaveLots_10 (by decide) rfl (fun c7 => ?_) (fun c7 => ?_)
    · have hf := mm_if_t c7 hf
      refine me_mask [false, false, false, false, false] (lv2 := [none, none, none, none, none]) rfl ?_
      exact hk70 _ hf
    · have hf := mm_if_f c7 hf
      refine me_aload_n (q := 14) C dX11_leaveLots_13 rfl rfl rfl ?_
      obtain ⟨k8, hf⟩ := mm_ck_some hf
      refine me_getR (q := 17) C dX11_leaveLots_14 mf_X11_16 rfl rfl k8 rfl ?_
      refine me_iload_n (q := 18) C dX11_leaveLots_17 rfl rfl rfl ?_
      obtain ⟨u9, eu9, hf⟩ := mm_rf_some hf
      obtain ⟨k10, hf⟩ := mm_ck_some hf
      obtain ⟨v11, g12, e13, hf⟩ := mm_cl_some hf
      refine me_callV (q := 21) (c2 := 0) (s2 := 0) (st := []) C (cJx4a65c_get_915e3_ok _ e13) mt_X11_151 mv_Jx4a65c_get_915e3 rfl (by decide) dX11_leaveLots_18 eu9 k10 rfl rfl rfl (Nat.le_of_ble_eq_true rfl) rfl (Nat.le_of_ble_eq_true rfl) rfl (Nat.le_of_ble_eq_true rfl) rfl rfl ?_
      obtain ⟨u14, eu14, hf⟩ := mm_rf_some hf
      obtain ⟨k15, hf⟩ := mm_ck_some hf
      refine me_cast (q := 24) C dX11_leaveLots_21 mk_X11_146 eu14 k15 rfl ?_
      refine me_astore (q := 26) (lv2 := [some (vR (some b0)), some (vI b1), some (vI b2), some (vI x3), some (vR v11)]) C dX11_leaveLots_24 (Nat.le_of_ble_eq_true rfl) rfl rfl rfl ?_
      refine me_aload (q := 28) C dX11_leaveLots_26 rfl rfl ?_
      refine me_getI (q := 31) C dX11_leaveLots_28 mf_X11_161 rfl eu14 k15 rfl ?_
      refine me_iload_n (q := 32) C dX11_leaveLots_31 rfl rfl rfl ?_
      obtain ⟨q17, eq17, hf⟩ := mm_jn_some hf
      have Hq17 : ∀ (g16 : mm_H), q17 g16 = some (r, h1) → mm_E X g16 0 0 64 [some (vR (some b0)), some (vI b1), some (vI b2), some (vI x3), none] [] := by
        intro g16 hf
        subst eq17
        obtain ⟨v18, ev18, hf⟩ := mm_lt_some hf
        refine me_iinc (q := 67) (v := v18) (lv2 := [some (vR (some b0)), some (vI b1), some (vI b2), some (vI v18), none]) C dX11_leaveLots_64 rfl (by rw [ev18]; rfl) (Nat.le_of_ble_eq_true rfl) rfl rfl rfl ?_
        refine me_goto (q := 2) C dX11_leaveLots_67 (by decide) ?_
        exact ih _ _ hf hk70
      obtain ⟨q19, eq19, hf⟩ := mm_jn_some hf
      have Hq19 : ∀ (_u : Unit), q19 _u = some (r, h1) → mm_E X g12 0 0 49 [some (vR (some b0)), some (vI b1), some (vI b2), some (vI x3), some (vR v11)] [] := by
        intro _u hf
        subst eq19
        refine me_aload (q := 51) C dX11_leaveLots_49 rfl rfl ?_
        refine me_getI (q := 54) C dX11_leaveLots_51 mf_X11_161 rfl eu14 k15 rfl ?_
        refine me_iload_n (q := 55) C dX11_leaveLots_54 rfl rfl rfl ?_
        refine me_icmp_ne (q2 := 64) (q := 58) C dX11_leaveLots_55 (by decide) rfl (fun c20 => ?_) (fun c20 => ?_)
        · have hf := mm_if_t c20 hf
          refine me_mask [true, true, true, true, false] (lv2 := [some (vR (some b0)), some (vI b1), some (vI b2), some (vI x3), none]) rfl ?_
          exact Hq17 _ hf
        · have hf := mm_if_f c20 hf
          refine me_aload (q := 60) C dX11_leaveLots_58 rfl rfl ?_
          refine me_iload_n (q := 61) C dX11_leaveLots_60 rfl rfl rfl ?_
          obtain ⟨g21, eg21, hf⟩ := mm_lt_some hf
          refine me_putI (q := 64) C eg21 dX11_leaveLots_61 mf_X11_161 mp_X11_7_4 rfl (by decide) eu14 k15 rfl ?_
          refine me_mask [true, true, true, true, false] (lv2 := [some (vR (some b0)), some (vI b1), some (vI b2), some (vI x3), none]) rfl ?_
          exact Hq17 _ hf
      refine me_icmp_ne (q2 := 49) (q := 35) C dX11_leaveLots_32 (by decide) rfl (fun c22 => ?_) (fun c22 => ?_)
      · have hf := mm_if_t c22 hf
        exact Hq19 () hf
      · have hf := mm_if_f c22 hf
        refine me_iload_n (q := 36) C dX11_leaveLots_35 rfl rfl rfl ?_
        refine me_iconst (v := (-1 : Int32)) (q := 37) C dX11_leaveLots_36 (by decide) rfl ?_
        refine me_icmp_ne (q2 := 49) (q := 40) C dX11_leaveLots_37 (by decide) rfl (fun c23 => ?_) (fun c23 => ?_)
        · have hf := mm_if_t c23 hf
          exact Hq19 () hf
        · have hf := mm_if_f c23 hf
          refine me_aload (q := 42) C dX11_leaveLots_40 rfl rfl ?_
          refine me_iconst (v := (0 : Int32)) (q := 43) C dX11_leaveLots_42 (by decide) rfl ?_
          obtain ⟨g24, eg24, hf⟩ := mm_lt_some hf
          refine me_putI (q := 46) C eg24 dX11_leaveLots_43 mf_X11_158 mp_X11_7_3 rfl (by decide) eu14 k15 rfl ?_
          refine me_goto (q := 64) C dX11_leaveLots_46 (by decide) ?_
          refine me_mask [true, true, true, true, false] (lv2 := [some (vR (some b0)), some (vI b1), some (vI b2), some (vI x3), none]) rfl ?_
          exact Hq17 _ hf
set_option maxRecDepth 100000 in
set_option maxHeartbeats 4000000 in
theorem cX11_leaveLots_ok (l : Launch) {a0 : Nat} {a1 : Int32} {a2 : Int32} {h : mm_H} {r : Unit} {h1 : mm_H} (hf : fX11_leaveLots a0 a1 a2 h = some (r, h1)) : mm_M l yX11_leaveLots cX11_leaveLots 5 none 8 0 0 [vR (some a0), vI a1, vI a2] h none h1 := by
  refine mm_enter (lv := [some (vR (some a0)), some (vI a1), some (vI a2), none, none]) (by decide) rfl (Nat.le_of_ble_eq_true rfl) ?_
  intro X hl C hE
  subst hl
  unfold fX11_leaveLots at hf
  refine me_iconst (v := (0 : Int32)) (q := 1) C dX11_leaveLots_0 (by decide) rfl ?_
  refine me_istore_n (q := 2) (lv2 := [some (vR (some a0)), some (vI a1), some (vI a2), some (vI (0 : Int32)), none]) C dX11_leaveLots_1 rfl (Nat.le_of_ble_eq_true rfl) rfl rfl rfl ?_
  refine cX11_leaveLots_L2 C hE _ _ _ _ hf ?_
  · intro g25 hf
    exact me_vret C hE (Nat.le_of_ble_eq_true rfl) (Nat.le_of_ble_eq_true rfl) rfl dX11_leaveLots_70 (mm_ru hf)
set_option maxRecDepth 100000 in
set_option maxHeartbeats 4000000 in
theorem cX11_leaveDues_L2 {X : mm_X} (C : mm_C X cX11_leaveDues yX11_leaveDues 8 0 0) {r : Unit} {h1 : mm_H} (hE : mm_End X 0 0 none none h1) {b0 : Nat} {b1 : Int32} {b2 : Int32} (K35 : mm_H → Option (Unit × mm_H)) : ∀ (n : Nat) (x3 : Int32) (h : mm_H), fX11_leaveDues_L2 b0 b1 b2 K35 n x3 h = some (r, h1) → (∀ (h : mm_H), K35 h = some (r, h1) → mm_E X h 0 0 35 [none, none, none, none] []) → mm_E X h 0 0 2 [some (vR (some b0)), some (vI b1), some (vI b2), some (vI x3)] [] := by
  intro n
  induction n with
  | zero =>
    intro x3 h hf
    exact absurd (show (none : Option (Unit × mm_H)) = some (r, h1) from hf) (by simp)
  | succ n ih =>
    intro x3 h hf hk35
    have hf : fX11_leaveDues_L2_b b0 b1 b2 K35 (fX11_leaveDues_L2 b0 b1 b2 K35 n) x3 h = some (r, h1) := hf
    unfold fX11_leaveDues_L2_b at hf
    refine me_iload_n (q := 3) C dX11_leaveDues_2 rfl rfl rfl ?_
    refine me_aload_n (q := 4) C dX11_leaveDues_3 rfl rfl rfl ?_
    obtain ⟨k1, hf⟩ := mm_ck_some hf
    refine me_getR (q := 7) C dX11_leaveDues_4 mf_X11_19 rfl rfl k1 rfl ?_
    obtain ⟨u2, eu2, hf⟩ := mm_rf_some hf
    obtain ⟨k3, hf⟩ := mm_ck_some hf
    obtain ⟨v4, g5, e6, hf⟩ := mm_cl_some hf
    refine me_callV (q := 10) (c2 := 0) (s2 := 0) (st := [vI x3]) C (cJx4a65c_size_8abf5_ok _ e6) mt_X11_89 mv_Jx4a65c_size_8abf5 rfl (by decide) dX11_leaveDues_7 eu2 k3 rfl rfl rfl (Nat.le_of_ble_eq_true rfl) rfl (Nat.le_of_ble_eq_true rfl) rfl (Nat.le_of_ble_eq_true rfl) rfl rfl ?_
    refine me_icmp_ge (q2 := 35) (q := 13) C dX11_leaveDues_10 (by decide) rfl (fun c7 => ?_) (fun c7 => ?_)
    · have hf := mm_if_t c7 hf
      refine me_mask [false, false, false, false] (lv2 := [none, none, none, none]) rfl ?_
      exact hk35 _ hf
    · have hf := mm_if_f c7 hf
      refine me_aload_n (q := 14) C dX11_leaveDues_13 rfl rfl rfl ?_
      obtain ⟨k8, hf⟩ := mm_ck_some hf
      refine me_getR (q := 17) C dX11_leaveDues_14 mf_X11_19 rfl rfl k8 rfl ?_
      refine me_iload_n (q := 18) C dX11_leaveDues_17 rfl rfl rfl ?_
      obtain ⟨u9, eu9, hf⟩ := mm_rf_some hf
      obtain ⟨k10, hf⟩ := mm_ck_some hf
      obtain ⟨v11, g12, e13, hf⟩ := mm_cl_some hf
      refine me_callV (q := 21) (c2 := 0) (s2 := 0) (st := []) C (cJx4a65c_get_915e3_ok _ e13) mt_X11_151 mv_Jx4a65c_get_915e3 rfl (by decide) dX11_leaveDues_18 eu9 k10 rfl rfl rfl (Nat.le_of_ble_eq_true rfl) rfl (Nat.le_of_ble_eq_true rfl) rfl (Nat.le_of_ble_eq_true rfl) rfl rfl ?_
      obtain ⟨u14, eu14, hf⟩ := mm_rf_some hf
      obtain ⟨k15, hf⟩ := mm_ck_some hf
      refine me_cast (q := 24) C dX11_leaveDues_21 mk_X11_256 eu14 k15 rfl ?_
      refine me_iload_n (q := 25) C dX11_leaveDues_24 rfl rfl rfl ?_
      refine me_iload_n (q := 26) C dX11_leaveDues_25 rfl rfl rfl ?_
      obtain ⟨_, g16, e17, hf⟩ := mm_cl_some hf
      refine me_callV (q := 29) (c2 := 0) (s2 := 0) (st := []) C (cX0_passTo_ok _ e17) mt_X11_520 mv_X0_passTo rfl (by decide) dX11_leaveDues_26 eu14 k15 rfl rfl rfl (Nat.le_of_ble_eq_true rfl) rfl (Nat.le_of_ble_eq_true rfl) rfl (Nat.le_of_ble_eq_true rfl) rfl rfl ?_
      obtain ⟨v18, ev18, hf⟩ := mm_lt_some hf
      refine me_iinc (q := 32) (v := v18) (lv2 := [some (vR (some b0)), some (vI b1), some (vI b2), some (vI v18)]) C dX11_leaveDues_29 rfl (by rw [ev18]; rfl) (Nat.le_of_ble_eq_true rfl) rfl rfl rfl ?_
      refine me_goto (q := 2) C dX11_leaveDues_32 (by decide) ?_
      exact ih _ _ hf hk35
set_option maxRecDepth 100000 in
set_option maxHeartbeats 4000000 in
theorem cX11_leaveDues_ok (l : Launch) {a0 : Nat} {a1 : Int32} {a2 : Int32} {h : mm_H} {r : Unit} {h1 : mm_H} (hf : fX11_leaveDues a0 a1 a2 h = some (r, h1)) : mm_M l yX11_leaveDues cX11_leaveDues 4 none 8 0 0 [vR (some a0), vI a1, vI a2] h none h1 := by
  refine mm_enter (lv := [some (vR (some a0)), some (vI a1), some (vI a2), none]) (by decide) rfl (Nat.le_of_ble_eq_true rfl) ?_
  intro X hl C hE
  subst hl
  unfold fX11_leaveDues at hf
  refine me_iconst (v := (0 : Int32)) (q := 1) C dX11_leaveDues_0 (by decide) rfl ?_
  refine me_istore_n (q := 2) (lv2 := [some (vR (some a0)), some (vI a1), some (vI a2), some (vI (0 : Int32))]) C dX11_leaveDues_1 rfl (Nat.le_of_ble_eq_true rfl) rfl rfl rfl ?_
  refine cX11_leaveDues_L2 C hE _ _ _ _ hf ?_
  · intro g19 hf
    exact me_vret C hE (Nat.le_of_ble_eq_true rfl) (Nat.le_of_ble_eq_true rfl) rfl dX11_leaveDues_35 (mm_ru hf)
set_option maxRecDepth 100000 in
set_option maxHeartbeats 4000000 in
theorem cX11_die_ok (l : Launch) {a0 : Nat} {a1 : Int32} {h : mm_H} {r : Int32} {h1 : mm_H} (hf : fX11_die a0 a1 h = some (r, h1)) : mm_M l yX11_die cX11_die 4 (some .int) 14 0 0 [vR (some a0), vI a1] h (some (vI r)) h1 := by
  refine mm_enter (lv := [some (vR (some a0)), some (vI a1), none, none]) (by decide) rfl (Nat.le_of_ble_eq_true rfl) ?_
  intro X hl C hE
  subst hl
  unfold fX11_die at hf
  refine me_aload_n (q := 1) C dX11_die_0 rfl rfl rfl ?_
  refine me_iload_n (q := 2) C dX11_die_1 rfl rfl rfl ?_
  obtain ⟨k1, hf⟩ := mm_ck_some hf
  obtain ⟨v2, g3, e4, hf⟩ := mm_cl_some hf
  refine me_callV (q := 5) (c2 := 0) (s2 := 0) (st := []) C (cX11_manThere_ok _ e4) mt_X11_107 mv_X11_manThere rfl (by decide) dX11_die_2 rfl k1 rfl rfl rfl (Nat.le_of_ble_eq_true rfl) rfl (Nat.le_of_ble_eq_true rfl) rfl (Nat.le_of_ble_eq_true rfl) rfl rfl ?_
  refine me_astore_n (q := 6) (lv2 := [some (vR (some a0)), some (vI a1), some (vR v2), none]) C dX11_die_5 rfl (Nat.le_of_ble_eq_true rfl) rfl rfl rfl ?_
  refine me_aload_n (q := 7) C dX11_die_6 rfl rfl rfl ?_
  refine me_ifnonnull (q2 := 13) (q := 10) C dX11_die_7 (by decide) rfl (fun c5 => ?_) (fun c5 => ?_)
  · have hf := mm_if_t c5 hf
    refine me_aload_n (q := 14) C dX11_die_13 rfl rfl rfl ?_
    refine me_aload_n (q := 15) C dX11_die_14 rfl rfl rfl ?_
    obtain ⟨k6, hf⟩ := mm_ck_some hf
    refine me_getI (q := 18) C dX11_die_15 mf_X11_75 rfl rfl k6 rfl ?_
    obtain ⟨u7, eu7, hf⟩ := mm_rf_some hf
    obtain ⟨k8, hf⟩ := mm_ck_some hf
    obtain ⟨g9, eg9, hf⟩ := mm_lt_some hf
    refine me_putI (q := 21) C eg9 dX11_die_18 mf_X11_111 mp_X11_8_4 rfl (by decide) eu7 k8 rfl ?_
    refine me_aload_n (q := 22) C dX11_die_21 rfl rfl rfl ?_
    refine me_iload_n (q := 23) C dX11_die_22 rfl rfl rfl ?_
    obtain ⟨_, g10, e11, hf⟩ := mm_cl_some hf
    refine me_callV (q := 26) (c2 := 0) (s2 := 0) (st := []) C (cX11_payBargainsOf_ok _ e11) mt_X11_114 mv_X11_payBargainsOf rfl (by decide) dX11_die_23 rfl (mm_kI eg9 k6) rfl rfl rfl (Nat.le_of_ble_eq_true rfl) rfl (Nat.le_of_ble_eq_true rfl) rfl (Nat.le_of_ble_eq_true rfl) rfl rfl ?_
    refine me_aload_n (q := 27) C dX11_die_26 rfl rfl rfl ?_
    refine me_iload_n (q := 28) C dX11_die_27 rfl rfl rfl ?_
    obtain ⟨k12, hf⟩ := mm_ck_some hf
    obtain ⟨_, g13, e14, hf⟩ := mm_cl_some hf
    refine me_callV (q := 31) (c2 := 0) (s2 := 0) (st := []) C (cX11_payClaimsOf_ok _ e14) mt_X11_118 mv_X11_payClaimsOf rfl (by decide) dX11_die_28 rfl k12 rfl rfl rfl (Nat.le_of_ble_eq_true rfl) rfl (Nat.le_of_ble_eq_true rfl) rfl (Nat.le_of_ble_eq_true rfl) rfl rfl ?_
    refine me_aload_n (q := 32) C dX11_die_31 rfl rfl rfl ?_
    refine me_aload_n (q := 33) C dX11_die_32 rfl rfl rfl ?_
    obtain ⟨k15, hf⟩ := mm_ck_some hf
    refine me_getI (q := 36) C dX11_die_33 mf_X11_121 rfl eu7 k15 rfl ?_
    obtain ⟨k16, hf⟩ := mm_ck_some hf
    obtain ⟨v17, g18, e19, hf⟩ := mm_cl_some hf
    refine me_callV (q := 39) (c2 := 0) (s2 := 0) (st := []) C (cX11_heirOf_ok _ e19) mt_X11_124 mv_X11_heirOf rfl (by decide) dX11_die_36 rfl k16 rfl rfl rfl (Nat.le_of_ble_eq_true rfl) rfl (Nat.le_of_ble_eq_true rfl) rfl (Nat.le_of_ble_eq_true rfl) rfl rfl ?_
    refine me_istore_n (q := 40) (lv2 := [some (vR (some a0)), some (vI a1), some (vR v2), some (vI v17)]) C dX11_die_39 rfl (Nat.le_of_ble_eq_true rfl) rfl rfl rfl ?_
    refine me_aload_n (q := 41) C dX11_die_40 rfl rfl rfl ?_
    refine me_iload_n (q := 42) C dX11_die_41 rfl rfl rfl ?_
    refine me_aload_n (q := 43) C dX11_die_42 rfl rfl rfl ?_
    obtain ⟨k20, hf⟩ := mm_ck_some hf
    refine me_getI (q := 46) C dX11_die_43 mf_X11_121 rfl eu7 k20 rfl ?_
    refine me_aload_n (q := 47) C dX11_die_46 rfl rfl rfl ?_
    refine me_aload_n (q := 48) C dX11_die_47 rfl rfl rfl ?_
    refine me_getI (q := 51) C dX11_die_48 mf_X11_128 rfl eu7 k20 rfl ?_
    obtain ⟨v21, g22, e23, hf⟩ := mm_cl_some hf
    refine me_callV (q := 54) (c2 := 0) (s2 := 0) (st := [vI (mm_i g18 u7 0), vI v17, vR (some a0)]) C (cX7_spend_ok _ e23) mt_X11_131 mv_X7_spend rfl (by decide) dX11_die_51 eu7 k20 rfl rfl rfl (Nat.le_of_ble_eq_true rfl) rfl (Nat.le_of_ble_eq_true rfl) rfl (Nat.le_of_ble_eq_true rfl) rfl rfl ?_
    obtain ⟨k24, hf⟩ := mm_ck_some hf
    obtain ⟨_, g25, e26, hf⟩ := mm_cl_some hf
    refine me_callV (q := 57) (c2 := 0) (s2 := 0) (st := []) C (cX11_give_ok _ e26) mt_X11_134 mv_X11_give rfl (by decide) dX11_die_54 rfl k24 rfl rfl rfl (Nat.le_of_ble_eq_true rfl) rfl (Nat.le_of_ble_eq_true rfl) rfl (Nat.le_of_ble_eq_true rfl) rfl rfl ?_
    refine me_aload_n (q := 58) C dX11_die_57 rfl rfl rfl ?_
    refine me_iload_n (q := 59) C dX11_die_58 rfl rfl rfl ?_
    refine me_iload_n (q := 60) C dX11_die_59 rfl rfl rfl ?_
    obtain ⟨k27, hf⟩ := mm_ck_some hf
    obtain ⟨_, g28, e29, hf⟩ := mm_cl_some hf
    refine me_callV (q := 63) (c2 := 0) (s2 := 0) (st := []) C (cX11_leaveLots_ok _ e29) mt_X11_138 mv_X11_leaveLots rfl (by decide) dX11_die_60 rfl k27 rfl rfl rfl (Nat.le_of_ble_eq_true rfl) rfl (Nat.le_of_ble_eq_true rfl) rfl (Nat.le_of_ble_eq_true rfl) rfl rfl ?_
    refine me_aload_n (q := 64) C dX11_die_63 rfl rfl rfl ?_
    refine me_iload_n (q := 65) C dX11_die_64 rfl rfl rfl ?_
    refine me_iload_n (q := 66) C dX11_die_65 rfl rfl rfl ?_
    obtain ⟨k30, hf⟩ := mm_ck_some hf
    obtain ⟨_, g31, e32, hf⟩ := mm_cl_some hf
    refine me_callV (q := 69) (c2 := 0) (s2 := 0) (st := []) C (cX11_leaveDues_ok _ e32) mt_X11_142 mv_X11_leaveDues rfl (by decide) dX11_die_66 rfl k30 rfl rfl rfl (Nat.le_of_ble_eq_true rfl) rfl (Nat.le_of_ble_eq_true rfl) rfl (Nat.le_of_ble_eq_true rfl) rfl rfl ?_
    refine me_iload_n (q := 70) C dX11_die_69 rfl rfl rfl ?_
    exact me_iret C hE (Nat.le_of_ble_eq_true rfl) (Nat.le_of_ble_eq_true rfl) rfl dX11_die_70 (mm_ri hf)
  · have hf := mm_if_f c5 hf
    refine me_bipush (v := (-2 : Int32)) (q := 12) C dX11_die_10 (by decide) rfl ?_
    exact me_iret C hE (Nat.le_of_ble_eq_true rfl) (Nat.le_of_ble_eq_true rfl) rfl dX11_die_12 (mm_ri hf)
set_option maxRecDepth 100000 in
set_option maxHeartbeats 4000000 in
theorem cX11_bring_ok (l : Launch) {a0 : Nat} {a1 : Int32} {a2 : Int32} {a3 : Int32} {h : mm_H} {r : Int32} {h1 : mm_H} (hf : fX11_bring a0 a1 a2 a3 h = some (r, h1)) : mm_M l yX11_bring cX11_bring 4 (some .int) 14 3 421 [vR (some a0), vI a1, vI a2, vI a3] h (some (vI r)) h1 := by
  refine mm_enter (lv := [some (vR (some a0)), some (vI a1), some (vI a2), some (vI a3)]) (by decide) rfl (Nat.le_of_ble_eq_true rfl) ?_
  intro X hl C hE
  subst hl
  unfold fX11_bring at hf
  refine me_aload_n (q := 1) C dX11_bring_0 rfl rfl rfl ?_
  obtain ⟨k1, hf⟩ := mm_ck_some hf
  refine me_getR (q := 4) C dX11_bring_1 mf_X11_16 rfl rfl k1 rfl ?_
  obtain ⟨u2, eu2, hf⟩ := mm_rf_some hf
  obtain ⟨k3, hf⟩ := mm_ck_some hf
  obtain ⟨v4, g5, e6, hf⟩ := mm_cl_some hf
  refine me_callV (q := 7) (c2 := 0) (s2 := 0) (st := []) C (cJx4a65c_size_8abf5_ok _ e6) mt_X11_89 mv_Jx4a65c_size_8abf5 rfl (by decide) dX11_bring_4 eu2 k3 rfl rfl rfl (Nat.le_of_ble_eq_true rfl) rfl (Nat.le_of_ble_eq_true rfl) rfl (Nat.le_of_ble_eq_true rfl) rfl rfl ?_
  refine me_sipush (v := (200 : Int32)) (q := 10) C dX11_bring_7 (by decide) rfl ?_
  refine me_icmp_ge (q2 := 21) (q := 13) C dX11_bring_10 (by decide) rfl (fun c7 => ?_) (fun c7 => ?_)
  · have hf := mm_if_t c7 hf
    refine me_iconst (v := (-1 : Int32)) (q := 22) C dX11_bring_21 (by decide) rfl ?_
    exact me_iret C hE (Nat.le_of_ble_eq_true rfl) (Nat.le_of_ble_eq_true rfl) rfl dX11_bring_22 (mm_ri hf)
  · have hf := mm_if_f c7 hf
    refine me_aload_n (q := 14) C dX11_bring_13 rfl rfl rfl ?_
    refine me_iload_n (q := 15) C dX11_bring_14 rfl rfl rfl ?_
    obtain ⟨k8, hf⟩ := mm_ck_some hf
    obtain ⟨v9, g10, e11, hf⟩ := mm_cl_some hf
    refine me_callV (q := 18) (c2 := 0) (s2 := 0) (st := []) C (cX11_manThere_ok _ e11) mt_X11_107 mv_X11_manThere rfl (by decide) dX11_bring_15 rfl k8 rfl rfl rfl (Nat.le_of_ble_eq_true rfl) rfl (Nat.le_of_ble_eq_true rfl) rfl (Nat.le_of_ble_eq_true rfl) rfl rfl ?_
    refine me_ifnonnull (q2 := 23) (q := 21) C dX11_bring_18 (by decide) rfl (fun c12 => ?_) (fun c12 => ?_)
    · have hf := mm_if_t c12 hf
      refine me_iload_n (q := 24) C dX11_bring_23 rfl rfl rfl ?_
      refine me_iconst (v := (0 : Int32)) (q := 25) C dX11_bring_24 (by decide) rfl ?_
      refine me_bipush (v := (7 : Int32)) (q := 27) C dX11_bring_25 (by decide) rfl ?_
      obtain ⟨v13, g14, e15, hf⟩ := mm_cl_some hf
      refine me_callS (q := 30) (c2 := 0) (s2 := 0) (st := []) C (cX11_within_ok _ e15) mt_X11_93 ms_X11_within dX11_bring_27 rfl rfl rfl (Nat.le_of_ble_eq_true rfl) rfl (Nat.le_of_ble_eq_true rfl) rfl (Nat.le_of_ble_eq_true rfl) rfl rfl ?_
      refine me_if_eq (q2 := 43) (q := 33) C dX11_bring_30 (by decide) rfl (fun c16 => ?_) (fun c16 => ?_)
      · have hf := mm_if_t c16 hf
        refine me_iconst (v := (-1 : Int32)) (q := 44) C dX11_bring_43 (by decide) rfl ?_
        exact me_iret C hE (Nat.le_of_ble_eq_true rfl) (Nat.le_of_ble_eq_true rfl) rfl dX11_bring_44 (mm_ri hf)
      · have hf := mm_if_f c16 hf
        refine me_iload_n (q := 34) C dX11_bring_33 rfl rfl rfl ?_
        refine me_iconst (v := (1 : Int32)) (q := 35) C dX11_bring_34 (by decide) rfl ?_
        refine me_ldc (v := (100000 : Int32)) (q := 37) C dX11_bring_35 mc_X11_145 rfl ?_
        obtain ⟨v17, g18, e19, hf⟩ := mm_cl_some hf
        refine me_callS (q := 40) (c2 := 0) (s2 := 0) (st := []) C (cX11_within_ok _ e19) mt_X11_93 ms_X11_within dX11_bring_37 rfl rfl rfl (Nat.le_of_ble_eq_true rfl) rfl (Nat.le_of_ble_eq_true rfl) rfl (Nat.le_of_ble_eq_true rfl) rfl rfl ?_
        refine me_if_ne (q2 := 45) (q := 43) C dX11_bring_40 (by decide) rfl (fun c20 => ?_) (fun c20 => ?_)
        · have hf := mm_if_t c20 hf
          refine me_aload_n (q := 46) C dX11_bring_45 rfl rfl rfl ?_
          obtain ⟨k21, hf⟩ := mm_ck_some hf
          refine me_getR (q := 49) C dX11_bring_46 mf_X11_16 rfl rfl k21 rfl ?_
          obtain ⟨g22, eg22, hf⟩ := mm_lt_some hf
          obtain ⟨u23, eu23, hf⟩ := mm_lt_some hf
          refine me_newH (q := 52) (c2 := 1) (s2 := 5) C eg22 dX11_bring_49 mn_X11_146 rfl (Nat.le_of_ble_eq_true rfl) rfl (Nat.le_of_ble_eq_true rfl) rfl ?_
          refine me_topR (congrArg some eu23) ?_
          have k24 : mm_kd g22 u23 = 7 := by rw [eu23]; exact mm_kN eg22
          refine me_dup (q := 53) C dX11_bring_52 rfl rfl ?_
          refine me_iload_n (q := 54) C dX11_bring_53 rfl rfl rfl ?_
          refine me_iload_n (q := 55) C dX11_bring_54 rfl rfl rfl ?_
          refine me_iload_n (q := 56) C dX11_bring_55 rfl rfl rfl ?_
          refine me_iconst (v := (-1 : Int32)) (q := 57) C dX11_bring_56 (by decide) rfl ?_
          obtain ⟨_, g25, e26, hf⟩ := mm_cl_some hf
          refine me_callI (q := 60) (c2 := 1) (s2 := 5) (st := [vR (some u23), vR (mm_r g18 a0 1)]) C (cX6_init_ok _ e26) mt_X11_148 mi_X6_init dX11_bring_57 rfl rfl rfl rfl (Nat.le_of_ble_eq_true rfl) rfl (Nat.le_of_ble_eq_true rfl) rfl (Nat.le_of_ble_eq_true rfl) rfl rfl ?_
          obtain ⟨u27, eu27, hf⟩ := mm_rf_some hf
          obtain ⟨k28, hf⟩ := mm_ck_some hf
          obtain ⟨v29, g30, e31, hf⟩ := mm_cl_some hf
          refine me_callV (q := 63) (c2 := 3) (s2 := 421) (st := []) C (cJx4a65c_add_9ea2d_ok _ e31) mt_X11_103 mv_Jx4a65c_add_9ea2d rfl (by decide) dX11_bring_60 eu27 k28 rfl rfl rfl (Nat.le_of_ble_eq_true rfl) rfl (Nat.le_of_ble_eq_true rfl) rfl (Nat.le_of_ble_eq_true rfl) rfl rfl ?_
          refine me_pop (q := 64) C dX11_bring_63 rfl rfl ?_
          refine me_aload_n (q := 65) C dX11_bring_64 rfl rfl rfl ?_
          obtain ⟨k32, hf⟩ := mm_ck_some hf
          refine me_getR (q := 68) C dX11_bring_65 mf_X11_16 rfl rfl k32 rfl ?_
          obtain ⟨u33, eu33, hf⟩ := mm_rf_some hf
          obtain ⟨k34, hf⟩ := mm_ck_some hf
          obtain ⟨v35, g36, e37, hf⟩ := mm_cl_some hf
          refine me_callV (q := 71) (c2 := 3) (s2 := 421) (st := []) C (cJx4a65c_size_8abf5_ok _ e37) mt_X11_89 mv_Jx4a65c_size_8abf5 rfl (by decide) dX11_bring_68 eu33 k34 rfl rfl rfl (Nat.le_of_ble_eq_true rfl) rfl (Nat.le_of_ble_eq_true rfl) rfl (Nat.le_of_ble_eq_true rfl) rfl rfl ?_
          refine me_iconst (v := (1 : Int32)) (q := 72) C dX11_bring_71 (by decide) rfl ?_
          refine me_isub (q := 73) C dX11_bring_72 rfl ?_
          exact me_iret C hE (Nat.le_of_ble_eq_true rfl) (Nat.le_of_ble_eq_true rfl) rfl dX11_bring_73 (mm_ri hf)
        · have hf := mm_if_f c20 hf
          refine me_iconst (v := (-1 : Int32)) (q := 44) C dX11_bring_43 (by decide) rfl ?_
          exact me_iret C hE (Nat.le_of_ble_eq_true rfl) (Nat.le_of_ble_eq_true rfl) rfl dX11_bring_44 (mm_ri hf)
    · have hf := mm_if_f c12 hf
      refine me_iconst (v := (-1 : Int32)) (q := 22) C dX11_bring_21 (by decide) rfl ?_
      exact me_iret C hE (Nat.le_of_ble_eq_true rfl) (Nat.le_of_ble_eq_true rfl) rfl dX11_bring_22 (mm_ri hf)
set_option maxRecDepth 100000 in
set_option maxHeartbeats 4000000 in
theorem cX11_lot_ok (l : Launch) {a0 : Nat} {a1 : Int32} {a2 : Int32} {h : mm_H} {r : Int32} {h1 : mm_H} (hf : fX11_lot a0 a1 a2 h = some (r, h1)) : mm_M l yX11_lot cX11_lot 4 (some .int) 8 0 0 [vR (some a0), vI a1, vI a2] h (some (vI r)) h1 := by
  refine mm_enter (lv := [some (vR (some a0)), some (vI a1), some (vI a2), none]) (by decide) rfl (Nat.le_of_ble_eq_true rfl) ?_
  intro X hl C hE
  subst hl
  unfold fX11_lot at hf
  refine me_iload_n (q := 1) C dX11_lot_0 rfl rfl rfl ?_
  refine me_if_lt (q2 := 15) (q := 4) C dX11_lot_1 (by decide) rfl (fun c1 => ?_) (fun c1 => ?_)
  · have hf := mm_if_t c1 hf
    refine me_iconst (v := (-1 : Int32)) (q := 16) C dX11_lot_15 (by decide) rfl ?_
    exact me_iret C hE (Nat.le_of_ble_eq_true rfl) (Nat.le_of_ble_eq_true rfl) rfl dX11_lot_16 (mm_ri hf)
  · have hf := mm_if_f c1 hf
    refine me_iload_n (q := 5) C dX11_lot_4 rfl rfl rfl ?_
    refine me_aload_n (q := 6) C dX11_lot_5 rfl rfl rfl ?_
    obtain ⟨k2, hf⟩ := mm_ck_some hf
    refine me_getR (q := 9) C dX11_lot_6 mf_X11_16 rfl rfl k2 rfl ?_
    obtain ⟨u3, eu3, hf⟩ := mm_rf_some hf
    obtain ⟨k4, hf⟩ := mm_ck_some hf
    obtain ⟨v5, g6, e7, hf⟩ := mm_cl_some hf
    refine me_callV (q := 12) (c2 := 0) (s2 := 0) (st := [vI a1]) C (cJx4a65c_size_8abf5_ok _ e7) mt_X11_89 mv_Jx4a65c_size_8abf5 rfl (by decide) dX11_lot_9 eu3 k4 rfl rfl rfl (Nat.le_of_ble_eq_true rfl) rfl (Nat.le_of_ble_eq_true rfl) rfl (Nat.le_of_ble_eq_true rfl) rfl rfl ?_
    refine me_icmp_lt (q2 := 17) (q := 15) C dX11_lot_12 (by decide) rfl (fun c8 => ?_) (fun c8 => ?_)
    · have hf := mm_if_t c8 hf
      refine me_aload_n (q := 18) C dX11_lot_17 rfl rfl rfl ?_
      obtain ⟨k9, hf⟩ := mm_ck_some hf
      refine me_getR (q := 21) C dX11_lot_18 mf_X11_16 rfl rfl k9 rfl ?_
      refine me_iload_n (q := 22) C dX11_lot_21 rfl rfl rfl ?_
      obtain ⟨u10, eu10, hf⟩ := mm_rf_some hf
      obtain ⟨k11, hf⟩ := mm_ck_some hf
      obtain ⟨v12, g13, e14, hf⟩ := mm_cl_some hf
      refine me_callV (q := 25) (c2 := 0) (s2 := 0) (st := []) C (cJx4a65c_get_915e3_ok _ e14) mt_X11_151 mv_Jx4a65c_get_915e3 rfl (by decide) dX11_lot_22 eu10 k11 rfl rfl rfl (Nat.le_of_ble_eq_true rfl) rfl (Nat.le_of_ble_eq_true rfl) rfl (Nat.le_of_ble_eq_true rfl) rfl rfl ?_
      obtain ⟨u15, eu15, hf⟩ := mm_rf_some hf
      obtain ⟨k16, hf⟩ := mm_ck_some hf
      refine me_cast (q := 28) C dX11_lot_25 mk_X11_146 eu15 k16 rfl ?_
      refine me_astore_n (q := 29) (lv2 := [some (vR (some a0)), some (vI a1), some (vI a2), some (vR v12)]) C dX11_lot_28 rfl (Nat.le_of_ble_eq_true rfl) rfl rfl rfl ?_
      refine me_iload_n (q := 30) C dX11_lot_29 rfl rfl rfl ?_
      by_cases c17 : a2 = 0
      · have hf := mm_if_t c17 hf
        refine me_tabIn (q := 64) C dX11_lot_30 (by rw [c17]; decide) (by rw [c17]; decide) (by rw [c17]; rfl) (by decide) ?_
        refine me_aload_n (q := 65) C dX11_lot_64 rfl rfl rfl ?_
        refine me_getI (q := 68) C dX11_lot_65 mf_X11_155 rfl eu15 k16 rfl ?_
        exact me_iret C hE (Nat.le_of_ble_eq_true rfl) (Nat.le_of_ble_eq_true rfl) rfl dX11_lot_68 (mm_ri hf)
      have hf := mm_if_f c17 hf
      by_cases c18 : a2 = 1
      · have hf := mm_if_t c18 hf
        refine me_tabIn (q := 69) C dX11_lot_30 (by rw [c18]; decide) (by rw [c18]; decide) (by rw [c18]; rfl) (by decide) ?_
        refine me_aload_n (q := 70) C dX11_lot_69 rfl rfl rfl ?_
        refine me_getI (q := 73) C dX11_lot_70 mf_X11_158 rfl eu15 k16 rfl ?_
        exact me_iret C hE (Nat.le_of_ble_eq_true rfl) (Nat.le_of_ble_eq_true rfl) rfl dX11_lot_73 (mm_ri hf)
      have hf := mm_if_f c18 hf
      by_cases c19 : a2 = 2
      · have hf := mm_if_t c19 hf
        refine me_tabIn (q := 74) C dX11_lot_30 (by rw [c19]; decide) (by rw [c19]; decide) (by rw [c19]; rfl) (by decide) ?_
        refine me_aload_n (q := 75) C dX11_lot_74 rfl rfl rfl ?_
        refine me_getI (q := 78) C dX11_lot_75 mf_X11_161 rfl eu15 k16 rfl ?_
        exact me_iret C hE (Nat.le_of_ble_eq_true rfl) (Nat.le_of_ble_eq_true rfl) rfl dX11_lot_78 (mm_ri hf)
      have hf := mm_if_f c19 hf
      by_cases c20 : a2 = 3
      · have hf := mm_if_t c20 hf
        refine me_tabIn (q := 79) C dX11_lot_30 (by rw [c20]; decide) (by rw [c20]; decide) (by rw [c20]; rfl) (by decide) ?_
        refine me_aload_n (q := 80) C dX11_lot_79 rfl rfl rfl ?_
        refine me_getI (q := 83) C dX11_lot_80 mf_X11_164 rfl eu15 k16 rfl ?_
        exact me_iret C hE (Nat.le_of_ble_eq_true rfl) (Nat.le_of_ble_eq_true rfl) rfl dX11_lot_83 (mm_ri hf)
      have hf := mm_if_f c20 hf
      by_cases c21 : a2 = 4
      · have hf := mm_if_t c21 hf
        refine me_tabIn (q := 84) C dX11_lot_30 (by rw [c21]; decide) (by rw [c21]; decide) (by rw [c21]; rfl) (by decide) ?_
        refine me_aload_n (q := 85) C dX11_lot_84 rfl rfl rfl ?_
        refine me_getI (q := 88) C dX11_lot_85 mf_X11_167 rfl eu15 k16 rfl ?_
        exact me_iret C hE (Nat.le_of_ble_eq_true rfl) (Nat.le_of_ble_eq_true rfl) rfl dX11_lot_88 (mm_ri hf)
      have hf := mm_if_f c21 hf
      refine me_tabOut (q := 89) C dX11_lot_30 ?_ (by decide) ?_
      · by_cases hz : a2.toInt < 0 ∨ 4 < a2.toInt
        · exact hz
        · exfalso
          have hw : a2.toInt = 0 ∨ a2.toInt = 1 ∨ a2.toInt = 2 ∨ a2.toInt = 3 ∨ a2.toInt = 4 := by omega
          rcases hw with hw | hw | hw | hw | hw
          · exact c17 (mm_sw hw)
          · exact c18 (mm_sw hw)
          · exact c19 (mm_sw hw)
          · exact c20 (mm_sw hw)
          · exact c21 (mm_sw hw)
      · refine me_iconst (v := (-1 : Int32)) (q := 90) C dX11_lot_89 (by decide) rfl ?_
        exact me_iret C hE (Nat.le_of_ble_eq_true rfl) (Nat.le_of_ble_eq_true rfl) rfl dX11_lot_90 (mm_ri hf)
    · have hf := mm_if_f c8 hf
      refine me_iconst (v := (-1 : Int32)) (q := 16) C dX11_lot_15 (by decide) rfl ?_
      exact me_iret C hE (Nat.le_of_ble_eq_true rfl) (Nat.le_of_ble_eq_true rfl) rfl dX11_lot_16 (mm_ri hf)
set_option maxRecDepth 100000 in
set_option maxHeartbeats 4000000 in
theorem cX11_owedBy_L5 {X : mm_X} (C : mm_C X cX11_owedBy yX11_owedBy 8 0 0) {r : Int32} {h1 : mm_H} (hE : mm_End X 0 0 (some .int) (some (vI r)) h1) {b0 : Nat} {b1 : Int32} {b2 : Int32} (K78 : Int32 → mm_H → Option (Int32 × mm_H)) : ∀ (n : Nat) (x3 : Int32) (x4 : Int32) (h : mm_H), fX11_owedBy_L5 b0 b1 b2 K78 n x3 x4 h = some (r, h1) → (∀ (y3 : Int32) (h : mm_H), K78 y3 h = some (r, h1) → mm_E X h 0 0 78 [none, none, none, some (vI y3), none, none] []) → mm_E X h 0 0 5 [some (vR (some b0)), some (vI b1), some (vI b2), some (vI x3), some (vI x4), none] [] := by
  intro n
  induction n with
  | zero =>
    intro x3 x4 h hf
    exact absurd (show (none : Option (Int32 × mm_H)) = some (r, h1) from hf) (by simp)
  | succ n ih =>
    intro x3 x4 h hf hk78
    have hf : fX11_owedBy_L5_b b0 b1 b2 K78 (fX11_owedBy_L5 b0 b1 b2 K78 n) x3 x4 h = some (r, h1) := hf
    unfold fX11_owedBy_L5_b at hf
    refine me_iload (q := 7) C dX11_owedBy_5 rfl rfl ?_
    refine me_aload_n (q := 8) C dX11_owedBy_7 rfl rfl rfl ?_
    obtain ⟨k1, hf⟩ := mm_ck_some hf
    refine me_getR (q := 11) C dX11_owedBy_8 mf_X11_19 rfl rfl k1 rfl ?_
    obtain ⟨u2, eu2, hf⟩ := mm_rf_some hf
    obtain ⟨k3, hf⟩ := mm_ck_some hf
    obtain ⟨v4, g5, e6, hf⟩ := mm_cl_some hf
    refine me_callV (q := 14) (c2 := 0) (s2 := 0) (st := [vI x4]) C (cJx4a65c_size_8abf5_ok _ e6) mt_X11_89 mv_Jx4a65c_size_8abf5 rfl (by decide) dX11_owedBy_11 eu2 k3 rfl rfl rfl (Nat.le_of_ble_eq_true rfl) rfl (Nat.le_of_ble_eq_true rfl) rfl (Nat.le_of_ble_eq_true rfl) rfl rfl ?_
    refine me_icmp_ge (q2 := 78) (q := 17) C dX11_owedBy_14 (by decide) rfl (fun c7 => ?_) (fun c7 => ?_)
    · have hf := mm_if_t c7 hf
      refine me_mask [false, false, false, true, false, false] (lv2 := [none, none, none, some (vI x3), none, none]) rfl ?_
      exact hk78 _ _ hf
    · have hf := mm_if_f c7 hf
      refine me_aload_n (q := 18) C dX11_owedBy_17 rfl rfl rfl ?_
      obtain ⟨k8, hf⟩ := mm_ck_some hf
      refine me_getR (q := 21) C dX11_owedBy_18 mf_X11_19 rfl rfl k8 rfl ?_
      refine me_iload (q := 23) C dX11_owedBy_21 rfl rfl ?_
      obtain ⟨u9, eu9, hf⟩ := mm_rf_some hf
      obtain ⟨k10, hf⟩ := mm_ck_some hf
      obtain ⟨v11, g12, e13, hf⟩ := mm_cl_some hf
      refine me_callV (q := 26) (c2 := 0) (s2 := 0) (st := []) C (cJx4a65c_get_915e3_ok _ e13) mt_X11_151 mv_Jx4a65c_get_915e3 rfl (by decide) dX11_owedBy_23 eu9 k10 rfl rfl rfl (Nat.le_of_ble_eq_true rfl) rfl (Nat.le_of_ble_eq_true rfl) rfl (Nat.le_of_ble_eq_true rfl) rfl rfl ?_
      obtain ⟨u14, eu14, hf⟩ := mm_rf_some hf
      obtain ⟨k15, hf⟩ := mm_ck_some hf
      refine me_cast (q := 29) C dX11_owedBy_26 mk_X11_256 eu14 k15 rfl ?_
      refine me_astore (q := 31) (lv2 := [some (vR (some b0)), some (vI b1), some (vI b2), some (vI x3), some (vI x4), some (vR v11)]) C dX11_owedBy_29 (Nat.le_of_ble_eq_true rfl) rfl rfl rfl ?_
      refine me_aload (q := 33) C dX11_owedBy_31 rfl rfl ?_
      refine me_getI (q := 36) C dX11_owedBy_33 mf_X11_279 rfl eu14 k15 rfl ?_
      refine me_iload_n (q := 37) C dX11_owedBy_36 rfl rfl rfl ?_
      obtain ⟨q18, eq18, hf⟩ := mm_jn_some hf
      have Hq18 : ∀ (v16 : Int32) (g17 : mm_H), q18 v16 g17 = some (r, h1) → mm_E X g17 0 0 72 [some (vR (some b0)), some (vI b1), some (vI b2), some (vI v16), some (vI x4), none] [] := by
        intro v16 g17 hf
        subst eq18
        obtain ⟨v19, ev19, hf⟩ := mm_lt_some hf
        refine me_iinc (q := 75) (v := v19) (lv2 := [some (vR (some b0)), some (vI b1), some (vI b2), some (vI v16), some (vI v19), none]) C dX11_owedBy_72 rfl (by rw [ev19]; rfl) (Nat.le_of_ble_eq_true rfl) rfl rfl rfl ?_
        refine me_goto (q := 5) C dX11_owedBy_75 (by decide) ?_
        exact ih _ _ _ hf hk78
      refine me_icmp_ne (q2 := 72) (q := 40) C dX11_owedBy_37 (by decide) rfl (fun c20 => ?_) (fun c20 => ?_)
      · have hf := mm_if_t c20 hf
        refine me_mask [true, true, true, true, true, false] (lv2 := [some (vR (some b0)), some (vI b1), some (vI b2), some (vI x3), some (vI x4), none]) rfl ?_
        exact Hq18 _ _ hf
      · have hf := mm_if_f c20 hf
        refine me_iload_n (q := 41) C dX11_owedBy_40 rfl rfl rfl ?_
        refine me_aload (q := 43) C dX11_owedBy_41 rfl rfl ?_
        obtain ⟨v21, g22, e23, hf⟩ := mm_cl_some hf
        refine me_callV (q := 46) (c2 := 0) (s2 := 0) (st := [vI x3]) C (cX0_allClaims_ok _ e23) mt_X11_496 mv_X0_allClaims rfl (by decide) dX11_owedBy_43 eu14 k15 rfl rfl rfl (Nat.le_of_ble_eq_true rfl) rfl (Nat.le_of_ble_eq_true rfl) rfl (Nat.le_of_ble_eq_true rfl) rfl rfl ?_
        refine me_iadd (q := 47) C dX11_owedBy_46 rfl ?_
        obtain ⟨v24, ev24, hf⟩ := mm_lt_some hf
        refine me_topI ev24 ?_
        refine me_istore_n (q := 48) (lv2 := [some (vR (some b0)), some (vI b1), some (vI b2), some (vI v24), some (vI x4), some (vR v11)]) C dX11_owedBy_47 rfl (Nat.le_of_ble_eq_true rfl) rfl rfl rfl ?_
        refine me_iload_n (q := 49) C dX11_owedBy_48 rfl rfl rfl ?_
        obtain ⟨q25, eq25, hf⟩ := mm_jn_some hf
        have Hq25 : ∀ (_u : Unit), q25 _u = some (r, h1) → mm_E X g22 0 0 64 [some (vR (some b0)), some (vI b1), some (vI b2), some (vI v24), some (vI x4), some (vR v11)] [] := by
          intro _u hf
          subst eq25
          refine me_iload_n (q := 65) C dX11_owedBy_64 rfl rfl rfl ?_
          refine me_aload (q := 67) C dX11_owedBy_65 rfl rfl ?_
          obtain ⟨k26, hf⟩ := mm_ck_some hf
          refine me_getI (q := 70) C dX11_owedBy_67 mf_X11_288 rfl eu14 k26 rfl ?_
          refine me_iadd (q := 71) C dX11_owedBy_70 rfl ?_
          obtain ⟨v27, ev27, hf⟩ := mm_lt_some hf
          refine me_topI ev27 ?_
          refine me_istore_n (q := 72) (lv2 := [some (vR (some b0)), some (vI b1), some (vI b2), some (vI v27), some (vI x4), some (vR v11)]) C dX11_owedBy_71 rfl (Nat.le_of_ble_eq_true rfl) rfl rfl rfl ?_
          refine me_mask [true, true, true, true, true, false] (lv2 := [some (vR (some b0)), some (vI b1), some (vI b2), some (vI v27), some (vI x4), none]) rfl ?_
          exact Hq18 _ _ hf
        refine me_if_eq (q2 := 64) (q := 52) C dX11_owedBy_49 (by decide) rfl (fun c28 => ?_) (fun c28 => ?_)
        · have hf := mm_if_t c28 hf
          exact Hq25 () hf
        · have hf := mm_if_f c28 hf
          refine me_aload (q := 54) C dX11_owedBy_52 rfl rfl ?_
          obtain ⟨k29, hf⟩ := mm_ck_some hf
          refine me_getI (q := 57) C dX11_owedBy_54 mf_X11_291 rfl eu14 k29 rfl ?_
          refine me_aload_n (q := 58) C dX11_owedBy_57 rfl rfl rfl ?_
          obtain ⟨k30, hf⟩ := mm_ck_some hf
          refine me_getI (q := 61) C dX11_owedBy_58 mf_X11_75 rfl rfl k30 rfl ?_
          refine me_icmp_ge (q2 := 72) (q := 64) C dX11_owedBy_61 (by decide) rfl (fun c31 => ?_) (fun c31 => ?_)
          · have hf := mm_if_t c31 hf
            refine me_mask [true, true, true, true, true, false] (lv2 := [some (vR (some b0)), some (vI b1), some (vI b2), some (vI v24), some (vI x4), none]) rfl ?_
            exact Hq18 _ _ hf
          · have hf := mm_if_f c31 hf
            exact Hq25 () hf
set_option maxRecDepth 100000 in
set_option maxHeartbeats 4000000 in
theorem cX11_owedBy_ok (l : Launch) {a0 : Nat} {a1 : Int32} {a2 : Int32} {h : mm_H} {r : Int32} {h1 : mm_H} (hf : fX11_owedBy a0 a1 a2 h = some (r, h1)) : mm_M l yX11_owedBy cX11_owedBy 6 (some .int) 8 0 0 [vR (some a0), vI a1, vI a2] h (some (vI r)) h1 := by
  refine mm_enter (lv := [some (vR (some a0)), some (vI a1), some (vI a2), none, none, none]) (by decide) rfl (Nat.le_of_ble_eq_true rfl) ?_
  intro X hl C hE
  subst hl
  unfold fX11_owedBy at hf
  refine me_iconst (v := (0 : Int32)) (q := 1) C dX11_owedBy_0 (by decide) rfl ?_
  refine me_istore_n (q := 2) (lv2 := [some (vR (some a0)), some (vI a1), some (vI a2), some (vI (0 : Int32)), none, none]) C dX11_owedBy_1 rfl (Nat.le_of_ble_eq_true rfl) rfl rfl rfl ?_
  refine me_iconst (v := (0 : Int32)) (q := 3) C dX11_owedBy_2 (by decide) rfl ?_
  refine me_istore (q := 5) (lv2 := [some (vR (some a0)), some (vI a1), some (vI a2), some (vI (0 : Int32)), some (vI (0 : Int32)), none]) C dX11_owedBy_3 (Nat.le_of_ble_eq_true rfl) rfl rfl rfl ?_
  refine cX11_owedBy_L5 C hE _ _ _ _ _ hf ?_
  · intro z32 g33 hf
    refine me_iload_n (q := 79) C dX11_owedBy_78 rfl rfl rfl ?_
    exact me_iret C hE (Nat.le_of_ble_eq_true rfl) (Nat.le_of_ble_eq_true rfl) rfl dX11_owedBy_79 (mm_ri hf)
set_option maxRecDepth 100000 in
set_option maxHeartbeats 4000000 in
theorem cX11_men_ok (l : Launch) {a0 : Nat} {a1 : Int32} {a2 : Int32} {h : mm_H} {r : Int32} {h1 : mm_H} (hf : fX11_men a0 a1 a2 h = some (r, h1)) : mm_M l yX11_men cX11_men 4 (some .int) 10 0 0 [vR (some a0), vI a1, vI a2] h (some (vI r)) h1 := by
  refine mm_enter (lv := [some (vR (some a0)), some (vI a1), some (vI a2), none]) (by decide) rfl (Nat.le_of_ble_eq_true rfl) ?_
  intro X hl C hE
  subst hl
  unfold fX11_men at hf
  refine me_iload_n (q := 1) C dX11_men_0 rfl rfl rfl ?_
  refine me_if_lt (q2 := 15) (q := 4) C dX11_men_1 (by decide) rfl (fun c1 => ?_) (fun c1 => ?_)
  · have hf := mm_if_t c1 hf
    refine me_iconst (v := (-1 : Int32)) (q := 16) C dX11_men_15 (by decide) rfl ?_
    exact me_iret C hE (Nat.le_of_ble_eq_true rfl) (Nat.le_of_ble_eq_true rfl) rfl dX11_men_16 (mm_ri hf)
  · have hf := mm_if_f c1 hf
    refine me_iload_n (q := 5) C dX11_men_4 rfl rfl rfl ?_
    refine me_aload_n (q := 6) C dX11_men_5 rfl rfl rfl ?_
    obtain ⟨k2, hf⟩ := mm_ck_some hf
    refine me_getR (q := 9) C dX11_men_6 mf_X11_10 rfl rfl k2 rfl ?_
    obtain ⟨u3, eu3, hf⟩ := mm_rf_some hf
    obtain ⟨k4, hf⟩ := mm_ck_some hf
    obtain ⟨v5, g6, e7, hf⟩ := mm_cl_some hf
    refine me_callV (q := 12) (c2 := 0) (s2 := 0) (st := [vI a1]) C (cJx4a65c_size_8abf5_ok _ e7) mt_X11_89 mv_Jx4a65c_size_8abf5 rfl (by decide) dX11_men_9 eu3 k4 rfl rfl rfl (Nat.le_of_ble_eq_true rfl) rfl (Nat.le_of_ble_eq_true rfl) rfl (Nat.le_of_ble_eq_true rfl) rfl rfl ?_
    refine me_icmp_lt (q2 := 17) (q := 15) C dX11_men_12 (by decide) rfl (fun c8 => ?_) (fun c8 => ?_)
    · have hf := mm_if_t c8 hf
      refine me_aload_n (q := 18) C dX11_men_17 rfl rfl rfl ?_
      obtain ⟨k9, hf⟩ := mm_ck_some hf
      refine me_getR (q := 21) C dX11_men_18 mf_X11_10 rfl rfl k9 rfl ?_
      refine me_iload_n (q := 22) C dX11_men_21 rfl rfl rfl ?_
      obtain ⟨u10, eu10, hf⟩ := mm_rf_some hf
      obtain ⟨k11, hf⟩ := mm_ck_some hf
      obtain ⟨v12, g13, e14, hf⟩ := mm_cl_some hf
      refine me_callV (q := 25) (c2 := 0) (s2 := 0) (st := []) C (cJx4a65c_get_915e3_ok _ e14) mt_X11_151 mv_Jx4a65c_get_915e3 rfl (by decide) dX11_men_22 eu10 k11 rfl rfl rfl (Nat.le_of_ble_eq_true rfl) rfl (Nat.le_of_ble_eq_true rfl) rfl (Nat.le_of_ble_eq_true rfl) rfl rfl ?_
      obtain ⟨u15, eu15, hf⟩ := mm_rf_some hf
      obtain ⟨k16, hf⟩ := mm_ck_some hf
      refine me_cast (q := 28) C dX11_men_25 mk_X11_98 eu15 k16 rfl ?_
      refine me_astore_n (q := 29) (lv2 := [some (vR (some a0)), some (vI a1), some (vI a2), some (vR v12)]) C dX11_men_28 rfl (Nat.le_of_ble_eq_true rfl) rfl rfl rfl ?_
      refine me_iload_n (q := 30) C dX11_men_29 rfl rfl rfl ?_
      by_cases c17 : a2 = 0
      · have hf := mm_if_t c17 hf
        refine me_tabIn (q := 76) C dX11_men_30 (by rw [c17]; decide) (by rw [c17]; decide) (by rw [c17]; rfl) (by decide) ?_
        refine me_aload_n (q := 77) C dX11_men_76 rfl rfl rfl ?_
        refine me_getI (q := 80) C dX11_men_77 mf_X11_121 rfl eu15 k16 rfl ?_
        exact me_iret C hE (Nat.le_of_ble_eq_true rfl) (Nat.le_of_ble_eq_true rfl) rfl dX11_men_80 (mm_ri hf)
      have hf := mm_if_f c17 hf
      by_cases c18 : a2 = 1
      · have hf := mm_if_t c18 hf
        refine me_tabIn (q := 81) C dX11_men_30 (by rw [c18]; decide) (by rw [c18]; decide) (by rw [c18]; rfl) (by decide) ?_
        refine me_aload_n (q := 82) C dX11_men_81 rfl rfl rfl ?_
        refine me_getI (q := 85) C dX11_men_82 mf_X11_111 rfl eu15 k16 rfl ?_
        refine me_iconst (v := (-1 : Int32)) (q := 86) C dX11_men_85 (by decide) rfl ?_
        refine me_icmp_ne (q2 := 93) (q := 89) C dX11_men_86 (by decide) rfl (fun c19 => ?_) (fun c19 => ?_)
        · have hf := mm_if_t c19 hf
          refine me_iconst (v := (0 : Int32)) (q := 94) C dX11_men_93 (by decide) rfl ?_
          exact me_iret C hE (Nat.le_of_ble_eq_true rfl) (Nat.le_of_ble_eq_true rfl) rfl dX11_men_94 (mm_ri hf)
        · have hf := mm_if_f c19 hf
          refine me_iconst (v := (1 : Int32)) (q := 90) C dX11_men_89 (by decide) rfl ?_
          refine me_goto (q := 94) C dX11_men_90 (by decide) ?_
          exact me_iret C hE (Nat.le_of_ble_eq_true rfl) (Nat.le_of_ble_eq_true rfl) rfl dX11_men_94 (mm_ri hf)
      have hf := mm_if_f c18 hf
      by_cases c20 : a2 = 2
      · have hf := mm_if_t c20 hf
        refine me_tabIn (q := 95) C dX11_men_30 (by rw [c20]; decide) (by rw [c20]; decide) (by rw [c20]; rfl) (by decide) ?_
        refine me_aload_n (q := 96) C dX11_men_95 rfl rfl rfl ?_
        refine me_getI (q := 99) C dX11_men_96 mf_X11_128 rfl eu15 k16 rfl ?_
        exact me_iret C hE (Nat.le_of_ble_eq_true rfl) (Nat.le_of_ble_eq_true rfl) rfl dX11_men_99 (mm_ri hf)
      have hf := mm_if_f c20 hf
      by_cases c21 : a2 = 3
      · have hf := mm_if_t c21 hf
        refine me_tabIn (q := 100) C dX11_men_30 (by rw [c21]; decide) (by rw [c21]; decide) (by rw [c21]; rfl) (by decide) ?_
        refine me_aload_n (q := 101) C dX11_men_100 rfl rfl rfl ?_
        refine me_iload_n (q := 102) C dX11_men_101 rfl rfl rfl ?_
        refine me_iconst (v := (0 : Int32)) (q := 103) C dX11_men_102 (by decide) rfl ?_
        obtain ⟨k22, hf⟩ := mm_ck_some hf
        obtain ⟨v23, g24, e25, hf⟩ := mm_cl_some hf
        refine me_callV (q := 106) (c2 := 0) (s2 := 0) (st := []) C (cX11_owedBy_ok _ e25) mt_X11_170 mv_X11_owedBy rfl (by decide) dX11_men_103 rfl k22 rfl rfl rfl (Nat.le_of_ble_eq_true rfl) rfl (Nat.le_of_ble_eq_true rfl) rfl (Nat.le_of_ble_eq_true rfl) rfl rfl ?_
        exact me_iret C hE (Nat.le_of_ble_eq_true rfl) (Nat.le_of_ble_eq_true rfl) rfl dX11_men_106 (mm_ri hf)
      have hf := mm_if_f c21 hf
      by_cases c26 : a2 = 4
      · have hf := mm_if_t c26 hf
        refine me_tabIn (q := 107) C dX11_men_30 (by rw [c26]; decide) (by rw [c26]; decide) (by rw [c26]; rfl) (by decide) ?_
        refine me_aload_n (q := 108) C dX11_men_107 rfl rfl rfl ?_
        refine me_iload_n (q := 109) C dX11_men_108 rfl rfl rfl ?_
        refine me_iconst (v := (1 : Int32)) (q := 110) C dX11_men_109 (by decide) rfl ?_
        obtain ⟨k27, hf⟩ := mm_ck_some hf
        obtain ⟨v28, g29, e30, hf⟩ := mm_cl_some hf
        refine me_callV (q := 113) (c2 := 0) (s2 := 0) (st := []) C (cX11_owedBy_ok _ e30) mt_X11_170 mv_X11_owedBy rfl (by decide) dX11_men_110 rfl k27 rfl rfl rfl (Nat.le_of_ble_eq_true rfl) rfl (Nat.le_of_ble_eq_true rfl) rfl (Nat.le_of_ble_eq_true rfl) rfl rfl ?_
        exact me_iret C hE (Nat.le_of_ble_eq_true rfl) (Nat.le_of_ble_eq_true rfl) rfl dX11_men_113 (mm_ri hf)
      have hf := mm_if_f c26 hf
      by_cases c31 : a2 = 5
      · have hf := mm_if_t c31 hf
        refine me_tabIn (q := 114) C dX11_men_30 (by rw [c31]; decide) (by rw [c31]; decide) (by rw [c31]; rfl) (by decide) ?_
        refine me_aload_n (q := 115) C dX11_men_114 rfl rfl rfl ?_
        refine me_getI (q := 118) C dX11_men_115 mf_X11_174 rfl eu15 k16 rfl ?_
        refine me_if_eq (q2 := 125) (q := 121) C dX11_men_118 (by decide) rfl (fun c32 => ?_) (fun c32 => ?_)
        · have hf := mm_if_t c32 hf
          refine me_iconst (v := (0 : Int32)) (q := 126) C dX11_men_125 (by decide) rfl ?_
          exact me_iret C hE (Nat.le_of_ble_eq_true rfl) (Nat.le_of_ble_eq_true rfl) rfl dX11_men_126 (mm_ri hf)
        · have hf := mm_if_f c32 hf
          refine me_iconst (v := (1 : Int32)) (q := 122) C dX11_men_121 (by decide) rfl ?_
          refine me_goto (q := 126) C dX11_men_122 (by decide) ?_
          exact me_iret C hE (Nat.le_of_ble_eq_true rfl) (Nat.le_of_ble_eq_true rfl) rfl dX11_men_126 (mm_ri hf)
      have hf := mm_if_f c31 hf
      by_cases c33 : a2 = 6
      · have hf := mm_if_t c33 hf
        refine me_tabIn (q := 127) C dX11_men_30 (by rw [c33]; decide) (by rw [c33]; decide) (by rw [c33]; rfl) (by decide) ?_
        refine me_aload_n (q := 128) C dX11_men_127 rfl rfl rfl ?_
        refine me_getI (q := 131) C dX11_men_128 mf_X11_178 rfl eu15 k16 rfl ?_
        exact me_iret C hE (Nat.le_of_ble_eq_true rfl) (Nat.le_of_ble_eq_true rfl) rfl dX11_men_131 (mm_ri hf)
      have hf := mm_if_f c33 hf
      by_cases c34 : a2 = 7
      · have hf := mm_if_t c34 hf
        refine me_tabIn (q := 132) C dX11_men_30 (by rw [c34]; decide) (by rw [c34]; decide) (by rw [c34]; rfl) (by decide) ?_
        refine me_aload_n (q := 133) C dX11_men_132 rfl rfl rfl ?_
        refine me_getI (q := 136) C dX11_men_133 mf_X11_111 rfl eu15 k16 rfl ?_
        exact me_iret C hE (Nat.le_of_ble_eq_true rfl) (Nat.le_of_ble_eq_true rfl) rfl dX11_men_136 (mm_ri hf)
      have hf := mm_if_f c34 hf
      refine me_tabOut (q := 137) C dX11_men_30 ?_ (by decide) ?_
      · by_cases hz : a2.toInt < 0 ∨ 7 < a2.toInt
        · exact hz
        · exfalso
          have hw : a2.toInt = 0 ∨ a2.toInt = 1 ∨ a2.toInt = 2 ∨ a2.toInt = 3 ∨ a2.toInt = 4 ∨ a2.toInt = 5 ∨ a2.toInt = 6 ∨ a2.toInt = 7 := by omega
          rcases hw with hw | hw | hw | hw | hw | hw | hw | hw
          · exact c17 (mm_sw hw)
          · exact c18 (mm_sw hw)
          · exact c20 (mm_sw hw)
          · exact c21 (mm_sw hw)
          · exact c26 (mm_sw hw)
          · exact c31 (mm_sw hw)
          · exact c33 (mm_sw hw)
          · exact c34 (mm_sw hw)
      · refine me_iconst (v := (-1 : Int32)) (q := 138) C dX11_men_137 (by decide) rfl ?_
        exact me_iret C hE (Nat.le_of_ble_eq_true rfl) (Nat.le_of_ble_eq_true rfl) rfl dX11_men_138 (mm_ri hf)
    · have hf := mm_if_f c8 hf
      refine me_iconst (v := (-1 : Int32)) (q := 16) C dX11_men_15 (by decide) rfl ?_
      exact me_iret C hE (Nat.le_of_ble_eq_true rfl) (Nat.le_of_ble_eq_true rfl) rfl dX11_men_16 (mm_ri hf)
set_option maxRecDepth 100000 in
set_option maxHeartbeats 4000000 in
theorem cX11_feed_ok (l : Launch) {a0 : Nat} {a1 : Int32} {a2 : Int32} {a3 : Int32} {a4 : Int32} {a5 : Int32} {h : mm_H} {r : Int32} {h1 : mm_H} (hf : fX11_feed a0 a1 a2 a3 a4 a5 h = some (r, h1)) : mm_M l yX11_feed cX11_feed 6 (some .int) 6 0 0 [vR (some a0), vI a1, vI a2, vI a3, vI a4, vI a5] h (some (vI r)) h1 := by
  refine mm_enter (lv := [some (vR (some a0)), some (vI a1), some (vI a2), some (vI a3), some (vI a4), some (vI a5)]) (by decide) rfl (Nat.le_of_ble_eq_true rfl) ?_
  intro X hl C hE
  subst hl
  unfold fX11_feed at hf
  refine me_aload_n (q := 1) C dX11_feed_0 rfl rfl rfl ?_
  obtain ⟨k1, hf⟩ := mm_ck_some hf
  refine me_getR (q := 4) C dX11_feed_1 mf_X11_29 rfl rfl k1 rfl ?_
  refine me_bipush (v := (20 : Int32)) (q := 6) C dX11_feed_4 (by decide) rfl ?_
  obtain ⟨u2, eu2, hf⟩ := mm_rf_some hf
  obtain ⟨k3, hf⟩ := mm_ck_some hf
  obtain ⟨v4, g5, e6, hf⟩ := mm_cl_some hf
  refine me_callV (q := 9) (c2 := 0) (s2 := 0) (st := []) C (cX5_hasRoomFor_ok _ e6) mt_X11_181 mv_X5_hasRoomFor rfl (by decide) dX11_feed_6 eu2 k3 rfl rfl rfl (Nat.le_of_ble_eq_true rfl) rfl (Nat.le_of_ble_eq_true rfl) rfl (Nat.le_of_ble_eq_true rfl) rfl rfl ?_
  refine me_if_ne (q2 := 14) (q := 12) C dX11_feed_9 (by decide) rfl (fun c7 => ?_) (fun c7 => ?_)
  · have hf := mm_if_t c7 hf
    refine me_aload_n (q := 15) C dX11_feed_14 rfl rfl rfl ?_
    obtain ⟨k8, hf⟩ := mm_ck_some hf
    refine me_getR (q := 18) C dX11_feed_15 mf_X11_29 rfl rfl k8 rfl ?_
    refine me_iload_n (q := 19) C dX11_feed_18 rfl rfl rfl ?_
    obtain ⟨u9, eu9, hf⟩ := mm_rf_some hf
    obtain ⟨k10, hf⟩ := mm_ck_some hf
    obtain ⟨_, g11, e12, hf⟩ := mm_cl_some hf
    refine me_callV (q := 22) (c2 := 0) (s2 := 0) (st := []) C (cX5_write_ok _ e12) mt_X11_185 mv_X5_write rfl (by decide) dX11_feed_19 eu9 k10 rfl rfl rfl (Nat.le_of_ble_eq_true rfl) rfl (Nat.le_of_ble_eq_true rfl) rfl (Nat.le_of_ble_eq_true rfl) rfl rfl ?_
    refine me_aload_n (q := 23) C dX11_feed_22 rfl rfl rfl ?_
    obtain ⟨k13, hf⟩ := mm_ck_some hf
    refine me_getR (q := 26) C dX11_feed_23 mf_X11_29 rfl rfl k13 rfl ?_
    refine me_iload_n (q := 27) C dX11_feed_26 rfl rfl rfl ?_
    obtain ⟨u14, eu14, hf⟩ := mm_rf_some hf
    obtain ⟨k15, hf⟩ := mm_ck_some hf
    obtain ⟨_, g16, e17, hf⟩ := mm_cl_some hf
    refine me_callV (q := 30) (c2 := 0) (s2 := 0) (st := []) C (cX5_write_ok _ e17) mt_X11_185 mv_X5_write rfl (by decide) dX11_feed_27 eu14 k15 rfl rfl rfl (Nat.le_of_ble_eq_true rfl) rfl (Nat.le_of_ble_eq_true rfl) rfl (Nat.le_of_ble_eq_true rfl) rfl rfl ?_
    refine me_aload_n (q := 31) C dX11_feed_30 rfl rfl rfl ?_
    obtain ⟨k18, hf⟩ := mm_ck_some hf
    refine me_getR (q := 34) C dX11_feed_31 mf_X11_29 rfl rfl k18 rfl ?_
    refine me_iload_n (q := 35) C dX11_feed_34 rfl rfl rfl ?_
    obtain ⟨u19, eu19, hf⟩ := mm_rf_some hf
    obtain ⟨k20, hf⟩ := mm_ck_some hf
    obtain ⟨_, g21, e22, hf⟩ := mm_cl_some hf
    refine me_callV (q := 38) (c2 := 0) (s2 := 0) (st := []) C (cX5_write_ok _ e22) mt_X11_185 mv_X5_write rfl (by decide) dX11_feed_35 eu19 k20 rfl rfl rfl (Nat.le_of_ble_eq_true rfl) rfl (Nat.le_of_ble_eq_true rfl) rfl (Nat.le_of_ble_eq_true rfl) rfl rfl ?_
    refine me_aload_n (q := 39) C dX11_feed_38 rfl rfl rfl ?_
    obtain ⟨k23, hf⟩ := mm_ck_some hf
    refine me_getR (q := 42) C dX11_feed_39 mf_X11_29 rfl rfl k23 rfl ?_
    refine me_iload (q := 44) C dX11_feed_42 rfl rfl ?_
    obtain ⟨u24, eu24, hf⟩ := mm_rf_some hf
    obtain ⟨k25, hf⟩ := mm_ck_some hf
    obtain ⟨_, g26, e27, hf⟩ := mm_cl_some hf
    refine me_callV (q := 47) (c2 := 0) (s2 := 0) (st := []) C (cX5_write_ok _ e27) mt_X11_185 mv_X5_write rfl (by decide) dX11_feed_44 eu24 k25 rfl rfl rfl (Nat.le_of_ble_eq_true rfl) rfl (Nat.le_of_ble_eq_true rfl) rfl (Nat.le_of_ble_eq_true rfl) rfl rfl ?_
    refine me_aload_n (q := 48) C dX11_feed_47 rfl rfl rfl ?_
    obtain ⟨k28, hf⟩ := mm_ck_some hf
    refine me_getR (q := 51) C dX11_feed_48 mf_X11_29 rfl rfl k28 rfl ?_
    refine me_iload (q := 53) C dX11_feed_51 rfl rfl ?_
    obtain ⟨u29, eu29, hf⟩ := mm_rf_some hf
    obtain ⟨k30, hf⟩ := mm_ck_some hf
    obtain ⟨_, g31, e32, hf⟩ := mm_cl_some hf
    refine me_callV (q := 56) (c2 := 0) (s2 := 0) (st := []) C (cX5_write_ok _ e32) mt_X11_185 mv_X5_write rfl (by decide) dX11_feed_53 eu29 k30 rfl rfl rfl (Nat.le_of_ble_eq_true rfl) rfl (Nat.le_of_ble_eq_true rfl) rfl (Nat.le_of_ble_eq_true rfl) rfl rfl ?_
    refine me_aload_n (q := 57) C dX11_feed_56 rfl rfl rfl ?_
    obtain ⟨k33, hf⟩ := mm_ck_some hf
    refine me_getR (q := 60) C dX11_feed_57 mf_X11_29 rfl rfl k33 rfl ?_
    obtain ⟨u34, eu34, hf⟩ := mm_rf_some hf
    obtain ⟨k35, hf⟩ := mm_ck_some hf
    refine me_getI (q := 63) C dX11_feed_60 mf_X11_188 rfl eu34 k35 rfl ?_
    exact me_iret C hE (Nat.le_of_ble_eq_true rfl) (Nat.le_of_ble_eq_true rfl) rfl dX11_feed_63 (mm_ri hf)
  · have hf := mm_if_f c7 hf
    refine me_iconst (v := (-1 : Int32)) (q := 13) C dX11_feed_12 (by decide) rfl ?_
    exact me_iret C hE (Nat.le_of_ble_eq_true rfl) (Nat.le_of_ble_eq_true rfl) rfl dX11_feed_13 (mm_ri hf)
set_option maxRecDepth 100000 in
set_option maxHeartbeats 4000000 in
theorem cX11_end_ok (l : Launch) {a0 : Nat} {a1 : Int32} {h : mm_H} {r : Int32} {h1 : mm_H} (hf : fX11_end a0 a1 h = some (r, h1)) : mm_M l yX11_end cX11_end 2 (some .int) 2 0 0 [vR (some a0), vI a1] h (some (vI r)) h1 := by
  refine mm_enter (lv := [some (vR (some a0)), some (vI a1)]) (by decide) rfl (Nat.le_of_ble_eq_true rfl) ?_
  intro X hl C hE
  subst hl
  unfold fX11_end at hf
  refine me_iload_n (q := 1) C dX11_end_0 rfl rfl rfl ?_
  refine me_if_lt (q2 := 15) (q := 4) C dX11_end_1 (by decide) rfl (fun c1 => ?_) (fun c1 => ?_)
  · have hf := mm_if_t c1 hf
    refine me_iconst (v := (-1 : Int32)) (q := 16) C dX11_end_15 (by decide) rfl ?_
    exact me_iret C hE (Nat.le_of_ble_eq_true rfl) (Nat.le_of_ble_eq_true rfl) rfl dX11_end_16 (mm_ri hf)
  · have hf := mm_if_f c1 hf
    refine me_iload_n (q := 5) C dX11_end_4 rfl rfl rfl ?_
    refine me_aload_n (q := 6) C dX11_end_5 rfl rfl rfl ?_
    obtain ⟨k2, hf⟩ := mm_ck_some hf
    refine me_getR (q := 9) C dX11_end_6 mf_X11_29 rfl rfl k2 rfl ?_
    obtain ⟨u3, eu3, hf⟩ := mm_rf_some hf
    obtain ⟨k4, hf⟩ := mm_ck_some hf
    refine me_getI (q := 12) C dX11_end_9 mf_X11_188 rfl eu3 k4 rfl ?_
    refine me_icmp_le (q2 := 17) (q := 15) C dX11_end_12 (by decide) rfl (fun c5 => ?_) (fun c5 => ?_)
    · have hf := mm_if_t c5 hf
      refine me_aload_n (q := 18) C dX11_end_17 rfl rfl rfl ?_
      refine me_getR (q := 21) C dX11_end_18 mf_X11_29 rfl rfl k2 rfl ?_
      refine me_iload_n (q := 22) C dX11_end_21 rfl rfl rfl ?_
      obtain ⟨g6, eg6, hf⟩ := mm_lt_some hf
      refine me_putI (q := 25) C eg6 dX11_end_22 mf_X11_188 mp_X11_6_1 rfl (by decide) eu3 k4 rfl ?_
      refine me_iload_n (q := 26) C dX11_end_25 rfl rfl rfl ?_
      exact me_iret C hE (Nat.le_of_ble_eq_true rfl) (Nat.le_of_ble_eq_true rfl) rfl dX11_end_26 (mm_ri hf)
    · have hf := mm_if_f c5 hf
      refine me_iconst (v := (-1 : Int32)) (q := 16) C dX11_end_15 (by decide) rfl ?_
      exact me_iret C hE (Nat.le_of_ble_eq_true rfl) (Nat.le_of_ble_eq_true rfl) rfl dX11_end_16 (mm_ri hf)
set_option maxRecDepth 100000 in
set_option maxHeartbeats 4000000 in
theorem cX11_law_ok (l : Launch) {a0 : Nat} {a1 : Int32} {a2 : Int32} {h : mm_H} {r : Int32} {h1 : mm_H} (hf : fX11_law a0 a1 a2 h = some (r, h1)) : mm_M l yX11_law cX11_law 5 (some .int) 90 6 843 [vR (some a0), vI a1, vI a2] h (some (vI r)) h1 := by
  refine mm_enter (lv := [some (vR (some a0)), some (vI a1), some (vI a2), none, none]) (by decide) rfl (Nat.le_of_ble_eq_true rfl) ?_
  intro X hl C hE
  subst hl
  unfold fX11_law at hf
  refine me_aload_n (q := 1) C dX11_law_0 rfl rfl rfl ?_
  obtain ⟨k1, hf⟩ := mm_ck_some hf
  refine me_getR (q := 4) C dX11_law_1 mf_X11_36 rfl rfl k1 rfl ?_
  obtain ⟨u2, eu2, hf⟩ := mm_rf_some hf
  obtain ⟨k3, hf⟩ := mm_ck_some hf
  refine me_getR (q := 7) C dX11_law_4 mf_X11_191 rfl eu2 k3 rfl ?_
  obtain ⟨u4, eu4, hf⟩ := mm_rf_some hf
  obtain ⟨k5, hf⟩ := mm_ck_some hf
  obtain ⟨v6, g7, e8, hf⟩ := mm_cl_some hf
  refine me_callV (q := 10) (c2 := 0) (s2 := 0) (st := []) C (cJx4a65c_size_8abf5_ok _ e8) mt_X11_89 mv_Jx4a65c_size_8abf5 rfl (by decide) dX11_law_7 eu4 k5 rfl rfl rfl (Nat.le_of_ble_eq_true rfl) rfl (Nat.le_of_ble_eq_true rfl) rfl (Nat.le_of_ble_eq_true rfl) rfl rfl ?_
  refine me_bipush (v := (30 : Int32)) (q := 12) C dX11_law_10 (by decide) rfl ?_
  refine me_icmp_ge (q2 := 24) (q := 15) C dX11_law_12 (by decide) rfl (fun c9 => ?_) (fun c9 => ?_)
  · have hf := mm_if_t c9 hf
    refine me_iconst (v := (-1 : Int32)) (q := 25) C dX11_law_24 (by decide) rfl ?_
    exact me_iret C hE (Nat.le_of_ble_eq_true rfl) (Nat.le_of_ble_eq_true rfl) rfl dX11_law_25 (mm_ri hf)
  · have hf := mm_if_f c9 hf
    refine me_iload_n (q := 16) C dX11_law_15 rfl rfl rfl ?_
    refine me_iconst (v := (0 : Int32)) (q := 17) C dX11_law_16 (by decide) rfl ?_
    refine me_iconst (v := (2 : Int32)) (q := 18) C dX11_law_17 (by decide) rfl ?_
    obtain ⟨v10, g11, e12, hf⟩ := mm_cl_some hf
    refine me_callS (q := 21) (c2 := 0) (s2 := 0) (st := []) C (cX11_within_ok _ e12) mt_X11_93 ms_X11_within dX11_law_18 rfl rfl rfl (Nat.le_of_ble_eq_true rfl) rfl (Nat.le_of_ble_eq_true rfl) rfl (Nat.le_of_ble_eq_true rfl) rfl rfl ?_
    refine me_if_ne (q2 := 26) (q := 24) C dX11_law_21 (by decide) rfl (fun c13 => ?_) (fun c13 => ?_)
    · have hf := mm_if_t c13 hf
      refine me_iload_n (q := 27) C dX11_law_26 rfl rfl rfl ?_
      refine me_iconst (v := (1 : Int32)) (q := 28) C dX11_law_27 (by decide) rfl ?_
      obtain ⟨q15, eq15, hf⟩ := mm_jn_some hf
      have Hq15 : ∀ (g14 : mm_H), q15 g14 = some (r, h1) → mm_E X g14 0 0 47 [some (vR (some a0)), some (vI a1), some (vI a2), none, none] [] := by
        intro g14 hf
        subst eq15
        refine me_aload_n (q := 48) C dX11_law_47 rfl rfl rfl ?_
        obtain ⟨k16, hf⟩ := mm_ck_some hf
        refine me_getR (q := 51) C dX11_law_48 mf_X11_29 rfl rfl k16 rfl ?_
        obtain ⟨u17, eu17, hf⟩ := mm_rf_some hf
        obtain ⟨k18, hf⟩ := mm_ck_some hf
        obtain ⟨v19, g20, e21, hf⟩ := mm_cl_some hf
        refine me_callV (q := 54) (c2 := 0) (s2 := 0) (st := []) C (cX5_readTape_ok _ e21) mt_X11_194 mv_X5_readTape rfl (by decide) dX11_law_51 eu17 k18 rfl rfl rfl (Nat.le_of_ble_eq_true rfl) rfl (Nat.le_of_ble_eq_true rfl) rfl (Nat.le_of_ble_eq_true rfl) rfl rfl ?_
        refine me_istore_n (q := 55) (lv2 := [some (vR (some a0)), some (vI a1), some (vI a2), some (vI v19), none]) C dX11_law_54 rfl (Nat.le_of_ble_eq_true rfl) rfl rfl rfl ?_
        refine me_aload_n (q := 56) C dX11_law_55 rfl rfl rfl ?_
        obtain ⟨k22, hf⟩ := mm_ck_some hf
        refine me_getR (q := 59) C dX11_law_56 mf_X11_29 rfl rfl k22 rfl ?_
        refine me_iconst (v := (0 : Int32)) (q := 60) C dX11_law_59 (by decide) rfl ?_
        obtain ⟨u23, eu23, hf⟩ := mm_rf_some hf
        obtain ⟨k24, hf⟩ := mm_ck_some hf
        obtain ⟨g25, eg25, hf⟩ := mm_lt_some hf
        refine me_putI (q := 63) C eg25 dX11_law_60 mf_X11_188 mp_X11_6_1 rfl (by decide) eu23 k24 rfl ?_
        refine me_iload_n (q := 64) C dX11_law_63 rfl rfl rfl ?_
        refine me_if_eq (q2 := 72) (q := 67) C dX11_law_64 (by decide) rfl (fun c26 => ?_) (fun c26 => ?_)
        · have hf := mm_if_t c26 hf
          refine me_iload_n (q := 73) C dX11_law_72 rfl rfl rfl ?_
          obtain ⟨q28, eq28, hf⟩ := mm_jn_some hf
          have Hq28 : ∀ (v27 : Int32), q28 v27 = some (r, h1) → mm_E X g25 0 0 93 [some (vR (some a0)), some (vI a1), none, none, none] [vI v27] := by
            intro v27 hf
            subst eq28
            refine me_istore (q := 95) (lv2 := [some (vR (some a0)), some (vI a1), none, none, some (vI v27)]) C dX11_law_93 (Nat.le_of_ble_eq_true rfl) rfl rfl rfl ?_
            refine me_aload_n (q := 96) C dX11_law_95 rfl rfl rfl ?_
            refine me_getR (q := 99) C dX11_law_96 mf_X11_36 rfl rfl (mm_kI eg25 k22) rfl ?_
            obtain ⟨u29, eu29, hf⟩ := mm_rf_some hf
            obtain ⟨k30, hf⟩ := mm_ck_some hf
            refine me_getR (q := 102) C dX11_law_99 mf_X11_191 rfl eu29 k30 rfl ?_
            refine me_aload_n (q := 103) C dX11_law_102 rfl rfl rfl ?_
            refine me_getR (q := 106) C dX11_law_103 mf_X11_29 rfl rfl (mm_kI eg25 k22) rfl ?_
            refine me_iload_n (q := 107) C dX11_law_106 rfl rfl rfl ?_
            refine me_iload (q := 109) C dX11_law_107 rfl rfl ?_
            refine me_aload_n (q := 110) C dX11_law_109 rfl rfl rfl ?_
            refine me_getI (q := 113) C dX11_law_110 mf_X11_75 rfl rfl (mm_kI eg25 k22) rfl ?_
            obtain ⟨u31, eu31, hf⟩ := mm_rf_some hf
            obtain ⟨k32, hf⟩ := mm_ck_some hf
            obtain ⟨v33, g34, e35, hf⟩ := mm_cl_some hf
            refine me_callV (q := 116) (c2 := 4) (s2 := 427) (st := [vR (mm_r g25 u29 0)]) C (cX5_lawOf_ok _ e35) mt_X11_197 mv_X5_lawOf rfl (by decide) dX11_law_113 eu31 k32 rfl rfl rfl (Nat.le_of_ble_eq_true rfl) rfl (Nat.le_of_ble_eq_true rfl) rfl (Nat.le_of_ble_eq_true rfl) rfl rfl ?_
            obtain ⟨u36, eu36, hf⟩ := mm_rf_some hf
            obtain ⟨k37, hf⟩ := mm_ck_some hf
            obtain ⟨u38, eu38, hf⟩ := mm_rf_some hf
            obtain ⟨v39, g40, e41, hf⟩ := mm_cl_some hf
            refine me_callV (q := 119) (c2 := 6) (s2 := 843) (st := []) C (cJx4a65c_add_9ea2d_ok _ e41) mt_X11_103 mv_Jx4a65c_add_9ea2d rfl (by decide) dX11_law_116 eu36 k37 (by rw [eu38]; rfl) rfl rfl (Nat.le_of_ble_eq_true rfl) rfl (Nat.le_of_ble_eq_true rfl) rfl (Nat.le_of_ble_eq_true rfl) rfl rfl ?_
            refine me_pop (q := 120) C dX11_law_119 rfl rfl ?_
            refine me_aload_n (q := 121) C dX11_law_120 rfl rfl rfl ?_
            obtain ⟨k42, hf⟩ := mm_ck_some hf
            refine me_getR (q := 124) C dX11_law_121 mf_X11_36 rfl rfl k42 rfl ?_
            obtain ⟨u43, eu43, hf⟩ := mm_rf_some hf
            obtain ⟨k44, hf⟩ := mm_ck_some hf
            refine me_getR (q := 127) C dX11_law_124 mf_X11_191 rfl eu43 k44 rfl ?_
            obtain ⟨u45, eu45, hf⟩ := mm_rf_some hf
            obtain ⟨k46, hf⟩ := mm_ck_some hf
            obtain ⟨v47, g48, e49, hf⟩ := mm_cl_some hf
            refine me_callV (q := 130) (c2 := 6) (s2 := 843) (st := []) C (cJx4a65c_size_8abf5_ok _ e49) mt_X11_89 mv_Jx4a65c_size_8abf5 rfl (by decide) dX11_law_127 eu45 k46 rfl rfl rfl (Nat.le_of_ble_eq_true rfl) rfl (Nat.le_of_ble_eq_true rfl) rfl (Nat.le_of_ble_eq_true rfl) rfl rfl ?_
            refine me_iconst (v := (1 : Int32)) (q := 131) C dX11_law_130 (by decide) rfl ?_
            refine me_isub (q := 132) C dX11_law_131 rfl ?_
            exact me_iret C hE (Nat.le_of_ble_eq_true rfl) (Nat.le_of_ble_eq_true rfl) rfl dX11_law_132 (mm_ri hf)
          refine me_if_ne (q2 := 83) (q := 76) C dX11_law_73 (by decide) rfl (fun c50 => ?_) (fun c50 => ?_)
          · have hf := mm_if_t c50 hf
            refine me_iload_n (q := 84) C dX11_law_83 rfl rfl rfl ?_
            refine me_iconst (v := (1 : Int32)) (q := 85) C dX11_law_84 (by decide) rfl ?_
            refine me_icmp_ne (q2 := 92) (q := 88) C dX11_law_85 (by decide) rfl (fun c51 => ?_) (fun c51 => ?_)
            · have hf := mm_if_t c51 hf
              refine me_iconst (v := (-1 : Int32)) (q := 93) C dX11_law_92 (by decide) rfl ?_
              refine me_mask [true, true, false, false, false] (lv2 := [some (vR (some a0)), some (vI a1), none, none, none]) rfl ?_
              exact Hq28 _ hf
            · have hf := mm_if_f c51 hf
              refine me_iload_n (q := 89) C dX11_law_88 rfl rfl rfl ?_
              refine me_goto (q := 93) C dX11_law_89 (by decide) ?_
              refine me_mask [true, true, false, false, false] (lv2 := [some (vR (some a0)), some (vI a1), none, none, none]) rfl ?_
              exact Hq28 _ hf
          · have hf := mm_if_f c50 hf
            refine me_aload_n (q := 77) C dX11_law_76 rfl rfl rfl ?_
            refine me_getI (q := 80) C dX11_law_77 mf_X11_75 rfl rfl (mm_kI eg25 k22) rfl ?_
            refine me_goto (q := 93) C dX11_law_80 (by decide) ?_
            refine me_mask [true, true, false, false, false] (lv2 := [some (vR (some a0)), some (vI a1), none, none, none]) rfl ?_
            exact Hq28 _ hf
        · have hf := mm_if_f c26 hf
          refine me_bipush (v := (-2 : Int32)) (q := 69) C dX11_law_67 (by decide) rfl ?_
          refine me_iload_n (q := 70) C dX11_law_69 rfl rfl rfl ?_
          refine me_isub (q := 71) C dX11_law_70 rfl ?_
          exact me_iret C hE (Nat.le_of_ble_eq_true rfl) (Nat.le_of_ble_eq_true rfl) rfl dX11_law_71 (mm_ri hf)
      refine me_icmp_ne (q2 := 47) (q := 31) C dX11_law_28 (by decide) rfl (fun c52 => ?_) (fun c52 => ?_)
      · have hf := mm_if_t c52 hf
        exact Hq15 _ hf
      · have hf := mm_if_f c52 hf
        refine me_iload_n (q := 32) C dX11_law_31 rfl rfl rfl ?_
        refine me_aload_n (q := 33) C dX11_law_32 rfl rfl rfl ?_
        obtain ⟨k53, hf⟩ := mm_ck_some hf
        refine me_getI (q := 36) C dX11_law_33 mf_X11_75 rfl rfl k53 rfl ?_
        refine me_sipush (v := (3999 : Int32)) (q := 39) C dX11_law_36 (by decide) rfl ?_
        obtain ⟨v54, g55, e56, hf⟩ := mm_cl_some hf
        refine me_callS (q := 42) (c2 := 0) (s2 := 0) (st := []) C (cX11_within_ok _ e56) mt_X11_93 ms_X11_within dX11_law_39 rfl rfl rfl (Nat.le_of_ble_eq_true rfl) rfl (Nat.le_of_ble_eq_true rfl) rfl (Nat.le_of_ble_eq_true rfl) rfl rfl ?_
        refine me_if_ne (q2 := 47) (q := 45) C dX11_law_42 (by decide) rfl (fun c57 => ?_) (fun c57 => ?_)
        · have hf := mm_if_t c57 hf
          exact Hq15 _ hf
        · have hf := mm_if_f c57 hf
          refine me_iconst (v := (-1 : Int32)) (q := 46) C dX11_law_45 (by decide) rfl ?_
          exact me_iret C hE (Nat.le_of_ble_eq_true rfl) (Nat.le_of_ble_eq_true rfl) rfl dX11_law_46 (mm_ri hf)
    · have hf := mm_if_f c13 hf
      refine me_iconst (v := (-1 : Int32)) (q := 25) C dX11_law_24 (by decide) rfl ?_
      exact me_iret C hE (Nat.le_of_ble_eq_true rfl) (Nat.le_of_ble_eq_true rfl) rfl dX11_law_25 (mm_ri hf)
set_option maxRecDepth 100000 in
set_option maxHeartbeats 4000000 in
theorem cX11_read_ok (l : Launch) {a0 : Nat} {a1 : Int32} {h : mm_H} {r : Int32} {h1 : mm_H} (hf : fX11_read a0 a1 h = some (r, h1)) : mm_M l yX11_read cX11_read 3 (some .boolean) 10 0 0 [vR (some a0), vI a1] h (some (vI r)) h1 := by
  refine mm_enter (lv := [some (vR (some a0)), some (vI a1), none]) (by decide) rfl (Nat.le_of_ble_eq_true rfl) ?_
  intro X hl C hE
  subst hl
  unfold fX11_read at hf
  refine me_aload_n (q := 1) C dX11_read_0 rfl rfl rfl ?_
  obtain ⟨k1, hf⟩ := mm_ck_some hf
  refine me_getR (q := 4) C dX11_read_1 mf_X11_36 rfl rfl k1 rfl ?_
  refine me_iload_n (q := 5) C dX11_read_4 rfl rfl rfl ?_
  obtain ⟨u2, eu2, hf⟩ := mm_rf_some hf
  obtain ⟨k3, hf⟩ := mm_ck_some hf
  obtain ⟨v4, g5, e6, hf⟩ := mm_cl_some hf
  refine me_callV (q := 8) (c2 := 0) (s2 := 0) (st := []) C (cX2_lawAt_ok _ e6) mt_X11_201 mv_X2_lawAt rfl (by decide) dX11_read_5 eu2 k3 rfl rfl rfl (Nat.le_of_ble_eq_true rfl) rfl (Nat.le_of_ble_eq_true rfl) rfl (Nat.le_of_ble_eq_true rfl) rfl rfl ?_
  refine me_astore_n (q := 9) (lv2 := [some (vR (some a0)), some (vI a1), some (vR v4)]) C dX11_read_8 rfl (Nat.le_of_ble_eq_true rfl) rfl rfl rfl ?_
  refine me_aload_n (q := 10) C dX11_read_9 rfl rfl rfl ?_
  refine me_ifnull (q2 := 29) (q := 13) C dX11_read_10 (by decide) rfl (fun c7 => ?_) (fun c7 => ?_)
  · have hf := mm_if_t c7 hf
    refine me_iconst (v := (0 : Int32)) (q := 30) C dX11_read_29 (by decide) rfl ?_
    exact me_zret C hE (Nat.le_of_ble_eq_true rfl) (Nat.le_of_ble_eq_true rfl) rfl (Or.inl rfl) dX11_read_30 (mm_ri hf)
  · have hf := mm_if_f c7 hf
    refine me_aload_n (q := 14) C dX11_read_13 rfl rfl rfl ?_
    obtain ⟨u8, eu8, hf⟩ := mm_rf_some hf
    obtain ⟨k9, hf⟩ := mm_ck_some hf
    refine me_getI (q := 17) C dX11_read_14 mf_X11_205 rfl eu8 k9 rfl ?_
    refine me_iconst (v := (2 : Int32)) (q := 18) C dX11_read_17 (by decide) rfl ?_
    refine me_icmp_ne (q2 := 29) (q := 21) C dX11_read_18 (by decide) rfl (fun c10 => ?_) (fun c10 => ?_)
    · have hf := mm_if_t c10 hf
      refine me_iconst (v := (0 : Int32)) (q := 30) C dX11_read_29 (by decide) rfl ?_
      exact me_zret C hE (Nat.le_of_ble_eq_true rfl) (Nat.le_of_ble_eq_true rfl) rfl (Or.inl rfl) dX11_read_30 (mm_ri hf)
    · have hf := mm_if_f c10 hf
      refine me_aload_n (q := 22) C dX11_read_21 rfl rfl rfl ?_
      refine me_getI (q := 25) C dX11_read_22 mf_X11_210 rfl eu8 k9 rfl ?_
      refine me_iconst (v := (-1 : Int32)) (q := 26) C dX11_read_25 (by decide) rfl ?_
      refine me_icmp_eq (q2 := 31) (q := 29) C dX11_read_26 (by decide) rfl (fun c11 => ?_) (fun c11 => ?_)
      · have hf := mm_if_t c11 hf
        refine me_aload_n (q := 32) C dX11_read_31 rfl rfl rfl ?_
        refine me_aload_n (q := 33) C dX11_read_32 rfl rfl rfl ?_
        obtain ⟨k12, hf⟩ := mm_ck_some hf
        refine me_getI (q := 36) C dX11_read_33 mf_X11_75 rfl rfl k12 rfl ?_
        obtain ⟨g13, eg13, hf⟩ := mm_lt_some hf
        refine me_putI (q := 39) C eg13 dX11_read_36 mf_X11_210 mp_X11_5_2 rfl (by decide) eu8 k9 rfl ?_
        refine me_iconst (v := (1 : Int32)) (q := 40) C dX11_read_39 (by decide) rfl ?_
        exact me_zret C hE (Nat.le_of_ble_eq_true rfl) (Nat.le_of_ble_eq_true rfl) rfl (Or.inr rfl) dX11_read_40 (mm_ri hf)
      · have hf := mm_if_f c11 hf
        refine me_iconst (v := (0 : Int32)) (q := 30) C dX11_read_29 (by decide) rfl ?_
        exact me_zret C hE (Nat.le_of_ble_eq_true rfl) (Nat.le_of_ble_eq_true rfl) rfl (Or.inl rfl) dX11_read_30 (mm_ri hf)
set_option maxRecDepth 100000 in
set_option maxHeartbeats 4000000 in
theorem cX11_laws_ok (l : Launch) {a0 : Nat} {a1 : Int32} {a2 : Int32} {h : mm_H} {r : Int32} {h1 : mm_H} (hf : fX11_laws a0 a1 a2 h = some (r, h1)) : mm_M l yX11_laws cX11_laws 4 (some .int) 10 0 0 [vR (some a0), vI a1, vI a2] h (some (vI r)) h1 := by
  refine mm_enter (lv := [some (vR (some a0)), some (vI a1), some (vI a2), none]) (by decide) rfl (Nat.le_of_ble_eq_true rfl) ?_
  intro X hl C hE
  subst hl
  unfold fX11_laws at hf
  refine me_aload_n (q := 1) C dX11_laws_0 rfl rfl rfl ?_
  obtain ⟨k1, hf⟩ := mm_ck_some hf
  refine me_getR (q := 4) C dX11_laws_1 mf_X11_36 rfl rfl k1 rfl ?_
  refine me_iload_n (q := 5) C dX11_laws_4 rfl rfl rfl ?_
  obtain ⟨u2, eu2, hf⟩ := mm_rf_some hf
  obtain ⟨k3, hf⟩ := mm_ck_some hf
  obtain ⟨v4, g5, e6, hf⟩ := mm_cl_some hf
  refine me_callV (q := 8) (c2 := 0) (s2 := 0) (st := []) C (cX2_lawAt_ok _ e6) mt_X11_201 mv_X2_lawAt rfl (by decide) dX11_laws_5 eu2 k3 rfl rfl rfl (Nat.le_of_ble_eq_true rfl) rfl (Nat.le_of_ble_eq_true rfl) rfl (Nat.le_of_ble_eq_true rfl) rfl rfl ?_
  refine me_astore_n (q := 9) (lv2 := [some (vR (some a0)), some (vI a1), some (vI a2), some (vR v4)]) C dX11_laws_8 rfl (Nat.le_of_ble_eq_true rfl) rfl rfl rfl ?_
  refine me_aload_n (q := 10) C dX11_laws_9 rfl rfl rfl ?_
  refine me_ifnonnull (q2 := 15) (q := 13) C dX11_laws_10 (by decide) rfl (fun c7 => ?_) (fun c7 => ?_)
  · have hf := mm_if_t c7 hf
    refine me_iload_n (q := 16) C dX11_laws_15 rfl rfl rfl ?_
    by_cases c8 : a2 = 0
    · have hf := mm_if_t c8 hf
      refine me_tabIn (q := 48) C dX11_laws_16 (by rw [c8]; decide) (by rw [c8]; decide) (by rw [c8]; rfl) (by decide) ?_
      refine me_aload_n (q := 49) C dX11_laws_48 rfl rfl rfl ?_
      obtain ⟨u9, eu9, hf⟩ := mm_rf_some hf
      obtain ⟨k10, hf⟩ := mm_ck_some hf
      refine me_getI (q := 52) C dX11_laws_49 mf_X11_205 rfl eu9 k10 rfl ?_
      exact me_iret C hE (Nat.le_of_ble_eq_true rfl) (Nat.le_of_ble_eq_true rfl) rfl dX11_laws_52 (mm_ri hf)
    have hf := mm_if_f c8 hf
    by_cases c11 : a2 = 1
    · have hf := mm_if_t c11 hf
      refine me_tabIn (q := 53) C dX11_laws_16 (by rw [c11]; decide) (by rw [c11]; decide) (by rw [c11]; rfl) (by decide) ?_
      refine me_aload_n (q := 54) C dX11_laws_53 rfl rfl rfl ?_
      obtain ⟨u12, eu12, hf⟩ := mm_rf_some hf
      obtain ⟨k13, hf⟩ := mm_ck_some hf
      refine me_getR (q := 57) C dX11_laws_54 mf_X11_213 rfl eu12 k13 rfl ?_
      obtain ⟨u14, eu14, hf⟩ := mm_rf_some hf
      obtain ⟨k15, hf⟩ := mm_ck_some hf
      refine me_alen (q := 58) C 0 rfl (by decide) dX11_laws_57 eu14 k15 rfl ?_
      exact me_iret C hE (Nat.le_of_ble_eq_true rfl) (Nat.le_of_ble_eq_true rfl) rfl dX11_laws_58 (mm_ri hf)
    have hf := mm_if_f c11 hf
    by_cases c16 : a2 = 2
    · have hf := mm_if_t c16 hf
      refine me_tabIn (q := 59) C dX11_laws_16 (by rw [c16]; decide) (by rw [c16]; decide) (by rw [c16]; rfl) (by decide) ?_
      refine me_aload_n (q := 60) C dX11_laws_59 rfl rfl rfl ?_
      obtain ⟨u17, eu17, hf⟩ := mm_rf_some hf
      obtain ⟨k18, hf⟩ := mm_ck_some hf
      refine me_getI (q := 63) C dX11_laws_60 mf_X11_210 rfl eu17 k18 rfl ?_
      exact me_iret C hE (Nat.le_of_ble_eq_true rfl) (Nat.le_of_ble_eq_true rfl) rfl dX11_laws_63 (mm_ri hf)
    have hf := mm_if_f c16 hf
    by_cases c19 : a2 = 3
    · have hf := mm_if_t c19 hf
      refine me_tabIn (q := 64) C dX11_laws_16 (by rw [c19]; decide) (by rw [c19]; decide) (by rw [c19]; rfl) (by decide) ?_
      refine me_aload_n (q := 65) C dX11_laws_64 rfl rfl rfl ?_
      obtain ⟨u20, eu20, hf⟩ := mm_rf_some hf
      obtain ⟨k21, hf⟩ := mm_ck_some hf
      refine me_getI (q := 68) C dX11_laws_65 mf_X11_216 rfl eu20 k21 rfl ?_
      exact me_iret C hE (Nat.le_of_ble_eq_true rfl) (Nat.le_of_ble_eq_true rfl) rfl dX11_laws_68 (mm_ri hf)
    have hf := mm_if_f c19 hf
    refine me_tabOut (q := 69) C dX11_laws_16 ?_ (by decide) ?_
    · by_cases hz : a2.toInt < 0 ∨ 3 < a2.toInt
      · exact hz
      · exfalso
        have hw : a2.toInt = 0 ∨ a2.toInt = 1 ∨ a2.toInt = 2 ∨ a2.toInt = 3 := by omega
        rcases hw with hw | hw | hw | hw
        · exact c8 (mm_sw hw)
        · exact c11 (mm_sw hw)
        · exact c16 (mm_sw hw)
        · exact c19 (mm_sw hw)
    · refine me_iconst (v := (-1 : Int32)) (q := 70) C dX11_laws_69 (by decide) rfl ?_
      exact me_iret C hE (Nat.le_of_ble_eq_true rfl) (Nat.le_of_ble_eq_true rfl) rfl dX11_laws_70 (mm_ri hf)
  · have hf := mm_if_f c7 hf
    refine me_iconst (v := (-1 : Int32)) (q := 14) C dX11_laws_13 (by decide) rfl ?_
    exact me_iret C hE (Nat.le_of_ble_eq_true rfl) (Nat.le_of_ble_eq_true rfl) rfl dX11_laws_14 (mm_ri hf)
set_option maxRecDepth 100000 in
set_option maxHeartbeats 4000000 in
theorem cX11_isDay_ok (l : Launch) {a0 : Int32} {h : mm_H} {r : Int32} {h1 : mm_H} (hf : fX11_isDay a0 h = some (r, h1)) : mm_M l yX11_isDay cX11_isDay 1 (some .boolean) 2 0 0 [vI a0] h (some (vI r)) h1 := by
  refine mm_enter (lv := [some (vI a0)]) (by decide) rfl (Nat.le_of_ble_eq_true rfl) ?_
  intro X hl C hE
  subst hl
  unfold fX11_isDay at hf
  refine me_iload_n (q := 1) C dX11_isDay_0 rfl rfl rfl ?_
  refine me_if_lt (q2 := 15) (q := 4) C dX11_isDay_1 (by decide) rfl (fun c1 => ?_) (fun c1 => ?_)
  · have hf := mm_if_t c1 hf
    refine me_iconst (v := (0 : Int32)) (q := 16) C dX11_isDay_15 (by decide) rfl ?_
    exact me_zret C hE (Nat.le_of_ble_eq_true rfl) (Nat.le_of_ble_eq_true rfl) rfl (Or.inl rfl) dX11_isDay_16 (mm_ri hf)
  · have hf := mm_if_f c1 hf
    refine me_iload_n (q := 5) C dX11_isDay_4 rfl rfl rfl ?_
    refine me_sipush (v := (3999 : Int32)) (q := 8) C dX11_isDay_5 (by decide) rfl ?_
    refine me_icmp_gt (q2 := 15) (q := 11) C dX11_isDay_8 (by decide) rfl (fun c2 => ?_) (fun c2 => ?_)
    · have hf := mm_if_t c2 hf
      refine me_iconst (v := (0 : Int32)) (q := 16) C dX11_isDay_15 (by decide) rfl ?_
      exact me_zret C hE (Nat.le_of_ble_eq_true rfl) (Nat.le_of_ble_eq_true rfl) rfl (Or.inl rfl) dX11_isDay_16 (mm_ri hf)
    · have hf := mm_if_f c2 hf
      refine me_iconst (v := (1 : Int32)) (q := 12) C dX11_isDay_11 (by decide) rfl ?_
      refine me_goto (q := 16) C dX11_isDay_12 (by decide) ?_
      exact me_zret C hE (Nat.le_of_ble_eq_true rfl) (Nat.le_of_ble_eq_true rfl) rfl (Or.inr rfl) dX11_isDay_16 (mm_ri hf)
set_option maxRecDepth 100000 in
set_option maxHeartbeats 4000000 in
theorem cX11_force_ok (l : Launch) {a0 : Nat} {a1 : Int32} {a2 : Int32} {h : mm_H} {r : Int32} {h1 : mm_H} (hf : fX11_force a0 a1 a2 h = some (r, h1)) : mm_M l yX11_force cX11_force 3 (some .int) 10 0 0 [vR (some a0), vI a1, vI a2] h (some (vI r)) h1 := by
  refine mm_enter (lv := [some (vR (some a0)), some (vI a1), some (vI a2)]) (by decide) rfl (Nat.le_of_ble_eq_true rfl) ?_
  intro X hl C hE
  subst hl
  unfold fX11_force at hf
  refine me_iload_n (q := 1) C dX11_force_0 rfl rfl rfl ?_
  refine me_iconst (v := (0 : Int32)) (q := 2) C dX11_force_1 (by decide) rfl ?_
  refine me_iconst (v := (2 : Int32)) (q := 3) C dX11_force_2 (by decide) rfl ?_
  obtain ⟨v1, g2, e3, hf⟩ := mm_cl_some hf
  refine me_callS (q := 6) (c2 := 0) (s2 := 0) (st := []) C (cX11_within_ok _ e3) mt_X11_93 ms_X11_within dX11_force_3 rfl rfl rfl (Nat.le_of_ble_eq_true rfl) rfl (Nat.le_of_ble_eq_true rfl) rfl (Nat.le_of_ble_eq_true rfl) rfl rfl ?_
  refine me_if_eq (q2 := 16) (q := 9) C dX11_force_6 (by decide) rfl (fun c4 => ?_) (fun c4 => ?_)
  · have hf := mm_if_t c4 hf
    refine me_iconst (v := (-1 : Int32)) (q := 17) C dX11_force_16 (by decide) rfl ?_
    exact me_iret C hE (Nat.le_of_ble_eq_true rfl) (Nat.le_of_ble_eq_true rfl) rfl dX11_force_17 (mm_ri hf)
  · have hf := mm_if_f c4 hf
    refine me_iload_n (q := 10) C dX11_force_9 rfl rfl rfl ?_
    obtain ⟨v5, g6, e7, hf⟩ := mm_cl_some hf
    refine me_callS (q := 13) (c2 := 0) (s2 := 0) (st := []) C (cX11_isDay_ok _ e7) mt_X11_219 ms_X11_isDay dX11_force_10 rfl rfl rfl (Nat.le_of_ble_eq_true rfl) rfl (Nat.le_of_ble_eq_true rfl) rfl (Nat.le_of_ble_eq_true rfl) rfl rfl ?_
    refine me_if_ne (q2 := 18) (q := 16) C dX11_force_13 (by decide) rfl (fun c8 => ?_) (fun c8 => ?_)
    · have hf := mm_if_t c8 hf
      refine me_aload_n (q := 19) C dX11_force_18 rfl rfl rfl ?_
      obtain ⟨k9, hf⟩ := mm_ck_some hf
      refine me_getR (q := 22) C dX11_force_19 mf_X11_36 rfl rfl k9 rfl ?_
      refine me_iload_n (q := 23) C dX11_force_22 rfl rfl rfl ?_
      refine me_iload_n (q := 24) C dX11_force_23 rfl rfl rfl ?_
      obtain ⟨u10, eu10, hf⟩ := mm_rf_some hf
      obtain ⟨k11, hf⟩ := mm_ck_some hf
      obtain ⟨v12, g13, e14, hf⟩ := mm_cl_some hf
      refine me_callV (q := 27) (c2 := 0) (s2 := 0) (st := []) C (cX2_inForce_ok _ e14) mt_X11_222 mv_X2_inForce rfl (by decide) dX11_force_24 eu10 k11 rfl rfl rfl (Nat.le_of_ble_eq_true rfl) rfl (Nat.le_of_ble_eq_true rfl) rfl (Nat.le_of_ble_eq_true rfl) rfl rfl ?_
      exact me_iret C hE (Nat.le_of_ble_eq_true rfl) (Nat.le_of_ble_eq_true rfl) rfl dX11_force_27 (mm_ri hf)
    · have hf := mm_if_f c8 hf
      refine me_iconst (v := (-1 : Int32)) (q := 17) C dX11_force_16 (by decide) rfl ?_
      exact me_iret C hE (Nat.le_of_ble_eq_true rfl) (Nat.le_of_ble_eq_true rfl) rfl dX11_force_17 (mm_ri hf)
set_option maxRecDepth 100000 in
set_option maxHeartbeats 4000000 in
theorem cX11_refusal_ok (l : Launch) {a0 : Nat} {a1 : Int32} {a2 : Int32} {a3 : Int32} {a4 : Int32} {a5 : Int32} {a6 : Int32} {a7 : Int32} {h : mm_H} {r : Int32} {h1 : mm_H} (hf : fX11_refusal a0 a1 a2 a3 a4 a5 a6 a7 h = some (r, h1)) : mm_M l yX11_refusal cX11_refusal 8 (some .int) 10 0 0 [vR (some a0), vI a1, vI a2, vI a3, vI a4, vI a5, vI a6, vI a7] h (some (vI r)) h1 := by
  refine mm_enter (lv := [some (vR (some a0)), some (vI a1), some (vI a2), some (vI a3), some (vI a4), some (vI a5), some (vI a6), some (vI a7)]) (by decide) rfl (Nat.le_of_ble_eq_true rfl) ?_
  intro X hl C hE
  subst hl
  unfold fX11_refusal at hf
  refine me_aload_n (q := 1) C dX11_refusal_0 rfl rfl rfl ?_
  refine me_iload_n (q := 2) C dX11_refusal_1 rfl rfl rfl ?_
  obtain ⟨k1, hf⟩ := mm_ck_some hf
  obtain ⟨v2, g3, e4, hf⟩ := mm_cl_some hf
  refine me_callV (q := 5) (c2 := 0) (s2 := 0) (st := []) C (cX11_manThere_ok _ e4) mt_X11_107 mv_X11_manThere rfl (by decide) dX11_refusal_2 rfl k1 rfl rfl rfl (Nat.le_of_ble_eq_true rfl) rfl (Nat.le_of_ble_eq_true rfl) rfl (Nat.le_of_ble_eq_true rfl) rfl rfl ?_
  refine me_ifnull (q2 := 21) (q := 8) C dX11_refusal_5 (by decide) rfl (fun c5 => ?_) (fun c5 => ?_)
  · have hf := mm_if_t c5 hf
    refine me_iconst (v := (1 : Int32)) (q := 22) C dX11_refusal_21 (by decide) rfl ?_
    exact me_iret C hE (Nat.le_of_ble_eq_true rfl) (Nat.le_of_ble_eq_true rfl) rfl dX11_refusal_22 (mm_ri hf)
  · have hf := mm_if_f c5 hf
    refine me_aload_n (q := 9) C dX11_refusal_8 rfl rfl rfl ?_
    refine me_iload_n (q := 10) C dX11_refusal_9 rfl rfl rfl ?_
    obtain ⟨k6, hf⟩ := mm_ck_some hf
    obtain ⟨v7, g8, e9, hf⟩ := mm_cl_some hf
    refine me_callV (q := 13) (c2 := 0) (s2 := 0) (st := []) C (cX11_manThere_ok _ e9) mt_X11_107 mv_X11_manThere rfl (by decide) dX11_refusal_10 rfl k6 rfl rfl rfl (Nat.le_of_ble_eq_true rfl) rfl (Nat.le_of_ble_eq_true rfl) rfl (Nat.le_of_ble_eq_true rfl) rfl rfl ?_
    refine me_ifnull (q2 := 21) (q := 16) C dX11_refusal_13 (by decide) rfl (fun c10 => ?_) (fun c10 => ?_)
    · have hf := mm_if_t c10 hf
      refine me_iconst (v := (1 : Int32)) (q := 22) C dX11_refusal_21 (by decide) rfl ?_
      exact me_iret C hE (Nat.le_of_ble_eq_true rfl) (Nat.le_of_ble_eq_true rfl) rfl dX11_refusal_22 (mm_ri hf)
    · have hf := mm_if_f c10 hf
      refine me_iload_n (q := 17) C dX11_refusal_16 rfl rfl rfl ?_
      refine me_iload_n (q := 18) C dX11_refusal_17 rfl rfl rfl ?_
      refine me_icmp_ne (q2 := 23) (q := 21) C dX11_refusal_18 (by decide) rfl (fun c11 => ?_) (fun c11 => ?_)
      · have hf := mm_if_t c11 hf
        refine me_iload_n (q := 24) C dX11_refusal_23 rfl rfl rfl ?_
        refine me_if_lt (q2 := 56) (q := 27) C dX11_refusal_24 (by decide) rfl (fun c12 => ?_) (fun c12 => ?_)
        · have hf := mm_if_t c12 hf
          refine me_iconst (v := (2 : Int32)) (q := 57) C dX11_refusal_56 (by decide) rfl ?_
          exact me_iret C hE (Nat.le_of_ble_eq_true rfl) (Nat.le_of_ble_eq_true rfl) rfl dX11_refusal_57 (mm_ri hf)
        · have hf := mm_if_f c12 hf
          refine me_iload_n (q := 28) C dX11_refusal_27 rfl rfl rfl ?_
          refine me_aload_n (q := 29) C dX11_refusal_28 rfl rfl rfl ?_
          obtain ⟨k13, hf⟩ := mm_ck_some hf
          refine me_getR (q := 32) C dX11_refusal_29 mf_X11_16 rfl rfl k13 rfl ?_
          obtain ⟨u14, eu14, hf⟩ := mm_rf_some hf
          obtain ⟨k15, hf⟩ := mm_ck_some hf
          obtain ⟨v16, g17, e18, hf⟩ := mm_cl_some hf
          refine me_callV (q := 35) (c2 := 0) (s2 := 0) (st := [vI a3]) C (cJx4a65c_size_8abf5_ok _ e18) mt_X11_89 mv_Jx4a65c_size_8abf5 rfl (by decide) dX11_refusal_32 eu14 k15 rfl rfl rfl (Nat.le_of_ble_eq_true rfl) rfl (Nat.le_of_ble_eq_true rfl) rfl (Nat.le_of_ble_eq_true rfl) rfl rfl ?_
          refine me_icmp_ge (q2 := 56) (q := 38) C dX11_refusal_35 (by decide) rfl (fun c19 => ?_) (fun c19 => ?_)
          · have hf := mm_if_t c19 hf
            refine me_iconst (v := (2 : Int32)) (q := 57) C dX11_refusal_56 (by decide) rfl ?_
            exact me_iret C hE (Nat.le_of_ble_eq_true rfl) (Nat.le_of_ble_eq_true rfl) rfl dX11_refusal_57 (mm_ri hf)
          · have hf := mm_if_f c19 hf
            refine me_aload_n (q := 39) C dX11_refusal_38 rfl rfl rfl ?_
            obtain ⟨k20, hf⟩ := mm_ck_some hf
            refine me_getR (q := 42) C dX11_refusal_39 mf_X11_16 rfl rfl k20 rfl ?_
            refine me_iload_n (q := 43) C dX11_refusal_42 rfl rfl rfl ?_
            obtain ⟨u21, eu21, hf⟩ := mm_rf_some hf
            obtain ⟨k22, hf⟩ := mm_ck_some hf
            obtain ⟨v23, g24, e25, hf⟩ := mm_cl_some hf
            refine me_callV (q := 46) (c2 := 0) (s2 := 0) (st := []) C (cJx4a65c_get_915e3_ok _ e25) mt_X11_151 mv_Jx4a65c_get_915e3 rfl (by decide) dX11_refusal_43 eu21 k22 rfl rfl rfl (Nat.le_of_ble_eq_true rfl) rfl (Nat.le_of_ble_eq_true rfl) rfl (Nat.le_of_ble_eq_true rfl) rfl rfl ?_
            obtain ⟨u26, eu26, hf⟩ := mm_rf_some hf
            obtain ⟨k27, hf⟩ := mm_ck_some hf
            refine me_cast (q := 49) C dX11_refusal_46 mk_X11_146 eu26 k27 rfl ?_
            refine me_getI (q := 52) C dX11_refusal_49 mf_X11_161 rfl eu26 k27 rfl ?_
            refine me_iload_n (q := 53) C dX11_refusal_52 rfl rfl rfl ?_
            refine me_icmp_eq (q2 := 58) (q := 56) C dX11_refusal_53 (by decide) rfl (fun c28 => ?_) (fun c28 => ?_)
            · have hf := mm_if_t c28 hf
              refine me_iload (q := 60) C dX11_refusal_58 rfl rfl ?_
              refine me_iconst (v := (1 : Int32)) (q := 61) C dX11_refusal_60 (by decide) rfl ?_
              refine me_aload_n (q := 62) C dX11_refusal_61 rfl rfl rfl ?_
              obtain ⟨k29, hf⟩ := mm_ck_some hf
              refine me_getR (q := 65) C dX11_refusal_62 mf_X11_16 rfl rfl k29 rfl ?_
              refine me_iload_n (q := 66) C dX11_refusal_65 rfl rfl rfl ?_
              obtain ⟨u30, eu30, hf⟩ := mm_rf_some hf
              obtain ⟨k31, hf⟩ := mm_ck_some hf
              obtain ⟨v32, g33, e34, hf⟩ := mm_cl_some hf
              refine me_callV (q := 69) (c2 := 0) (s2 := 0) (st := [vI (1 : Int32), vI a4]) C (cJx4a65c_get_915e3_ok _ e34) mt_X11_151 mv_Jx4a65c_get_915e3 rfl (by decide) dX11_refusal_66 eu30 k31 rfl rfl rfl (Nat.le_of_ble_eq_true rfl) rfl (Nat.le_of_ble_eq_true rfl) rfl (Nat.le_of_ble_eq_true rfl) rfl rfl ?_
              obtain ⟨u35, eu35, hf⟩ := mm_rf_some hf
              obtain ⟨k36, hf⟩ := mm_ck_some hf
              refine me_cast (q := 72) C dX11_refusal_69 mk_X11_146 eu35 k36 rfl ?_
              refine me_getI (q := 75) C dX11_refusal_72 mf_X11_158 rfl eu35 k36 rfl ?_
              obtain ⟨v37, g38, e39, hf⟩ := mm_cl_some hf
              refine me_callS (q := 78) (c2 := 0) (s2 := 0) (st := []) C (cX11_within_ok _ e39) mt_X11_93 ms_X11_within dX11_refusal_75 rfl rfl rfl (Nat.le_of_ble_eq_true rfl) rfl (Nat.le_of_ble_eq_true rfl) rfl (Nat.le_of_ble_eq_true rfl) rfl rfl ?_
              refine me_if_ne (q2 := 83) (q := 81) C dX11_refusal_78 (by decide) rfl (fun c40 => ?_) (fun c40 => ?_)
              · have hf := mm_if_t c40 hf
                refine me_iload (q := 85) C dX11_refusal_83 rfl rfl ?_
                refine me_iconst (v := (0 : Int32)) (q := 86) C dX11_refusal_85 (by decide) rfl ?_
                refine me_ldc (v := (1000000 : Int32)) (q := 88) C dX11_refusal_86 mc_X11_97 rfl ?_
                obtain ⟨v41, g42, e43, hf⟩ := mm_cl_some hf
                refine me_callS (q := 91) (c2 := 0) (s2 := 0) (st := []) C (cX11_within_ok _ e43) mt_X11_93 ms_X11_within dX11_refusal_88 rfl rfl rfl (Nat.le_of_ble_eq_true rfl) rfl (Nat.le_of_ble_eq_true rfl) rfl (Nat.le_of_ble_eq_true rfl) rfl rfl ?_
                refine me_if_eq (q2 := 117) (q := 94) C dX11_refusal_91 (by decide) rfl (fun c44 => ?_) (fun c44 => ?_)
                · have hf := mm_if_t c44 hf
                  refine me_iconst (v := (3 : Int32)) (q := 118) C dX11_refusal_117 (by decide) rfl ?_
                  exact me_iret C hE (Nat.le_of_ble_eq_true rfl) (Nat.le_of_ble_eq_true rfl) rfl dX11_refusal_118 (mm_ri hf)
                · have hf := mm_if_f c44 hf
                  refine me_iload (q := 96) C dX11_refusal_94 rfl rfl ?_
                  refine me_iconst (v := (0 : Int32)) (q := 97) C dX11_refusal_96 (by decide) rfl ?_
                  refine me_sipush (v := (720 : Int32)) (q := 100) C dX11_refusal_97 (by decide) rfl ?_
                  obtain ⟨v45, g46, e47, hf⟩ := mm_cl_some hf
                  refine me_callS (q := 103) (c2 := 0) (s2 := 0) (st := []) C (cX11_within_ok _ e47) mt_X11_93 ms_X11_within dX11_refusal_100 rfl rfl rfl (Nat.le_of_ble_eq_true rfl) rfl (Nat.le_of_ble_eq_true rfl) rfl (Nat.le_of_ble_eq_true rfl) rfl rfl ?_
                  refine me_if_eq (q2 := 117) (q := 106) C dX11_refusal_103 (by decide) rfl (fun c48 => ?_) (fun c48 => ?_)
                  · have hf := mm_if_t c48 hf
                    refine me_iconst (v := (3 : Int32)) (q := 118) C dX11_refusal_117 (by decide) rfl ?_
                    exact me_iret C hE (Nat.le_of_ble_eq_true rfl) (Nat.le_of_ble_eq_true rfl) rfl dX11_refusal_118 (mm_ri hf)
                  · have hf := mm_if_f c48 hf
                    refine me_iload (q := 108) C dX11_refusal_106 rfl rfl ?_
                    refine me_iconst (v := (0 : Int32)) (q := 109) C dX11_refusal_108 (by decide) rfl ?_
                    refine me_bipush (v := (23 : Int32)) (q := 111) C dX11_refusal_109 (by decide) rfl ?_
                    obtain ⟨v49, g50, e51, hf⟩ := mm_cl_some hf
                    refine me_callS (q := 114) (c2 := 0) (s2 := 0) (st := []) C (cX11_within_ok _ e51) mt_X11_93 ms_X11_within dX11_refusal_111 rfl rfl rfl (Nat.le_of_ble_eq_true rfl) rfl (Nat.le_of_ble_eq_true rfl) rfl (Nat.le_of_ble_eq_true rfl) rfl rfl ?_
                    refine me_if_ne (q2 := 119) (q := 117) C dX11_refusal_114 (by decide) rfl (fun c52 => ?_) (fun c52 => ?_)
                    · have hf := mm_if_t c52 hf
                      refine me_iconst (v := (0 : Int32)) (q := 120) C dX11_refusal_119 (by decide) rfl ?_
                      exact me_iret C hE (Nat.le_of_ble_eq_true rfl) (Nat.le_of_ble_eq_true rfl) rfl dX11_refusal_120 (mm_ri hf)
                    · have hf := mm_if_f c52 hf
                      refine me_iconst (v := (3 : Int32)) (q := 118) C dX11_refusal_117 (by decide) rfl ?_
                      exact me_iret C hE (Nat.le_of_ble_eq_true rfl) (Nat.le_of_ble_eq_true rfl) rfl dX11_refusal_118 (mm_ri hf)
              · have hf := mm_if_f c40 hf
                refine me_iconst (v := (2 : Int32)) (q := 82) C dX11_refusal_81 (by decide) rfl ?_
                exact me_iret C hE (Nat.le_of_ble_eq_true rfl) (Nat.le_of_ble_eq_true rfl) rfl dX11_refusal_82 (mm_ri hf)
            · have hf := mm_if_f c28 hf
              refine me_iconst (v := (2 : Int32)) (q := 57) C dX11_refusal_56 (by decide) rfl ?_
              exact me_iret C hE (Nat.le_of_ble_eq_true rfl) (Nat.le_of_ble_eq_true rfl) rfl dX11_refusal_57 (mm_ri hf)
      · have hf := mm_if_f c11 hf
        refine me_iconst (v := (1 : Int32)) (q := 22) C dX11_refusal_21 (by decide) rfl ?_
        exact me_iret C hE (Nat.le_of_ble_eq_true rfl) (Nat.le_of_ble_eq_true rfl) rfl dX11_refusal_22 (mm_ri hf)
