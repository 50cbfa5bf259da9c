set_option maxRecDepth 100000 in
set_option maxHeartbeats 4000000 in
theorem cX5_wordToken_L13 {X : mm_X} (C : mm_C X cX5_wordToken yX5_wordToken 12 0 0) {r : Int32} {h1 : mm_H} (hE : mm_End X 0 0 (some .int) (some (vI r)) h1) {b0 : Nat} {b1 : Int32} {b2 : Int32} (K37 : mm_H → Option (Int32 × mm_H)) : ∀ (n : Nat) (x3 : Int32) (h : mm_H), fX5_wordToken_L13 b0 b1 b2 K37 n x3 h = some (r, h1) → (∀ (h : mm_H), K37 h = some (r, h1) → mm_E X h 0 0 37 [none, none, none, none] []) → mm_E X h 0 0 13 [some (vR (some b0)), some (vI b1), some (vI b2), some (vI x3)] [] := by
  intro n
  induction n with
  | zero =>
    intro x3 h hf
    exact absurd (show (none : Option (Int32 × mm_H)) = some (r, h1) from hf) (by simp)
  | succ n ih =>
    intro x3 h hf hk37
    have hf : fX5_wordToken_L13_b b0 b1 b2 K37 (fX5_wordToken_L13 b0 b1 b2 K37 n) x3 h = some (r, h1) := hf
    unfold fX5_wordToken_L13_b at hf
    refine me_iload_n (q := 14) C dX5_wordToken_13 rfl rfl rfl ?_
    refine me_bipush (v := (21 : Int32)) (q := 16) C dX5_wordToken_14 (by decide) rfl ?_
    refine me_icmp_ge (q2 := 37) (q := 19) C dX5_wordToken_16 (by decide) rfl (fun c2 => ?_) (fun c2 => ?_)
    · have hf := mm_if_t c2 hf
      refine me_mask [false, false, false, false] (lv2 := [none, none, none, none]) rfl ?_
      exact hk37 _ hf
    · have hf := mm_if_f c2 hf
      refine me_aload_n (q := 20) C dX5_wordToken_19 rfl rfl rfl ?_
      refine me_iload_n (q := 21) C dX5_wordToken_20 rfl rfl rfl ?_
      refine me_iload_n (q := 22) C dX5_wordToken_21 rfl rfl rfl ?_
      refine me_iload_n (q := 23) C dX5_wordToken_22 rfl rfl rfl ?_
      obtain ⟨k3, hf⟩ := mm_ck_some hf
      obtain ⟨v4, g5, e6, hf⟩ := mm_cl_some hf
      refine me_callV (q := 26) (c2 := 0) (s2 := 0) (st := []) C (cX5_isWord_ok _ e6) mt_X5_109 mv_X5_isWord rfl (by decide) dX5_wordToken_23 rfl k3 rfl rfl rfl (Nat.le_of_ble_eq_true rfl) rfl (Nat.le_of_ble_eq_true rfl) rfl (Nat.le_of_ble_eq_true rfl) rfl rfl ?_
      refine me_if_eq (q2 := 31) (q := 29) C dX5_wordToken_26 (by decide) rfl (fun c7 => ?_) (fun c7 => ?_)
      · have hf := mm_if_t c7 hf
        obtain ⟨v8, ev8, hf⟩ := mm_lt_some hf
        refine me_iinc (q := 34) (v := v8) (lv2 := [some (vR (some b0)), some (vI b1), some (vI b2), some (vI v8)]) C dX5_wordToken_31 rfl (by rw [ev8]; rfl) (Nat.le_of_ble_eq_true rfl) rfl rfl rfl ?_
        refine me_goto (q := 13) C dX5_wordToken_34 (by decide) ?_
        exact ih _ _ hf hk37
      · have hf := mm_if_f c7 hf
        refine me_iload_n (q := 30) C dX5_wordToken_29 rfl rfl rfl ?_
        exact me_iret C hE (Nat.le_of_ble_eq_true rfl) (Nat.le_of_ble_eq_true rfl) rfl dX5_wordToken_30 (mm_ri hf)
set_option maxRecDepth 100000 in
set_option maxHeartbeats 4000000 in
theorem cX5_wordToken_ok (l : Launch) {a0 : Nat} {a1 : Int32} {a2 : Int32} {h : mm_H} {r : Int32} {h1 : mm_H} (hf : fX5_wordToken a0 a1 a2 h = some (r, h1)) : mm_M l yX5_wordToken cX5_wordToken 4 (some .int) 12 0 0 [vR (some a0), vI a1, vI a2] h (some (vI r)) h1 := by
  refine mm_enter (lv := [some (vR (some a0)), some (vI a1), some (vI a2), none]) (by decide) rfl (Nat.le_of_ble_eq_true rfl) ?_
  intro X hl C hE
  subst hl
  unfold fX5_wordToken at hf
  refine me_iload_n (q := 1) C dX5_wordToken_0 rfl rfl rfl ?_
  refine me_iload_n (q := 2) C dX5_wordToken_1 rfl rfl rfl ?_
  refine me_isub (q := 3) C dX5_wordToken_2 rfl ?_
  refine me_bipush (v := (6 : Int32)) (q := 5) C dX5_wordToken_3 (by decide) rfl ?_
  refine me_icmp_le (q2 := 11) (q := 8) C dX5_wordToken_5 (by decide) rfl (fun c1 => ?_) (fun c1 => ?_)
  · have hf := mm_if_t c1 hf
    refine me_iconst (v := (0 : Int32)) (q := 12) C dX5_wordToken_11 (by decide) rfl ?_
    refine me_istore_n (q := 13) (lv2 := [some (vR (some a0)), some (vI a1), some (vI a2), some (vI (0 : Int32))]) C dX5_wordToken_12 rfl (Nat.le_of_ble_eq_true rfl) rfl rfl rfl ?_
    refine cX5_wordToken_L13 C hE _ _ _ _ hf ?_
    · intro g9 hf
      refine me_bipush (v := (36 : Int32)) (q := 39) C dX5_wordToken_37 (by decide) rfl ?_
      exact me_iret C hE (Nat.le_of_ble_eq_true rfl) (Nat.le_of_ble_eq_true rfl) rfl dX5_wordToken_39 (mm_ri hf)
  · have hf := mm_if_f c1 hf
    refine me_bipush (v := (36 : Int32)) (q := 10) C dX5_wordToken_8 (by decide) rfl ?_
    exact me_iret C hE (Nat.le_of_ble_eq_true rfl) (Nat.le_of_ble_eq_true rfl) rfl dX5_wordToken_10 (mm_ri hf)
set_option maxRecDepth 100000 in
set_option maxHeartbeats 4000000 in
theorem cX5_cutWord_L2 {X : mm_X} (C : mm_C X cX5_cutWord yX5_cutWord 14 0 0) {r : Int32} {h1 : mm_H} (hE : mm_End X 0 0 (some .int) (some (vI r)) h1) {b0 : Nat} {b1 : Int32} (K28 : Int32 → mm_H → Option (Int32 × mm_H)) : ∀ (n : Nat) (x2 : Int32) (h : mm_H), fX5_cutWord_L2 b0 b1 K28 n x2 h = some (r, h1) → (∀ (y2 : Int32) (h : mm_H), K28 y2 h = some (r, h1) → mm_E X h 0 0 28 [some (vR (some b0)), some (vI b1), some (vI y2)] []) → mm_E X h 0 0 2 [some (vR (some b0)), some (vI b1), some (vI x2)] [] := by
  intro n
  induction n with
  | zero =>
    intro x2 h hf
    exact absurd (show (none : Option (Int32 × mm_H)) = some (r, h1) from hf) (by simp)
  | succ n ih =>
    intro x2 h hf hk28
    have hf : fX5_cutWord_L2_b b0 b1 K28 (fX5_cutWord_L2 b0 b1 K28 n) x2 h = some (r, h1) := hf
    unfold fX5_cutWord_L2_b at hf
    refine me_iload_n (q := 3) C dX5_cutWord_2 rfl rfl rfl ?_
    refine me_aload_n (q := 4) C dX5_cutWord_3 rfl rfl rfl ?_
    obtain ⟨k1, hf⟩ := mm_ck_some hf
    refine me_getI (q := 7) C dX5_cutWord_4 mf_X5_34 rfl rfl k1 rfl ?_
    refine me_icmp_ge (q2 := 28) (q := 10) C dX5_cutWord_7 (by decide) rfl (fun c2 => ?_) (fun c2 => ?_)
    · have hf := mm_if_t c2 hf
      exact hk28 _ _ hf
    · have hf := mm_if_f c2 hf
      refine me_aload_n (q := 11) C dX5_cutWord_10 rfl rfl rfl ?_
      refine me_getR (q := 14) C dX5_cutWord_11 mf_X5_11 rfl rfl k1 rfl ?_
      refine me_iload_n (q := 15) C dX5_cutWord_14 rfl rfl rfl ?_
      obtain ⟨u3, eu3, hf⟩ := mm_rf_some hf
      obtain ⟨k4, hf⟩ := mm_ck_some hf
      obtain ⟨k5, hf⟩ := mm_ck_some hf
      refine me_bald (q := 16) C dX5_cutWord_15 eu3 k4 k5 rfl ?_
      obtain ⟨v6, g7, e8, hf⟩ := mm_cl_some hf
      refine me_callS (q := 19) (c2 := 0) (s2 := 0) (st := []) C (cX5_isLetter_ok _ e8) mt_X5_88 ms_X5_isLetter dX5_cutWord_16 rfl rfl rfl (Nat.le_of_ble_eq_true rfl) rfl (Nat.le_of_ble_eq_true rfl) rfl (Nat.le_of_ble_eq_true rfl) rfl rfl ?_
      refine me_if_eq (q2 := 28) (q := 22) C dX5_cutWord_19 (by decide) rfl (fun c9 => ?_) (fun c9 => ?_)
      · have hf := mm_if_t c9 hf
        exact hk28 _ _ hf
      · have hf := mm_if_f c9 hf
        obtain ⟨v10, ev10, hf⟩ := mm_lt_some hf
        refine me_iinc (q := 25) (v := v10) (lv2 := [some (vR (some b0)), some (vI b1), some (vI v10)]) C dX5_cutWord_22 rfl (by rw [ev10]; rfl) (Nat.le_of_ble_eq_true rfl) rfl rfl rfl ?_
        refine me_goto (q := 2) C dX5_cutWord_25 (by decide) ?_
        exact ih _ _ hf hk28
set_option maxRecDepth 100000 in
set_option maxHeartbeats 4000000 in
theorem cX5_cutWord_ok (l : Launch) {a0 : Nat} {a1 : Int32} {h : mm_H} {r : Int32} {h1 : mm_H} (hf : fX5_cutWord a0 a1 h = some (r, h1)) : mm_M l yX5_cutWord cX5_cutWord 3 (some .int) 14 0 0 [vR (some a0), vI a1] h (some (vI r)) h1 := by
  refine mm_enter (lv := [some (vR (some a0)), some (vI a1), none]) (by decide) rfl (Nat.le_of_ble_eq_true rfl) ?_
  intro X hl C hE
  subst hl
  unfold fX5_cutWord at hf
  refine me_iload_n (q := 1) C dX5_cutWord_0 rfl rfl rfl ?_
  refine me_istore_n (q := 2) (lv2 := [some (vR (some a0)), some (vI a1), some (vI a1)]) C dX5_cutWord_1 rfl (Nat.le_of_ble_eq_true rfl) rfl rfl rfl ?_
  refine cX5_cutWord_L2 C hE _ _ _ _ hf ?_
  · intro z11 g12 hf
    refine me_aload_n (q := 29) C dX5_cutWord_28 rfl rfl rfl ?_
    refine me_aload_n (q := 30) C dX5_cutWord_29 rfl rfl rfl ?_
    refine me_iload_n (q := 31) C dX5_cutWord_30 rfl rfl rfl ?_
    refine me_iload_n (q := 32) C dX5_cutWord_31 rfl rfl rfl ?_
    obtain ⟨k13, hf⟩ := mm_ck_some hf
    obtain ⟨v14, g15, e16, hf⟩ := mm_cl_some hf
    refine me_callV (q := 35) (c2 := 0) (s2 := 0) (st := [vR (some a0)]) C (cX5_wordToken_ok _ e16) mt_X5_101 mv_X5_wordToken rfl (by decide) dX5_cutWord_32 rfl k13 rfl rfl rfl (Nat.le_of_ble_eq_true rfl) rfl (Nat.le_of_ble_eq_true rfl) rfl (Nat.le_of_ble_eq_true rfl) rfl rfl ?_
    refine me_iload_n (q := 36) C dX5_cutWord_35 rfl rfl rfl ?_
    refine me_iconst (v := (0 : Int32)) (q := 37) C dX5_cutWord_36 (by decide) rfl ?_
    obtain ⟨k17, hf⟩ := mm_ck_some hf
    obtain ⟨_, g18, e19, hf⟩ := mm_cl_some hf
    refine me_callV (q := 40) (c2 := 0) (s2 := 0) (st := []) C (cX5_putToken_ok _ e19) mt_X5_97 mv_X5_putToken rfl (by decide) dX5_cutWord_37 rfl k17 rfl rfl rfl (Nat.le_of_ble_eq_true rfl) rfl (Nat.le_of_ble_eq_true rfl) rfl (Nat.le_of_ble_eq_true rfl) rfl rfl ?_
    refine me_iload_n (q := 41) C dX5_cutWord_40 rfl rfl rfl ?_
    exact me_iret C hE (Nat.le_of_ble_eq_true rfl) (Nat.le_of_ble_eq_true rfl) rfl dX5_cutWord_41 (mm_ri hf)
set_option maxRecDepth 100000 in
set_option maxHeartbeats 4000000 in
theorem cX5_signToken_ok (l : Launch) {a0 : Int32} {a1 : Int32} {h : mm_H} {r : Int32} {h1 : mm_H} (hf : fX5_signToken a0 a1 h = some (r, h1)) : mm_M l yX5_signToken cX5_signToken 2 (some .int) 2 0 0 [vI a0, vI a1] h (some (vI r)) h1 := by
  refine mm_enter (lv := [some (vI a0), some (vI a1)]) (by decide) rfl (Nat.le_of_ble_eq_true rfl) ?_
  intro X hl C hE
  subst hl
  unfold fX5_signToken at hf
  refine me_iload_n (q := 1) C dX5_signToken_0 rfl rfl rfl ?_
  by_cases c1 : a0 = 40
  · have hf := mm_if_t c1 hf
    refine me_lookup (q := 106) C dX5_signToken_1 (by decide) (by first | (rw [c1]; done) | (rw [c1]; rfl)) (by decide) ?_
    refine me_bipush (v := (24 : Int32)) (q := 108) C dX5_signToken_106 (by decide) rfl ?_
    exact me_iret C hE (Nat.le_of_ble_eq_true rfl) (Nat.le_of_ble_eq_true rfl) rfl dX5_signToken_108 (mm_ri hf)
  have hf := mm_if_f c1 hf
  by_cases c2 : a0 = 41
  · have hf := mm_if_t c2 hf
    refine me_lookup (q := 109) C dX5_signToken_1 (by decide) (by first | (rw [c2]; done) | (rw [c2]; rfl)) (by decide) ?_
    refine me_bipush (v := (25 : Int32)) (q := 111) C dX5_signToken_109 (by decide) rfl ?_
    exact me_iret C hE (Nat.le_of_ble_eq_true rfl) (Nat.le_of_ble_eq_true rfl) rfl dX5_signToken_111 (mm_ri hf)
  have hf := mm_if_f c2 hf
  by_cases c3 : a0 = 42
  · have hf := mm_if_t c3 hf
    refine me_lookup (q := 121) C dX5_signToken_1 (by decide) (by first | (rw [c3]; done) | (rw [c3]; rfl)) (by decide) ?_
    refine me_bipush (v := (29 : Int32)) (q := 123) C dX5_signToken_121 (by decide) rfl ?_
    exact me_iret C hE (Nat.le_of_ble_eq_true rfl) (Nat.le_of_ble_eq_true rfl) rfl dX5_signToken_123 (mm_ri hf)
  have hf := mm_if_f c3 hf
  by_cases c4 : a0 = 43
  · have hf := mm_if_t c4 hf
    refine me_lookup (q := 115) C dX5_signToken_1 (by decide) (by first | (rw [c4]; done) | (rw [c4]; rfl)) (by decide) ?_
    refine me_bipush (v := (27 : Int32)) (q := 117) C dX5_signToken_115 (by decide) rfl ?_
    exact me_iret C hE (Nat.le_of_ble_eq_true rfl) (Nat.le_of_ble_eq_true rfl) rfl dX5_signToken_117 (mm_ri hf)
  have hf := mm_if_f c4 hf
  by_cases c5 : a0 = 45
  · have hf := mm_if_t c5 hf
    refine me_lookup (q := 118) C dX5_signToken_1 (by decide) (by first | (rw [c5]; done) | (rw [c5]; rfl)) (by decide) ?_
    refine me_bipush (v := (28 : Int32)) (q := 120) C dX5_signToken_118 (by decide) rfl ?_
    exact me_iret C hE (Nat.le_of_ble_eq_true rfl) (Nat.le_of_ble_eq_true rfl) rfl dX5_signToken_120 (mm_ri hf)
  have hf := mm_if_f c5 hf
  by_cases c6 : a0 = 59
  · have hf := mm_if_t c6 hf
    refine me_lookup (q := 112) C dX5_signToken_1 (by decide) (by first | (rw [c6]; done) | (rw [c6]; rfl)) (by decide) ?_
    refine me_bipush (v := (26 : Int32)) (q := 114) C dX5_signToken_112 (by decide) rfl ?_
    exact me_iret C hE (Nat.le_of_ble_eq_true rfl) (Nat.le_of_ble_eq_true rfl) rfl dX5_signToken_114 (mm_ri hf)
  have hf := mm_if_f c6 hf
  by_cases c7 : a0 = 60
  · have hf := mm_if_t c7 hf
    refine me_lookup (q := 127) C dX5_signToken_1 (by decide) (by first | (rw [c7]; done) | (rw [c7]; rfl)) (by decide) ?_
    refine me_iload_n (q := 128) C dX5_signToken_127 rfl rfl rfl ?_
    refine me_if_eq (q2 := 136) (q := 131) C dX5_signToken_128 (by decide) rfl (fun c8 => ?_) (fun c8 => ?_)
    · have hf := mm_if_t c8 hf
      refine me_bipush (v := (30 : Int32)) (q := 138) C dX5_signToken_136 (by decide) rfl ?_
      exact me_iret C hE (Nat.le_of_ble_eq_true rfl) (Nat.le_of_ble_eq_true rfl) rfl dX5_signToken_138 (mm_ri hf)
    · have hf := mm_if_f c8 hf
      refine me_bipush (v := (31 : Int32)) (q := 133) C dX5_signToken_131 (by decide) rfl ?_
      refine me_goto (q := 138) C dX5_signToken_133 (by decide) ?_
      exact me_iret C hE (Nat.le_of_ble_eq_true rfl) (Nat.le_of_ble_eq_true rfl) rfl dX5_signToken_138 (mm_ri hf)
  have hf := mm_if_f c7 hf
  by_cases c9 : a0 = 61
  · have hf := mm_if_t c9 hf
    refine me_lookup (q := 124) C dX5_signToken_1 (by decide) (by first | (rw [c9]; done) | (rw [c9]; rfl)) (by decide) ?_
    refine me_bipush (v := (32 : Int32)) (q := 126) C dX5_signToken_124 (by decide) rfl ?_
    exact me_iret C hE (Nat.le_of_ble_eq_true rfl) (Nat.le_of_ble_eq_true rfl) rfl dX5_signToken_126 (mm_ri hf)
  have hf := mm_if_f c9 hf
  by_cases c10 : a0 = 62
  · have hf := mm_if_t c10 hf
    refine me_lookup (q := 139) C dX5_signToken_1 (by decide) (by first | (rw [c10]; done) | (rw [c10]; rfl)) (by decide) ?_
    refine me_iload_n (q := 140) C dX5_signToken_139 rfl rfl rfl ?_
    refine me_if_eq (q2 := 148) (q := 143) C dX5_signToken_140 (by decide) rfl (fun c11 => ?_) (fun c11 => ?_)
    · have hf := mm_if_t c11 hf
      refine me_bipush (v := (34 : Int32)) (q := 150) C dX5_signToken_148 (by decide) rfl ?_
      exact me_iret C hE (Nat.le_of_ble_eq_true rfl) (Nat.le_of_ble_eq_true rfl) rfl dX5_signToken_150 (mm_ri hf)
    · have hf := mm_if_f c11 hf
      refine me_bipush (v := (33 : Int32)) (q := 145) C dX5_signToken_143 (by decide) rfl ?_
      refine me_goto (q := 150) C dX5_signToken_145 (by decide) ?_
      exact me_iret C hE (Nat.le_of_ble_eq_true rfl) (Nat.le_of_ble_eq_true rfl) rfl dX5_signToken_150 (mm_ri hf)
  have hf := mm_if_f c10 hf
  by_cases c12 : a0 = 91
  · have hf := mm_if_t c12 hf
    refine me_lookup (q := 100) C dX5_signToken_1 (by decide) (by first | (rw [c12]; done) | (rw [c12]; rfl)) (by decide) ?_
    refine me_bipush (v := (22 : Int32)) (q := 102) C dX5_signToken_100 (by decide) rfl ?_
    exact me_iret C hE (Nat.le_of_ble_eq_true rfl) (Nat.le_of_ble_eq_true rfl) rfl dX5_signToken_102 (mm_ri hf)
  have hf := mm_if_f c12 hf
  by_cases c13 : a0 = 93
  · have hf := mm_if_t c13 hf
    refine me_lookup (q := 103) C dX5_signToken_1 (by decide) (by first | (rw [c13]; done) | (rw [c13]; rfl)) (by decide) ?_
    refine me_bipush (v := (23 : Int32)) (q := 105) C dX5_signToken_103 (by decide) rfl ?_
    exact me_iret C hE (Nat.le_of_ble_eq_true rfl) (Nat.le_of_ble_eq_true rfl) rfl dX5_signToken_105 (mm_ri hf)
  have hf := mm_if_f c13 hf
  have wc1 : ¬ a0.toInt = 40 := fun z => c1 (mm_sw z)
  have xc1 : ¬ (40 : Int) = a0.toInt := fun z => c1 (mm_sw z.symm)
  have wc2 : ¬ a0.toInt = 41 := fun z => c2 (mm_sw z)
  have xc2 : ¬ (41 : Int) = a0.toInt := fun z => c2 (mm_sw z.symm)
  have wc3 : ¬ a0.toInt = 42 := fun z => c3 (mm_sw z)
  have xc3 : ¬ (42 : Int) = a0.toInt := fun z => c3 (mm_sw z.symm)
  have wc4 : ¬ a0.toInt = 43 := fun z => c4 (mm_sw z)
  have xc4 : ¬ (43 : Int) = a0.toInt := fun z => c4 (mm_sw z.symm)
  have wc5 : ¬ a0.toInt = 45 := fun z => c5 (mm_sw z)
  have xc5 : ¬ (45 : Int) = a0.toInt := fun z => c5 (mm_sw z.symm)
  have wc6 : ¬ a0.toInt = 59 := fun z => c6 (mm_sw z)
  have xc6 : ¬ (59 : Int) = a0.toInt := fun z => c6 (mm_sw z.symm)
  have wc7 : ¬ a0.toInt = 60 := fun z => c7 (mm_sw z)
  have xc7 : ¬ (60 : Int) = a0.toInt := fun z => c7 (mm_sw z.symm)
  have wc9 : ¬ a0.toInt = 61 := fun z => c9 (mm_sw z)
  have xc9 : ¬ (61 : Int) = a0.toInt := fun z => c9 (mm_sw z.symm)
  have wc10 : ¬ a0.toInt = 62 := fun z => c10 (mm_sw z)
  have xc10 : ¬ (62 : Int) = a0.toInt := fun z => c10 (mm_sw z.symm)
  have wc12 : ¬ a0.toInt = 91 := fun z => c12 (mm_sw z)
  have xc12 : ¬ (91 : Int) = a0.toInt := fun z => c12 (mm_sw z.symm)
  have wc13 : ¬ a0.toInt = 93 := fun z => c13 (mm_sw z)
  have xc13 : ¬ (93 : Int) = a0.toInt := fun z => c13 (mm_sw z.symm)
  refine me_lookup (q := 151) (off := 150) C dX5_signToken_1 (by decide) (by simp [Op.lookupswitch.offset, wc1, xc1, wc2, xc2, wc3, xc3, wc4, xc4, wc5, xc5, wc6, xc6, wc7, xc7, wc9, xc9, wc10, xc10, wc12, xc12, wc13, xc13]) (by decide) ?_
  refine me_bipush (v := (36 : Int32)) (q := 153) C dX5_signToken_151 (by decide) rfl ?_
  exact me_iret C hE (Nat.le_of_ble_eq_true rfl) (Nat.le_of_ble_eq_true rfl) rfl dX5_signToken_153 (mm_ri hf)
set_option maxRecDepth 100000 in
set_option maxHeartbeats 4000000 in
theorem cX5_cutSign_ok (l : Launch) {a0 : Nat} {a1 : Int32} {h : mm_H} {r : Int32} {h1 : mm_H} (hf : fX5_cutSign a0 a1 h = some (r, h1)) : mm_M l yX5_cutSign cX5_cutSign 4 (some .int) 4 0 0 [vR (some a0), vI a1] h (some (vI r)) h1 := by
  refine mm_enter (lv := [some (vR (some a0)), some (vI a1), none, none]) (by decide) rfl (Nat.le_of_ble_eq_true rfl) ?_
  intro X hl C hE
  subst hl
  unfold fX5_cutSign at hf
  refine me_iload_n (q := 1) C dX5_cutSign_0 rfl rfl rfl ?_
  refine me_iconst (v := (1 : Int32)) (q := 2) C dX5_cutSign_1 (by decide) rfl ?_
  refine me_iadd (q := 3) C dX5_cutSign_2 rfl ?_
  refine me_aload_n (q := 4) C dX5_cutSign_3 rfl rfl rfl ?_
  obtain ⟨k1, hf⟩ := mm_ck_some hf
  refine me_getI (q := 7) C dX5_cutSign_4 mf_X5_34 rfl rfl k1 rfl ?_
  obtain ⟨q3, eq3, hf⟩ := mm_jn_some hf
  have Hq3 : ∀ (v2 : Int32), q3 v2 = some (r, h1) → mm_E X h 0 0 28 [some (vR (some a0)), some (vI a1), none, none] [vI v2] := by
    intro v2 hf
    subst eq3
    refine me_istore_n (q := 29) (lv2 := [some (vR (some a0)), some (vI a1), some (vI v2), none]) C dX5_cutSign_28 rfl (Nat.le_of_ble_eq_true rfl) rfl rfl rfl ?_
    refine me_aload_n (q := 30) C dX5_cutSign_29 rfl rfl rfl ?_
    refine me_getR (q := 33) C dX5_cutSign_30 mf_X5_11 rfl rfl k1 rfl ?_
    refine me_iload_n (q := 34) C dX5_cutSign_33 rfl rfl rfl ?_
    obtain ⟨u4, eu4, hf⟩ := mm_rf_some hf
    obtain ⟨k5, hf⟩ := mm_ck_some hf
    obtain ⟨k6, hf⟩ := mm_ck_some hf
    refine me_bald (q := 35) C dX5_cutSign_34 eu4 k5 k6 rfl ?_
    refine me_iload_n (q := 36) C dX5_cutSign_35 rfl rfl rfl ?_
    obtain ⟨v7, g8, e9, hf⟩ := mm_cl_some hf
    refine me_callS (q := 39) (c2 := 0) (s2 := 0) (st := []) C (cX5_signToken_ok _ e9) mt_X5_105 ms_X5_signToken dX5_cutSign_36 rfl rfl rfl (Nat.le_of_ble_eq_true rfl) rfl (Nat.le_of_ble_eq_true rfl) rfl (Nat.le_of_ble_eq_true rfl) rfl rfl ?_
    refine me_istore_n (q := 40) (lv2 := [some (vR (some a0)), some (vI a1), some (vI v2), some (vI v7)]) C dX5_cutSign_39 rfl (Nat.le_of_ble_eq_true rfl) rfl rfl rfl ?_
    refine me_aload_n (q := 41) C dX5_cutSign_40 rfl rfl rfl ?_
    refine me_iload_n (q := 42) C dX5_cutSign_41 rfl rfl rfl ?_
    refine me_iload_n (q := 43) C dX5_cutSign_42 rfl rfl rfl ?_
    refine me_iconst (v := (0 : Int32)) (q := 44) C dX5_cutSign_43 (by decide) rfl ?_
    obtain ⟨k10, hf⟩ := mm_ck_some hf
    obtain ⟨_, g11, e12, hf⟩ := mm_cl_some hf
    refine me_callV (q := 47) (c2 := 0) (s2 := 0) (st := []) C (cX5_putToken_ok _ e12) mt_X5_97 mv_X5_putToken rfl (by decide) dX5_cutSign_44 rfl k10 rfl rfl rfl (Nat.le_of_ble_eq_true rfl) rfl (Nat.le_of_ble_eq_true rfl) rfl (Nat.le_of_ble_eq_true rfl) rfl rfl ?_
    refine me_iload_n (q := 48) C dX5_cutSign_47 rfl rfl rfl ?_
    refine me_bipush (v := (31 : Int32)) (q := 50) C dX5_cutSign_48 (by decide) rfl ?_
    obtain ⟨q13, eq13, hf⟩ := mm_jn_some hf
    have Hq13 : ∀ (_u : Unit), q13 _u = some (r, h1) → mm_E X g11 0 0 59 [none, some (vI a1), none, none] [] := by
      intro _u hf
      subst eq13
      refine me_iload_n (q := 60) C dX5_cutSign_59 rfl rfl rfl ?_
      refine me_iconst (v := (2 : Int32)) (q := 61) C dX5_cutSign_60 (by decide) rfl ?_
      refine me_iadd (q := 62) C dX5_cutSign_61 rfl ?_
      refine me_goto (q := 68) C dX5_cutSign_62 (by decide) ?_
      exact me_iret C hE (Nat.le_of_ble_eq_true rfl) (Nat.le_of_ble_eq_true rfl) rfl dX5_cutSign_68 (mm_ri hf)
    refine me_icmp_eq (q2 := 59) (q := 53) C dX5_cutSign_50 (by decide) rfl (fun c14 => ?_) (fun c14 => ?_)
    · have hf := mm_if_t c14 hf
      refine me_mask [false, true, false, false] (lv2 := [none, some (vI a1), none, none]) rfl ?_
      exact Hq13 () hf
    · have hf := mm_if_f c14 hf
      refine me_iload_n (q := 54) C dX5_cutSign_53 rfl rfl rfl ?_
      refine me_bipush (v := (33 : Int32)) (q := 56) C dX5_cutSign_54 (by decide) rfl ?_
      refine me_icmp_ne (q2 := 65) (q := 59) C dX5_cutSign_56 (by decide) rfl (fun c15 => ?_) (fun c15 => ?_)
      · have hf := mm_if_t c15 hf
        refine me_iload_n (q := 66) C dX5_cutSign_65 rfl rfl rfl ?_
        refine me_iconst (v := (1 : Int32)) (q := 67) C dX5_cutSign_66 (by decide) rfl ?_
        refine me_iadd (q := 68) C dX5_cutSign_67 rfl ?_
        exact me_iret C hE (Nat.le_of_ble_eq_true rfl) (Nat.le_of_ble_eq_true rfl) rfl dX5_cutSign_68 (mm_ri hf)
      · have hf := mm_if_f c15 hf
        refine me_mask [false, true, false, false] (lv2 := [none, some (vI a1), none, none]) rfl ?_
        exact Hq13 () hf
  obtain ⟨q16, eq16, hf⟩ := mm_jn_some hf
  have Hq16 : ∀ (_u : Unit), q16 _u = some (r, h1) → mm_E X h 0 0 27 [some (vR (some a0)), some (vI a1), none, none] [] := by
    intro _u hf
    subst eq16
    refine me_iconst (v := (0 : Int32)) (q := 28) C dX5_cutSign_27 (by decide) rfl ?_
    exact Hq3 _ hf
  refine me_icmp_ge (q2 := 27) (q := 10) C dX5_cutSign_7 (by decide) rfl (fun c17 => ?_) (fun c17 => ?_)
  · have hf := mm_if_t c17 hf
    exact Hq16 () hf
  · have hf := mm_if_f c17 hf
    refine me_aload_n (q := 11) C dX5_cutSign_10 rfl rfl rfl ?_
    refine me_getR (q := 14) C dX5_cutSign_11 mf_X5_11 rfl rfl k1 rfl ?_
    refine me_iload_n (q := 15) C dX5_cutSign_14 rfl rfl rfl ?_
    refine me_iconst (v := (1 : Int32)) (q := 16) C dX5_cutSign_15 (by decide) rfl ?_
    refine me_iadd (q := 17) C dX5_cutSign_16 rfl ?_
    obtain ⟨u18, eu18, hf⟩ := mm_rf_some hf
    obtain ⟨k19, hf⟩ := mm_ck_some hf
    obtain ⟨k20, hf⟩ := mm_ck_some hf
    refine me_bald (q := 18) C dX5_cutSign_17 eu18 k19 k20 rfl ?_
    refine me_bipush (v := (61 : Int32)) (q := 20) C dX5_cutSign_18 (by decide) rfl ?_
    refine me_icmp_ne (q2 := 27) (q := 23) C dX5_cutSign_20 (by decide) rfl (fun c21 => ?_) (fun c21 => ?_)
    · have hf := mm_if_t c21 hf
      exact Hq16 () hf
    · have hf := mm_if_f c21 hf
      refine me_iconst (v := (1 : Int32)) (q := 24) C dX5_cutSign_23 (by decide) rfl ?_
      refine me_goto (q := 28) C dX5_cutSign_24 (by decide) ?_
      exact Hq3 _ hf
set_option maxRecDepth 100000 in
set_option maxHeartbeats 4000000 in
theorem cX5_cutTokens_L9 {X : mm_X} (C : mm_C X cX5_cutTokens yX5_cutTokens 16 0 0) {r : Unit} {h1 : mm_H} (hE : mm_End X 0 0 none none h1) {b0 : Nat} (K87 : mm_H → Option (Unit × mm_H)) : ∀ (n : Nat) (x1 : Int32) (x2 : Int32) (h : mm_H), fX5_cutTokens_L9 b0 K87 n x1 x2 h = some (r, h1) → (∀ (h : mm_H), K87 h = some (r, h1) → mm_E X h 0 0 87 [some (vR (some b0)), none, none, none] []) → mm_E X h 0 0 9 [some (vR (some b0)), some (vI x1), some (vI x2), none] [] := by
  intro n
  induction n with
  | zero =>
    intro x1 x2 h hf
    exact absurd (show (none : Option (Unit × mm_H)) = some (r, h1) from hf) (by simp)
  | succ n ih =>
    intro x1 x2 h hf hk87
    have hf : fX5_cutTokens_L9_b b0 K87 (fX5_cutTokens_L9 b0 K87 n) x1 x2 h = some (r, h1) := hf
    unfold fX5_cutTokens_L9_b at hf
    refine me_iload_n (q := 10) C dX5_cutTokens_9 rfl rfl rfl ?_
    refine me_sipush (v := (400 : Int32)) (q := 13) C dX5_cutTokens_10 (by decide) rfl ?_
    refine me_icmp_ge (q2 := 87) (q := 16) C dX5_cutTokens_13 (by decide) rfl (fun c3 => ?_) (fun c3 => ?_)
    · have hf := mm_if_t c3 hf
      refine me_mask [true, false, false, false] (lv2 := [some (vR (some b0)), none, none, none]) rfl ?_
      exact hk87 _ hf
    · have hf := mm_if_f c3 hf
      refine me_iload_n (q := 17) C dX5_cutTokens_16 rfl rfl rfl ?_
      refine me_aload_n (q := 18) C dX5_cutTokens_17 rfl rfl rfl ?_
      obtain ⟨k4, hf⟩ := mm_ck_some hf
      refine me_getI (q := 21) C dX5_cutTokens_18 mf_X5_34 rfl rfl k4 rfl ?_
      refine me_icmp_ge (q2 := 87) (q := 24) C dX5_cutTokens_21 (by decide) rfl (fun c5 => ?_) (fun c5 => ?_)
      · have hf := mm_if_t c5 hf
        refine me_mask [true, false, false, false] (lv2 := [some (vR (some b0)), none, none, none]) rfl ?_
        exact hk87 _ hf
      · have hf := mm_if_f c5 hf
        refine me_aload_n (q := 25) C dX5_cutTokens_24 rfl rfl rfl ?_
        refine me_getR (q := 28) C dX5_cutTokens_25 mf_X5_11 rfl rfl k4 rfl ?_
        refine me_iload_n (q := 29) C dX5_cutTokens_28 rfl rfl rfl ?_
        obtain ⟨u6, eu6, hf⟩ := mm_rf_some hf
        obtain ⟨k7, hf⟩ := mm_ck_some hf
        obtain ⟨k8, hf⟩ := mm_ck_some hf
        refine me_bald (q := 30) C dX5_cutTokens_29 eu6 k7 k8 rfl ?_
        obtain ⟨v9, ev9, hf⟩ := mm_lt_some hf
        refine me_topI ev9 ?_
        refine me_istore_n (q := 31) (lv2 := [some (vR (some b0)), some (vI x1), some (vI x2), some (vI v9)]) C dX5_cutTokens_30 rfl (Nat.le_of_ble_eq_true rfl) rfl rfl rfl ?_
        refine me_iload_n (q := 32) C dX5_cutTokens_31 rfl rfl rfl ?_
        refine me_bipush (v := (32 : Int32)) (q := 34) C dX5_cutTokens_32 (by decide) rfl ?_
        obtain ⟨q12, eq12, hf⟩ := mm_jn_some hf
        have Hq12 : ∀ (v10 : Int32) (g11 : mm_H), q12 v10 g11 = some (r, h1) → mm_E X g11 0 0 81 [some (vR (some b0)), some (vI v10), some (vI x2), none] [] := by
          intro v10 g11 hf
          subst eq12
          obtain ⟨v13, ev13, hf⟩ := mm_lt_some hf
          refine me_iinc (q := 84) (v := v13) (lv2 := [some (vR (some b0)), some (vI v10), some (vI v13), none]) C dX5_cutTokens_81 rfl (by rw [ev13]; rfl) (Nat.le_of_ble_eq_true rfl) rfl rfl rfl ?_
          refine me_goto (q := 9) C dX5_cutTokens_84 (by decide) ?_
          exact ih _ _ _ hf hk87
        refine me_icmp_ne (q2 := 43) (q := 37) C dX5_cutTokens_34 (by decide) rfl (fun c14 => ?_) (fun c14 => ?_)
        · have hf := mm_if_t c14 hf
          refine me_iload_n (q := 44) C dX5_cutTokens_43 rfl rfl rfl ?_
          obtain ⟨v15, g16, e17, hf⟩ := mm_cl_some hf
          refine me_callS (q := 47) (c2 := 0) (s2 := 0) (st := []) C (cX5_isDigit_ok _ e17) mt_X5_81 ms_X5_isDigit dX5_cutTokens_44 rfl rfl rfl (Nat.le_of_ble_eq_true rfl) rfl (Nat.le_of_ble_eq_true rfl) rfl (Nat.le_of_ble_eq_true rfl) rfl rfl ?_
          refine me_if_eq (q2 := 59) (q := 50) C dX5_cutTokens_47 (by decide) rfl (fun c18 => ?_) (fun c18 => ?_)
          · have hf := mm_if_t c18 hf
            refine me_iload_n (q := 60) C dX5_cutTokens_59 rfl rfl rfl ?_
            obtain ⟨v19, g20, e21, hf⟩ := mm_cl_some hf
            refine me_callS (q := 63) (c2 := 0) (s2 := 0) (st := []) C (cX5_isLetter_ok _ e21) mt_X5_88 ms_X5_isLetter dX5_cutTokens_60 rfl rfl rfl (Nat.le_of_ble_eq_true rfl) rfl (Nat.le_of_ble_eq_true rfl) rfl (Nat.le_of_ble_eq_true rfl) rfl rfl ?_
            refine me_if_eq (q2 := 75) (q := 66) C dX5_cutTokens_63 (by decide) rfl (fun c22 => ?_) (fun c22 => ?_)
            · have hf := mm_if_t c22 hf
              refine me_aload_n (q := 76) C dX5_cutTokens_75 rfl rfl rfl ?_
              refine me_iload_n (q := 77) C dX5_cutTokens_76 rfl rfl rfl ?_
              obtain ⟨k23, hf⟩ := mm_ck_some hf
              obtain ⟨v24, g25, e26, hf⟩ := mm_cl_some hf
              refine me_callV (q := 80) (c2 := 0) (s2 := 0) (st := []) C (cX5_cutSign_ok _ e26) mt_X5_94 mv_X5_cutSign rfl (by decide) dX5_cutTokens_77 rfl k23 rfl rfl rfl (Nat.le_of_ble_eq_true rfl) rfl (Nat.le_of_ble_eq_true rfl) rfl (Nat.le_of_ble_eq_true rfl) rfl rfl ?_
              refine me_istore_n (q := 81) (lv2 := [some (vR (some b0)), some (vI v24), some (vI x2), some (vI v9)]) C dX5_cutTokens_80 rfl (Nat.le_of_ble_eq_true rfl) rfl rfl rfl ?_
              refine me_mask [true, true, true, false] (lv2 := [some (vR (some b0)), some (vI v24), some (vI x2), none]) rfl ?_
              exact Hq12 _ _ hf
            · have hf := mm_if_f c22 hf
              refine me_aload_n (q := 67) C dX5_cutTokens_66 rfl rfl rfl ?_
              refine me_iload_n (q := 68) C dX5_cutTokens_67 rfl rfl rfl ?_
              obtain ⟨k27, hf⟩ := mm_ck_some hf
              obtain ⟨v28, g29, e30, hf⟩ := mm_cl_some hf
              refine me_callV (q := 71) (c2 := 0) (s2 := 0) (st := []) C (cX5_cutWord_ok _ e30) mt_X5_91 mv_X5_cutWord rfl (by decide) dX5_cutTokens_68 rfl k27 rfl rfl rfl (Nat.le_of_ble_eq_true rfl) rfl (Nat.le_of_ble_eq_true rfl) rfl (Nat.le_of_ble_eq_true rfl) rfl rfl ?_
              refine me_istore_n (q := 72) (lv2 := [some (vR (some b0)), some (vI v28), some (vI x2), some (vI v9)]) C dX5_cutTokens_71 rfl (Nat.le_of_ble_eq_true rfl) rfl rfl rfl ?_
              refine me_goto (q := 81) C dX5_cutTokens_72 (by decide) ?_
              refine me_mask [true, true, true, false] (lv2 := [some (vR (some b0)), some (vI v28), some (vI x2), none]) rfl ?_
              exact Hq12 _ _ hf
          · have hf := mm_if_f c18 hf
            refine me_aload_n (q := 51) C dX5_cutTokens_50 rfl rfl rfl ?_
            refine me_iload_n (q := 52) C dX5_cutTokens_51 rfl rfl rfl ?_
            obtain ⟨k31, hf⟩ := mm_ck_some hf
            obtain ⟨v32, g33, e34, hf⟩ := mm_cl_some hf
            refine me_callV (q := 55) (c2 := 0) (s2 := 0) (st := []) C (cX5_cutNumber_ok _ e34) mt_X5_84 mv_X5_cutNumber rfl (by decide) dX5_cutTokens_52 rfl k31 rfl rfl rfl (Nat.le_of_ble_eq_true rfl) rfl (Nat.le_of_ble_eq_true rfl) rfl (Nat.le_of_ble_eq_true rfl) rfl rfl ?_
            refine me_istore_n (q := 56) (lv2 := [some (vR (some b0)), some (vI v32), some (vI x2), some (vI v9)]) C dX5_cutTokens_55 rfl (Nat.le_of_ble_eq_true rfl) rfl rfl rfl ?_
            refine me_goto (q := 81) C dX5_cutTokens_56 (by decide) ?_
            refine me_mask [true, true, true, false] (lv2 := [some (vR (some b0)), some (vI v32), some (vI x2), none]) rfl ?_
            exact Hq12 _ _ hf
        · have hf := mm_if_f c14 hf
          obtain ⟨v35, ev35, hf⟩ := mm_lt_some hf
          refine me_iinc (q := 40) (v := v35) (lv2 := [some (vR (some b0)), some (vI v35), some (vI x2), some (vI v9)]) C dX5_cutTokens_37 rfl (by rw [ev35]; rfl) (Nat.le_of_ble_eq_true rfl) rfl rfl rfl ?_
          refine me_goto (q := 81) C dX5_cutTokens_40 (by decide) ?_
          refine me_mask [true, true, true, false] (lv2 := [some (vR (some b0)), some (vI v35), some (vI x2), none]) rfl ?_
          exact Hq12 _ _ hf
set_option maxRecDepth 100000 in
set_option maxHeartbeats 4000000 in
theorem cX5_cutTokens_ok (l : Launch) {a0 : Nat} {h : mm_H} {r : Unit} {h1 : mm_H} (hf : fX5_cutTokens a0 h = some (r, h1)) : mm_M l yX5_cutTokens cX5_cutTokens 4 none 16 0 0 [vR (some a0)] h none h1 := by
  refine mm_enter (lv := [some (vR (some a0)), none, none, none]) (by decide) rfl (Nat.le_of_ble_eq_true rfl) ?_
  intro X hl C hE
  subst hl
  unfold fX5_cutTokens at hf
  refine me_aload_n (q := 1) C dX5_cutTokens_0 rfl rfl rfl ?_
  refine me_iconst (v := (0 : Int32)) (q := 2) C dX5_cutTokens_1 (by decide) rfl ?_
  obtain ⟨k1, hf⟩ := mm_ck_some hf
  obtain ⟨g2, eg2, hf⟩ := mm_lt_some hf
  refine me_putI (q := 5) C eg2 dX5_cutTokens_2 mf_X5_78 mp_X5_6_5 rfl (by decide) rfl k1 rfl ?_
  refine me_iconst (v := (0 : Int32)) (q := 6) C dX5_cutTokens_5 (by decide) rfl ?_
  refine me_istore_n (q := 7) (lv2 := [some (vR (some a0)), some (vI (0 : Int32)), none, none]) C dX5_cutTokens_6 rfl (Nat.le_of_ble_eq_true rfl) rfl rfl rfl ?_
  refine me_iconst (v := (0 : Int32)) (q := 8) C dX5_cutTokens_7 (by decide) rfl ?_
  refine me_istore_n (q := 9) (lv2 := [some (vR (some a0)), some (vI (0 : Int32)), some (vI (0 : Int32)), none]) C dX5_cutTokens_8 rfl (Nat.le_of_ble_eq_true rfl) rfl rfl rfl ?_
  refine cX5_cutTokens_L9 C hE _ _ _ _ _ hf ?_
  · intro g36 hf
    refine me_aload_n (q := 88) C dX5_cutTokens_87 rfl rfl rfl ?_
    refine me_bipush (v := (35 : Int32)) (q := 90) C dX5_cutTokens_88 (by decide) rfl ?_
    refine me_aload_n (q := 91) C dX5_cutTokens_90 rfl rfl rfl ?_
    obtain ⟨k37, hf⟩ := mm_ck_some hf
    refine me_getI (q := 94) C dX5_cutTokens_91 mf_X5_34 rfl rfl k37 rfl ?_
    refine me_iconst (v := (0 : Int32)) (q := 95) C dX5_cutTokens_94 (by decide) rfl ?_
    obtain ⟨_, g38, e39, hf⟩ := mm_cl_some hf
    refine me_callV (q := 98) (c2 := 0) (s2 := 0) (st := []) C (cX5_putToken_ok _ e39) mt_X5_97 mv_X5_putToken rfl (by decide) dX5_cutTokens_95 rfl k37 rfl rfl rfl (Nat.le_of_ble_eq_true rfl) rfl (Nat.le_of_ble_eq_true rfl) rfl (Nat.le_of_ble_eq_true rfl) rfl rfl ?_
    exact me_vret C hE (Nat.le_of_ble_eq_true rfl) (Nat.le_of_ble_eq_true rfl) rfl dX5_cutTokens_98 (mm_ru hf)
set_option maxRecDepth 100000 in
set_option maxHeartbeats 4000000 in
theorem cX5_fail_ok (l : Launch) {a0 : Nat} {a1 : Int32} {h : mm_H} {r : Int32} {h1 : mm_H} (hf : fX5_fail a0 a1 h = some (r, h1)) : mm_M l yX5_fail cX5_fail 2 (some .boolean) 2 0 0 [vR (some a0), vI a1] h (some (vI r)) h1 := by
  refine mm_enter (lv := [some (vR (some a0)), some (vI a1)]) (by decide) rfl (Nat.le_of_ble_eq_true rfl) ?_
  intro X hl C hE
  subst hl
  unfold fX5_fail at hf
  refine me_aload_n (q := 1) C dX5_fail_0 rfl rfl rfl ?_
  refine me_iconst (v := (1 : Int32)) (q := 2) C dX5_fail_1 (by decide) rfl ?_
  refine me_bipush (v := (8 : Int32)) (q := 4) C dX5_fail_2 (by decide) rfl ?_
  refine me_aload_n (q := 5) C dX5_fail_4 rfl rfl rfl ?_
  obtain ⟨k1, hf⟩ := mm_ck_some hf
  refine me_getR (q := 8) C dX5_fail_5 mf_X5_19 rfl rfl k1 rfl ?_
  refine me_aload_n (q := 9) C dX5_fail_8 rfl rfl rfl ?_
  refine me_getI (q := 12) C dX5_fail_9 mf_X5_45 rfl rfl k1 rfl ?_
  obtain ⟨u2, eu2, hf⟩ := mm_rf_some hf
  obtain ⟨k3, hf⟩ := mm_ck_some hf
  obtain ⟨k4, hf⟩ := mm_ck_some hf
  refine me_iald (q := 13) C dX5_fail_12 eu2 k3 k4 rfl ?_
  refine me_imul (q := 14) C dX5_fail_13 rfl ?_
  refine me_iadd (q := 15) C dX5_fail_14 rfl ?_
  refine me_iload_n (q := 16) C dX5_fail_15 rfl rfl rfl ?_
  refine me_iadd (q := 17) C dX5_fail_16 rfl ?_
  obtain ⟨g5, eg5, hf⟩ := mm_lt_some hf
  refine me_putI (q := 20) C eg5 dX5_fail_17 mf_X5_51 mp_X5_6_8 rfl (by decide) rfl k1 rfl ?_
  refine me_iconst (v := (0 : Int32)) (q := 21) C dX5_fail_20 (by decide) rfl ?_
  exact me_zret C hE (Nat.le_of_ble_eq_true rfl) (Nat.le_of_ble_eq_true rfl) rfl (Or.inl rfl) dX5_fail_21 (mm_ri hf)
set_option maxRecDepth 100000 in
set_option maxHeartbeats 4000000 in
theorem cX5_goOn_ok (l : Launch) {a0 : Nat} {h : mm_H} {r : Unit} {h1 : mm_H} (hf : fX5_goOn a0 h = some (r, h1)) : mm_M l yX5_goOn cX5_goOn 1 none 2 0 0 [vR (some a0)] h none h1 := by
  refine mm_enter (lv := [some (vR (some a0))]) (by decide) rfl (Nat.le_of_ble_eq_true rfl) ?_
  intro X hl C hE
  subst hl
  unfold fX5_goOn at hf
  refine me_aload_n (q := 1) C dX5_goOn_0 rfl rfl rfl ?_
  obtain ⟨k1, hf⟩ := mm_ck_some hf
  refine me_getI (q := 4) C dX5_goOn_1 mf_X5_45 rfl rfl k1 rfl ?_
  refine me_iconst (v := (1 : Int32)) (q := 5) C dX5_goOn_4 (by decide) rfl ?_
  refine me_iadd (q := 6) C dX5_goOn_5 rfl ?_
  refine me_aload_n (q := 7) C dX5_goOn_6 rfl rfl rfl ?_
  refine me_getI (q := 10) C dX5_goOn_7 mf_X5_78 rfl rfl k1 rfl ?_
  refine me_icmp_ge (q2 := 23) (q := 13) C dX5_goOn_10 (by decide) rfl (fun c2 => ?_) (fun c2 => ?_)
  · have hf := mm_if_t c2 hf
    exact me_vret C hE (Nat.le_of_ble_eq_true rfl) (Nat.le_of_ble_eq_true rfl) rfl dX5_goOn_23 (mm_ru hf)
  · have hf := mm_if_f c2 hf
    refine me_aload_n (q := 14) C dX5_goOn_13 rfl rfl rfl ?_
    refine me_dup (q := 15) C dX5_goOn_14 rfl rfl ?_
    refine me_getI (q := 18) C dX5_goOn_15 mf_X5_45 rfl rfl k1 rfl ?_
    refine me_iconst (v := (1 : Int32)) (q := 19) C dX5_goOn_18 (by decide) rfl ?_
    refine me_iadd (q := 20) C dX5_goOn_19 rfl ?_
    obtain ⟨g3, eg3, hf⟩ := mm_lt_some hf
    refine me_putI (q := 23) C eg3 dX5_goOn_20 mf_X5_45 mp_X5_6_6 rfl (by decide) rfl k1 rfl ?_
    exact me_vret C hE (Nat.le_of_ble_eq_true rfl) (Nat.le_of_ble_eq_true rfl) rfl dX5_goOn_23 (mm_ru hf)
set_option maxRecDepth 100000 in
set_option maxHeartbeats 4000000 in
theorem cX5_readFine_ok (l : Launch) {a0 : Nat} {h : mm_H} {r : Int32} {h1 : mm_H} (hf : fX5_readFine a0 h = some (r, h1)) : mm_M l yX5_readFine cX5_readFine 1 (some .boolean) 4 0 0 [vR (some a0)] h (some (vI r)) h1 := by
  refine mm_enter (lv := [some (vR (some a0))]) (by decide) rfl (Nat.le_of_ble_eq_true rfl) ?_
  intro X hl C hE
  subst hl
  unfold fX5_readFine at hf
  refine me_aload_n (q := 1) C dX5_readFine_0 rfl rfl rfl ?_
  obtain ⟨k1, hf⟩ := mm_ck_some hf
  refine me_getR (q := 4) C dX5_readFine_1 mf_X5_15 rfl rfl k1 rfl ?_
  refine me_aload_n (q := 5) C dX5_readFine_4 rfl rfl rfl ?_
  refine me_getI (q := 8) C dX5_readFine_5 mf_X5_45 rfl rfl k1 rfl ?_
  obtain ⟨u2, eu2, hf⟩ := mm_rf_some hf
  obtain ⟨k3, hf⟩ := mm_ck_some hf
  obtain ⟨k4, hf⟩ := mm_ck_some hf
  refine me_iald (q := 9) C dX5_readFine_8 eu2 k3 k4 rfl ?_
  refine me_bipush (v := (21 : Int32)) (q := 11) C dX5_readFine_9 (by decide) rfl ?_
  refine me_icmp_eq (q2 := 20) (q := 14) C dX5_readFine_11 (by decide) rfl (fun c5 => ?_) (fun c5 => ?_)
  · have hf := mm_if_t c5 hf
    refine me_aload_n (q := 21) C dX5_readFine_20 rfl rfl rfl ?_
    refine me_getR (q := 24) C dX5_readFine_21 mf_X5_22 rfl rfl k1 rfl ?_
    refine me_aload_n (q := 25) C dX5_readFine_24 rfl rfl rfl ?_
    refine me_getI (q := 28) C dX5_readFine_25 mf_X5_45 rfl rfl k1 rfl ?_
    obtain ⟨u6, eu6, hf⟩ := mm_rf_some hf
    obtain ⟨k7, hf⟩ := mm_ck_some hf
    obtain ⟨k8, hf⟩ := mm_ck_some hf
    refine me_iald (q := 29) C dX5_readFine_28 eu6 k7 k8 rfl ?_
    refine me_iconst (v := (-1 : Int32)) (q := 30) C dX5_readFine_29 (by decide) rfl ?_
    refine me_icmp_ne (q2 := 39) (q := 33) C dX5_readFine_30 (by decide) rfl (fun c9 => ?_) (fun c9 => ?_)
    · have hf := mm_if_t c9 hf
      refine me_aload_n (q := 40) C dX5_readFine_39 rfl rfl rfl ?_
      refine me_getR (q := 43) C dX5_readFine_40 mf_X5_28 rfl rfl k1 rfl ?_
      refine me_aload_n (q := 44) C dX5_readFine_43 rfl rfl rfl ?_
      refine me_getI (q := 47) C dX5_readFine_44 mf_X5_57 rfl rfl k1 rfl ?_
      refine me_bipush (v := (10 : Int32)) (q := 49) C dX5_readFine_47 (by decide) rfl ?_
      refine me_aload_n (q := 50) C dX5_readFine_49 rfl rfl rfl ?_
      refine me_getR (q := 53) C dX5_readFine_50 mf_X5_22 rfl rfl k1 rfl ?_
      refine me_aload_n (q := 54) C dX5_readFine_53 rfl rfl rfl ?_
      refine me_getI (q := 57) C dX5_readFine_54 mf_X5_45 rfl rfl k1 rfl ?_
      obtain ⟨k10, hf⟩ := mm_ck_some hf
      refine me_iald (q := 58) C dX5_readFine_57 eu6 k7 k10 rfl ?_
      refine me_iadd (q := 59) C dX5_readFine_58 rfl ?_
      obtain ⟨u11, eu11, hf⟩ := mm_rf_some hf
      obtain ⟨k12, hf⟩ := mm_ck_some hf
      obtain ⟨k13, hf⟩ := mm_ck_some hf
      obtain ⟨g14, eg14, hf⟩ := mm_lt_some hf
      refine me_iastH (q := 60) C eg14 dX5_readFine_59 eu11 k12 k13 rfl ?_
      refine me_aload_n (q := 61) C dX5_readFine_60 rfl rfl rfl ?_
      obtain ⟨_, g15, e16, hf⟩ := mm_cl_some hf
      refine me_callV (q := 64) (c2 := 0) (s2 := 0) (st := []) C (cX5_goOn_ok _ e16) mt_X5_124 mv_X5_goOn rfl (by decide) dX5_readFine_61 rfl (mm_kI eg14 k1) rfl rfl rfl (Nat.le_of_ble_eq_true rfl) rfl (Nat.le_of_ble_eq_true rfl) rfl (Nat.le_of_ble_eq_true rfl) rfl rfl ?_
      refine me_iconst (v := (1 : Int32)) (q := 65) C dX5_readFine_64 (by decide) rfl ?_
      exact me_zret C hE (Nat.le_of_ble_eq_true rfl) (Nat.le_of_ble_eq_true rfl) rfl (Or.inr rfl) dX5_readFine_65 (mm_ri hf)
    · have hf := mm_if_f c9 hf
      refine me_aload_n (q := 34) C dX5_readFine_33 rfl rfl rfl ?_
      refine me_iconst (v := (1 : Int32)) (q := 35) C dX5_readFine_34 (by decide) rfl ?_
      obtain ⟨v17, g18, e19, hf⟩ := mm_cl_some hf
      refine me_callV (q := 38) (c2 := 0) (s2 := 0) (st := []) C (cX5_fail_ok _ e19) mt_X5_121 mv_X5_fail rfl (by decide) dX5_readFine_35 rfl k1 rfl rfl rfl (Nat.le_of_ble_eq_true rfl) rfl (Nat.le_of_ble_eq_true rfl) rfl (Nat.le_of_ble_eq_true rfl) rfl rfl ?_
      obtain ⟨k20, hf⟩ := mm_ck_some hf
      exact me_zret C hE (Nat.le_of_ble_eq_true rfl) (Nat.le_of_ble_eq_true rfl) rfl k20 dX5_readFine_38 (mm_ri hf)
  · have hf := mm_if_f c5 hf
    refine me_aload_n (q := 15) C dX5_readFine_14 rfl rfl rfl ?_
    refine me_iconst (v := (0 : Int32)) (q := 16) C dX5_readFine_15 (by decide) rfl ?_
    obtain ⟨v21, g22, e23, hf⟩ := mm_cl_some hf
    refine me_callV (q := 19) (c2 := 0) (s2 := 0) (st := []) C (cX5_fail_ok _ e23) mt_X5_121 mv_X5_fail rfl (by decide) dX5_readFine_16 rfl k1 rfl rfl rfl (Nat.le_of_ble_eq_true rfl) rfl (Nat.le_of_ble_eq_true rfl) rfl (Nat.le_of_ble_eq_true rfl) rfl rfl ?_
    obtain ⟨k24, hf⟩ := mm_ck_some hf
    exact me_zret C hE (Nat.le_of_ble_eq_true rfl) (Nat.le_of_ble_eq_true rfl) rfl k24 dX5_readFine_19 (mm_ri hf)
set_option maxRecDepth 100000 in
set_option maxHeartbeats 4000000 in
theorem cX5_pass_ok (l : Launch) {a0 : Nat} {a1 : Int32} {h : mm_H} {r : Int32} {h1 : mm_H} (hf : fX5_pass a0 a1 h = some (r, h1)) : mm_M l yX5_pass cX5_pass 2 (some .boolean) 4 0 0 [vR (some a0), vI a1] h (some (vI r)) h1 := by
  refine mm_enter (lv := [some (vR (some a0)), some (vI a1)]) (by decide) rfl (Nat.le_of_ble_eq_true rfl) ?_
  intro X hl C hE
  subst hl
  unfold fX5_pass at hf
  refine me_aload_n (q := 1) C dX5_pass_0 rfl rfl rfl ?_
  obtain ⟨k1, hf⟩ := mm_ck_some hf
  refine me_getR (q := 4) C dX5_pass_1 mf_X5_15 rfl rfl k1 rfl ?_
  refine me_aload_n (q := 5) C dX5_pass_4 rfl rfl rfl ?_
  refine me_getI (q := 8) C dX5_pass_5 mf_X5_45 rfl rfl k1 rfl ?_
  obtain ⟨u2, eu2, hf⟩ := mm_rf_some hf
  obtain ⟨k3, hf⟩ := mm_ck_some hf
  obtain ⟨k4, hf⟩ := mm_ck_some hf
  refine me_iald (q := 9) C dX5_pass_8 eu2 k3 k4 rfl ?_
  refine me_iload_n (q := 10) C dX5_pass_9 rfl rfl rfl ?_
  refine me_icmp_eq (q2 := 19) (q := 13) C dX5_pass_10 (by decide) rfl (fun c5 => ?_) (fun c5 => ?_)
  · have hf := mm_if_t c5 hf
    refine me_aload_n (q := 20) C dX5_pass_19 rfl rfl rfl ?_
    obtain ⟨_, g6, e7, hf⟩ := mm_cl_some hf
    refine me_callV (q := 23) (c2 := 0) (s2 := 0) (st := []) C (cX5_goOn_ok _ e7) mt_X5_124 mv_X5_goOn rfl (by decide) dX5_pass_20 rfl k1 rfl rfl rfl (Nat.le_of_ble_eq_true rfl) rfl (Nat.le_of_ble_eq_true rfl) rfl (Nat.le_of_ble_eq_true rfl) rfl rfl ?_
    refine me_iconst (v := (1 : Int32)) (q := 24) C dX5_pass_23 (by decide) rfl ?_
    exact me_zret C hE (Nat.le_of_ble_eq_true rfl) (Nat.le_of_ble_eq_true rfl) rfl (Or.inr rfl) dX5_pass_24 (mm_ri hf)
  · have hf := mm_if_f c5 hf
    refine me_aload_n (q := 14) C dX5_pass_13 rfl rfl rfl ?_
    refine me_iconst (v := (0 : Int32)) (q := 15) C dX5_pass_14 (by decide) rfl ?_
    obtain ⟨v8, g9, e10, hf⟩ := mm_cl_some hf
    refine me_callV (q := 18) (c2 := 0) (s2 := 0) (st := []) C (cX5_fail_ok _ e10) mt_X5_121 mv_X5_fail rfl (by decide) dX5_pass_15 rfl k1 rfl rfl rfl (Nat.le_of_ble_eq_true rfl) rfl (Nat.le_of_ble_eq_true rfl) rfl (Nat.le_of_ble_eq_true rfl) rfl rfl ?_
    obtain ⟨k11, hf⟩ := mm_ck_some hf
    exact me_zret C hE (Nat.le_of_ble_eq_true rfl) (Nat.le_of_ble_eq_true rfl) rfl k11 dX5_pass_18 (mm_ri hf)
set_option maxRecDepth 100000 in
set_option maxHeartbeats 4000000 in
theorem cX5_emit_ok (l : Launch) {a0 : Nat} {a1 : Int32} {h : mm_H} {r : Unit} {h1 : mm_H} (hf : fX5_emit a0 a1 h = some (r, h1)) : mm_M l yX5_emit cX5_emit 2 none 2 0 0 [vR (some a0), vI a1] h none h1 := by
  refine mm_enter (lv := [some (vR (some a0)), some (vI a1)]) (by decide) rfl (Nat.le_of_ble_eq_true rfl) ?_
  intro X hl C hE
  subst hl
  unfold fX5_emit at hf
  refine me_aload_n (q := 1) C dX5_emit_0 rfl rfl rfl ?_
  obtain ⟨k1, hf⟩ := mm_ck_some hf
  refine me_getI (q := 4) C dX5_emit_1 mf_X5_54 rfl rfl k1 rfl ?_
  refine me_aload_n (q := 5) C dX5_emit_4 rfl rfl rfl ?_
  refine me_getR (q := 8) C dX5_emit_5 mf_X5_25 rfl rfl k1 rfl ?_
  obtain ⟨u2, eu2, hf⟩ := mm_rf_some hf
  obtain ⟨k3, hf⟩ := mm_ck_some hf
  refine me_alen (q := 9) C 0 rfl (by decide) dX5_emit_8 eu2 k3 rfl ?_
  refine me_icmp_ge (q2 := 32) (q := 12) C dX5_emit_9 (by decide) rfl (fun c4 => ?_) (fun c4 => ?_)
  · have hf := mm_if_t c4 hf
    exact me_vret C hE (Nat.le_of_ble_eq_true rfl) (Nat.le_of_ble_eq_true rfl) rfl dX5_emit_32 (mm_ru hf)
  · have hf := mm_if_f c4 hf
    refine me_aload_n (q := 13) C dX5_emit_12 rfl rfl rfl ?_
    refine me_getR (q := 16) C dX5_emit_13 mf_X5_25 rfl rfl k1 rfl ?_
    refine me_aload_n (q := 17) C dX5_emit_16 rfl rfl rfl ?_
    refine me_getI (q := 20) C dX5_emit_17 mf_X5_54 rfl rfl k1 rfl ?_
    refine me_iload_n (q := 21) C dX5_emit_20 rfl rfl rfl ?_
    obtain ⟨k5, hf⟩ := mm_ck_some hf
    obtain ⟨g6, eg6, hf⟩ := mm_lt_some hf
    refine me_iastH (q := 22) C eg6 dX5_emit_21 eu2 k3 k5 rfl ?_
    refine me_aload_n (q := 23) C dX5_emit_22 rfl rfl rfl ?_
    refine me_dup (q := 24) C dX5_emit_23 rfl rfl ?_
    refine me_getI (q := 27) C dX5_emit_24 mf_X5_54 rfl rfl (mm_kI eg6 k1) rfl ?_
    refine me_iconst (v := (1 : Int32)) (q := 28) C dX5_emit_27 (by decide) rfl ?_
    refine me_iadd (q := 29) C dX5_emit_28 rfl ?_
    obtain ⟨g7, eg7, hf⟩ := mm_lt_some hf
    refine me_putI (q := 32) C eg7 dX5_emit_29 mf_X5_54 mp_X5_6_10 rfl (by decide) rfl (mm_kI eg6 k1) rfl ?_
    exact me_vret C hE (Nat.le_of_ble_eq_true rfl) (Nat.le_of_ble_eq_true rfl) rfl dX5_emit_32 (mm_ru hf)
set_option maxRecDepth 100000 in
set_option maxHeartbeats 4000000 in
theorem cX5_readValue_g_ok (l : Launch) {lx : Nat} (hlx : 3 ≤ lx) {rc0 : Nat → Int32 → mm_H → Option (Int32 × mm_H)} {rc1 : Nat → Int32 → mm_H → Option (Int32 × mm_H)} (hr0 : ∀ {a0 : Nat} {a1 : Int32} {h : mm_H} {r : Int32} {h1 : mm_H}, rc0 a0 a1 h = some (r, h1) → mm_M l yX5_readValue cX5_readValue 4 (some .boolean) lx 0 0 [vR (some a0), vI a1] h (some (vI r)) h1) (hr1 : ∀ {a0 : Nat} {a1 : Int32} {h : mm_H} {r : Int32} {h1 : mm_H}, rc1 a0 a1 h = some (r, h1) → mm_M l yX5_readSum cX5_readSum 6 (some .boolean) lx 0 0 [vR (some a0), vI a1] h (some (vI r)) h1) {a0 : Nat} {a1 : Int32} {h : mm_H} {r : Int32} {h1 : mm_H} (hf : fX5_readValue_g rc0 rc1 a0 a1 h = some (r, h1)) : mm_M l yX5_readValue cX5_readValue 4 (some .boolean) (lx + 1) 0 0 [vR (some a0), vI a1] h (some (vI r)) h1 := by
  refine mm_enter (lv := [some (vR (some a0)), some (vI a1), none, none]) (by decide) rfl (Nat.le_of_ble_eq_true rfl) ?_
  intro X hl C hE
  subst hl
  unfold fX5_readValue_g at hf
  refine me_aload_n (q := 1) C dX5_readValue_0 rfl rfl rfl ?_
  obtain ⟨k1, hf⟩ := mm_ck_some hf
  refine me_getR (q := 4) C dX5_readValue_1 mf_X5_15 rfl rfl k1 rfl ?_
  refine me_aload_n (q := 5) C dX5_readValue_4 rfl rfl rfl ?_
  refine me_getI (q := 8) C dX5_readValue_5 mf_X5_45 rfl rfl k1 rfl ?_
  obtain ⟨u2, eu2, hf⟩ := mm_rf_some hf
  obtain ⟨k3, hf⟩ := mm_ck_some hf
  obtain ⟨k4, hf⟩ := mm_ck_some hf
  refine me_iald (q := 9) C dX5_readValue_8 eu2 k3 k4 rfl ?_
  obtain ⟨v5, ev5, hf⟩ := mm_lt_some hf
  refine me_topI ev5 ?_
  refine me_istore_n (q := 10) (lv2 := [some (vR (some a0)), some (vI a1), some (vI v5), none]) C dX5_readValue_9 rfl (Nat.le_of_ble_eq_true rfl) rfl rfl rfl ?_
  refine me_iload_n (q := 11) C dX5_readValue_10 rfl rfl rfl ?_
  refine me_bipush (v := (24 : Int32)) (q := 13) C dX5_readValue_11 (by decide) rfl ?_
  obtain ⟨q7, eq7, hf⟩ := mm_jn_some hf
  have Hq7 : ∀ (v6 : Int32), q7 v6 = some (r, h1) → mm_E X h 0 0 21 [some (vR (some a0)), some (vI a1), some (vI v5), none] [vI v6] := by
    intro v6 hf
    subst eq7
    refine me_istore_n (q := 22) (lv2 := [some (vR (some a0)), some (vI a1), some (vI v5), some (vI v6)]) C dX5_readValue_21 rfl (Nat.le_of_ble_eq_true rfl) rfl rfl rfl ?_
    refine me_iload_n (q := 23) C dX5_readValue_22 rfl rfl rfl ?_
    obtain ⟨q8, eq8, hf⟩ := mm_jn_some hf
    have Hq8 : ∀ (_u : Unit), q8 _u = some (r, h1) → mm_E X h 0 0 44 [some (vR (some a0)), some (vI a1), some (vI v5), some (vI v6)] [] := by
      intro _u hf
      subst eq8
      refine me_iload_n (q := 45) C dX5_readValue_44 rfl rfl rfl ?_
      refine me_bipush (v := (21 : Int32)) (q := 47) C dX5_readValue_45 (by decide) rfl ?_
      obtain ⟨q9, eq9, hf⟩ := mm_jn_some hf
      have Hq9 : ∀ (_u : Unit), q9 _u = some (r, h1) → mm_E X h 0 0 69 [some (vR (some a0)), some (vI a1), some (vI v5), some (vI v6)] [] := by
        intro _u hf
        subst eq9
        refine me_iload_n (q := 70) C dX5_readValue_69 rfl rfl rfl ?_
        obtain ⟨q10, eq10, hf⟩ := mm_jn_some hf
        have Hq10 : ∀ (_u : Unit), q10 _u = some (r, h1) → mm_E X h 0 0 85 [some (vR (some a0)), some (vI a1), some (vI v5), some (vI v6)] [] := by
          intro _u hf
          subst eq10
          refine me_aload_n (q := 86) C dX5_readValue_85 rfl rfl rfl ?_
          refine me_getI (q := 89) C dX5_readValue_86 mf_X5_48 rfl rfl k1 rfl ?_
          refine me_bipush (v := (80 : Int32)) (q := 91) C dX5_readValue_89 (by decide) rfl ?_
          refine me_icmp_lt (q2 := 100) (q := 94) C dX5_readValue_91 (by decide) rfl (fun c11 => ?_) (fun c11 => ?_)
          · have hf := mm_if_t c11 hf
            refine me_aload_n (q := 101) C dX5_readValue_100 rfl rfl rfl ?_
            refine me_dup (q := 102) C dX5_readValue_101 rfl rfl ?_
            refine me_getI (q := 105) C dX5_readValue_102 mf_X5_48 rfl rfl k1 rfl ?_
            refine me_iconst (v := (1 : Int32)) (q := 106) C dX5_readValue_105 (by decide) rfl ?_
            refine me_iadd (q := 107) C dX5_readValue_106 rfl ?_
            obtain ⟨g12, eg12, hf⟩ := mm_lt_some hf
            refine me_putI (q := 110) C eg12 dX5_readValue_107 mf_X5_48 mp_X5_6_7 rfl (by decide) rfl k1 rfl ?_
            refine me_iload_n (q := 111) C dX5_readValue_110 rfl rfl rfl ?_
            refine me_if_ne (q2 := 145) (q := 114) C dX5_readValue_111 (by decide) rfl (fun c13 => ?_) (fun c13 => ?_)
            · have hf := mm_if_t c13 hf
              refine me_aload_n (q := 146) C dX5_readValue_145 rfl rfl rfl ?_
              obtain ⟨_, g14, e15, hf⟩ := mm_cl_some hf
              refine me_callV (q := 149) (c2 := 0) (s2 := 0) (st := []) C (cX5_goOn_ok _ e15) mt_X5_124 mv_X5_goOn rfl (by decide) dX5_readValue_146 rfl (mm_kI eg12 k1) rfl rfl rfl (by omega) rfl (Nat.le_of_ble_eq_true rfl) rfl (Nat.le_of_ble_eq_true rfl) rfl rfl ?_
              refine me_aload_n (q := 150) C dX5_readValue_149 rfl rfl rfl ?_
              refine me_iload_n (q := 151) C dX5_readValue_150 rfl rfl rfl ?_
              refine me_iconst (v := (1 : Int32)) (q := 152) C dX5_readValue_151 (by decide) rfl ?_
              refine me_iadd (q := 153) C dX5_readValue_152 rfl ?_
              obtain ⟨k16, hf⟩ := mm_ck_some hf
              obtain ⟨v17, g18, e19, hf⟩ := mm_cl_some hf
              refine me_callV (q := 156) (c2 := 0) (s2 := 0) (st := []) C (hr1 e19) mt_X5_140 mv_X5_readSum rfl (by decide) dX5_readValue_153 rfl k16 rfl rfl rfl (by omega) rfl (Nat.le_of_ble_eq_true rfl) rfl (Nat.le_of_ble_eq_true rfl) rfl rfl ?_
              refine me_if_ne (q2 := 161) (q := 159) C dX5_readValue_156 (by decide) rfl (fun c20 => ?_) (fun c20 => ?_)
              · have hf := mm_if_t c20 hf
                refine me_aload_n (q := 162) C dX5_readValue_161 rfl rfl rfl ?_
                obtain ⟨k21, hf⟩ := mm_ck_some hf
                refine me_getR (q := 165) C dX5_readValue_162 mf_X5_15 rfl rfl k21 rfl ?_
                refine me_aload_n (q := 166) C dX5_readValue_165 rfl rfl rfl ?_
                refine me_getI (q := 169) C dX5_readValue_166 mf_X5_45 rfl rfl k21 rfl ?_
                obtain ⟨u22, eu22, hf⟩ := mm_rf_some hf
                obtain ⟨k23, hf⟩ := mm_ck_some hf
                obtain ⟨k24, hf⟩ := mm_ck_some hf
                refine me_iald (q := 170) C dX5_readValue_169 eu22 k23 k24 rfl ?_
                refine me_bipush (v := (25 : Int32)) (q := 172) C dX5_readValue_170 (by decide) rfl ?_
                refine me_icmp_eq (q2 := 181) (q := 175) C dX5_readValue_172 (by decide) rfl (fun c25 => ?_) (fun c25 => ?_)
                · have hf := mm_if_t c25 hf
                  refine me_aload_n (q := 182) C dX5_readValue_181 rfl rfl rfl ?_
                  obtain ⟨_, g26, e27, hf⟩ := mm_cl_some hf
                  refine me_callV (q := 185) (c2 := 0) (s2 := 0) (st := []) C (cX5_goOn_ok _ e27) mt_X5_124 mv_X5_goOn rfl (by decide) dX5_readValue_182 rfl k21 rfl rfl rfl (by omega) rfl (Nat.le_of_ble_eq_true rfl) rfl (Nat.le_of_ble_eq_true rfl) rfl rfl ?_
                  refine me_iconst (v := (1 : Int32)) (q := 186) C dX5_readValue_185 (by decide) rfl ?_
                  exact me_zret C hE (Nat.le_of_ble_eq_true rfl) (Nat.le_of_ble_eq_true rfl) rfl (Or.inr rfl) dX5_readValue_186 (mm_ri hf)
                · have hf := mm_if_f c25 hf
                  refine me_aload_n (q := 176) C dX5_readValue_175 rfl rfl rfl ?_
                  refine me_iconst (v := (0 : Int32)) (q := 177) C dX5_readValue_176 (by decide) rfl ?_
                  obtain ⟨v28, g29, e30, hf⟩ := mm_cl_some hf
                  refine me_callV (q := 180) (c2 := 0) (s2 := 0) (st := []) C (cX5_fail_ok _ e30) mt_X5_121 mv_X5_fail rfl (by decide) dX5_readValue_177 rfl k21 rfl rfl rfl (by omega) rfl (Nat.le_of_ble_eq_true rfl) rfl (Nat.le_of_ble_eq_true rfl) rfl rfl ?_
                  obtain ⟨k31, hf⟩ := mm_ck_some hf
                  exact me_zret C hE (Nat.le_of_ble_eq_true rfl) (Nat.le_of_ble_eq_true rfl) rfl k31 dX5_readValue_180 (mm_ri hf)
              · have hf := mm_if_f c20 hf
                refine me_iconst (v := (0 : Int32)) (q := 160) C dX5_readValue_159 (by decide) rfl ?_
                exact me_zret C hE (Nat.le_of_ble_eq_true rfl) (Nat.le_of_ble_eq_true rfl) rfl (Or.inl rfl) dX5_readValue_160 (mm_ri hf)
            · have hf := mm_if_f c13 hf
              refine me_aload_n (q := 115) C dX5_readValue_114 rfl rfl rfl ?_
              refine me_iload_n (q := 116) C dX5_readValue_115 rfl rfl rfl ?_
              refine me_bipush (v := (21 : Int32)) (q := 118) C dX5_readValue_116 (by decide) rfl ?_
              obtain ⟨q33, eq33, hf⟩ := mm_jn_some hf
              have Hq33 : ∀ (v32 : Int32), q33 v32 = some (r, h1) → mm_E X g12 0 0 136 [some (vR (some a0)), none, none, none] [vI v32, vR (some a0)] := by
                intro v32 hf
                subst eq33
                obtain ⟨_, g34, e35, hf⟩ := mm_cl_some hf
                refine me_callV (q := 139) (c2 := 0) (s2 := 0) (st := []) C (cX5_emit_ok _ e35) mt_X5_136 mv_X5_emit rfl (by decide) dX5_readValue_136 rfl (mm_kI eg12 k1) rfl rfl rfl (by omega) rfl (Nat.le_of_ble_eq_true rfl) rfl (Nat.le_of_ble_eq_true rfl) rfl rfl ?_
                refine me_aload_n (q := 140) C dX5_readValue_139 rfl rfl rfl ?_
                obtain ⟨k36, hf⟩ := mm_ck_some hf
                obtain ⟨_, g37, e38, hf⟩ := mm_cl_some hf
                refine me_callV (q := 143) (c2 := 0) (s2 := 0) (st := []) C (cX5_goOn_ok _ e38) mt_X5_124 mv_X5_goOn rfl (by decide) dX5_readValue_140 rfl k36 rfl rfl rfl (by omega) rfl (Nat.le_of_ble_eq_true rfl) rfl (Nat.le_of_ble_eq_true rfl) rfl rfl ?_
                refine me_iconst (v := (1 : Int32)) (q := 144) C dX5_readValue_143 (by decide) rfl ?_
                exact me_zret C hE (Nat.le_of_ble_eq_true rfl) (Nat.le_of_ble_eq_true rfl) rfl (Or.inr rfl) dX5_readValue_144 (mm_ri hf)
              refine me_icmp_ne (q2 := 133) (q := 121) C dX5_readValue_118 (by decide) rfl (fun c39 => ?_) (fun c39 => ?_)
              · have hf := mm_if_t c39 hf
                refine me_iconst (v := (-1 : Int32)) (q := 134) C dX5_readValue_133 (by decide) rfl ?_
                refine me_iload_n (q := 135) C dX5_readValue_134 rfl rfl rfl ?_
                refine me_isub (q := 136) C dX5_readValue_135 rfl ?_
                refine me_mask [true, false, false, false] (lv2 := [some (vR (some a0)), none, none, none]) rfl ?_
                exact Hq33 _ hf
              · have hf := mm_if_f c39 hf
                refine me_aload_n (q := 122) C dX5_readValue_121 rfl rfl rfl ?_
                refine me_getR (q := 125) C dX5_readValue_122 mf_X5_22 rfl rfl (mm_kI eg12 k1) rfl ?_
                refine me_aload_n (q := 126) C dX5_readValue_125 rfl rfl rfl ?_
                refine me_getI (q := 129) C dX5_readValue_126 mf_X5_45 rfl rfl (mm_kI eg12 k1) rfl ?_
                obtain ⟨u40, eu40, hf⟩ := mm_rf_some hf
                obtain ⟨k41, hf⟩ := mm_ck_some hf
                obtain ⟨k42, hf⟩ := mm_ck_some hf
                refine me_iald (q := 130) C dX5_readValue_129 eu40 k41 k42 rfl ?_
                refine me_goto (q := 136) C dX5_readValue_130 (by decide) ?_
                refine me_mask [true, false, false, false] (lv2 := [some (vR (some a0)), none, none, none]) rfl ?_
                exact Hq33 _ hf
          · have hf := mm_if_f c11 hf
            refine me_aload_n (q := 95) C dX5_readValue_94 rfl rfl rfl ?_
            refine me_iconst (v := (3 : Int32)) (q := 96) C dX5_readValue_95 (by decide) rfl ?_
            obtain ⟨v43, g44, e45, hf⟩ := mm_cl_some hf
            refine me_callV (q := 99) (c2 := 0) (s2 := 0) (st := []) C (cX5_fail_ok _ e45) mt_X5_121 mv_X5_fail rfl (by decide) dX5_readValue_96 rfl k1 rfl rfl rfl (by omega) rfl (Nat.le_of_ble_eq_true rfl) rfl (Nat.le_of_ble_eq_true rfl) rfl rfl ?_
            obtain ⟨k46, hf⟩ := mm_ck_some hf
            exact me_zret C hE (Nat.le_of_ble_eq_true rfl) (Nat.le_of_ble_eq_true rfl) rfl k46 dX5_readValue_99 (mm_ri hf)
        refine me_if_eq (q2 := 85) (q := 73) C dX5_readValue_70 (by decide) rfl (fun c47 => ?_) (fun c47 => ?_)
        · have hf := mm_if_t c47 hf
          exact Hq10 () hf
        · have hf := mm_if_f c47 hf
          refine me_iload_n (q := 74) C dX5_readValue_73 rfl rfl rfl ?_
          refine me_bipush (v := (10 : Int32)) (q := 76) C dX5_readValue_74 (by decide) rfl ?_
          refine me_icmp_lt (q2 := 85) (q := 79) C dX5_readValue_76 (by decide) rfl (fun c48 => ?_) (fun c48 => ?_)
          · have hf := mm_if_t c48 hf
            exact Hq10 () hf
          · have hf := mm_if_f c48 hf
            refine me_aload_n (q := 80) C dX5_readValue_79 rfl rfl rfl ?_
            refine me_iconst (v := (2 : Int32)) (q := 81) C dX5_readValue_80 (by decide) rfl ?_
            obtain ⟨v49, g50, e51, hf⟩ := mm_cl_some hf
            refine me_callV (q := 84) (c2 := 0) (s2 := 0) (st := []) C (cX5_fail_ok _ e51) mt_X5_121 mv_X5_fail rfl (by decide) dX5_readValue_81 rfl k1 rfl rfl rfl (by omega) rfl (Nat.le_of_ble_eq_true rfl) rfl (Nat.le_of_ble_eq_true rfl) rfl rfl ?_
            obtain ⟨k52, hf⟩ := mm_ck_some hf
            exact me_zret C hE (Nat.le_of_ble_eq_true rfl) (Nat.le_of_ble_eq_true rfl) rfl k52 dX5_readValue_84 (mm_ri hf)
      refine me_icmp_ne (q2 := 69) (q := 50) C dX5_readValue_47 (by decide) rfl (fun c53 => ?_) (fun c53 => ?_)
      · have hf := mm_if_t c53 hf
        exact Hq9 () hf
      · have hf := mm_if_f c53 hf
        refine me_aload_n (q := 51) C dX5_readValue_50 rfl rfl rfl ?_
        refine me_getR (q := 54) C dX5_readValue_51 mf_X5_22 rfl rfl k1 rfl ?_
        refine me_aload_n (q := 55) C dX5_readValue_54 rfl rfl rfl ?_
        refine me_getI (q := 58) C dX5_readValue_55 mf_X5_45 rfl rfl k1 rfl ?_
        obtain ⟨u54, eu54, hf⟩ := mm_rf_some hf
        obtain ⟨k55, hf⟩ := mm_ck_some hf
        obtain ⟨k56, hf⟩ := mm_ck_some hf
        refine me_iald (q := 59) C dX5_readValue_58 eu54 k55 k56 rfl ?_
        refine me_iconst (v := (-1 : Int32)) (q := 60) C dX5_readValue_59 (by decide) rfl ?_
        refine me_icmp_ne (q2 := 69) (q := 63) C dX5_readValue_60 (by decide) rfl (fun c57 => ?_) (fun c57 => ?_)
        · have hf := mm_if_t c57 hf
          exact Hq9 () hf
        · have hf := mm_if_f c57 hf
          refine me_aload_n (q := 64) C dX5_readValue_63 rfl rfl rfl ?_
          refine me_iconst (v := (1 : Int32)) (q := 65) C dX5_readValue_64 (by decide) rfl ?_
          obtain ⟨v58, g59, e60, hf⟩ := mm_cl_some hf
          refine me_callV (q := 68) (c2 := 0) (s2 := 0) (st := []) C (cX5_fail_ok _ e60) mt_X5_121 mv_X5_fail rfl (by decide) dX5_readValue_65 rfl k1 rfl rfl rfl (by omega) rfl (Nat.le_of_ble_eq_true rfl) rfl (Nat.le_of_ble_eq_true rfl) rfl rfl ?_
          obtain ⟨k61, hf⟩ := mm_ck_some hf
          exact me_zret C hE (Nat.le_of_ble_eq_true rfl) (Nat.le_of_ble_eq_true rfl) rfl k61 dX5_readValue_68 (mm_ri hf)
    refine me_if_ne (q2 := 44) (q := 26) C dX5_readValue_23 (by decide) rfl (fun c62 => ?_) (fun c62 => ?_)
    · have hf := mm_if_t c62 hf
      exact Hq8 () hf
    · have hf := mm_if_f c62 hf
      refine me_iload_n (q := 27) C dX5_readValue_26 rfl rfl rfl ?_
      refine me_bipush (v := (21 : Int32)) (q := 29) C dX5_readValue_27 (by decide) rfl ?_
      refine me_icmp_eq (q2 := 44) (q := 32) C dX5_readValue_29 (by decide) rfl (fun c63 => ?_) (fun c63 => ?_)
      · have hf := mm_if_t c63 hf
        exact Hq8 () hf
      · have hf := mm_if_f c63 hf
        refine me_iload_n (q := 33) C dX5_readValue_32 rfl rfl rfl ?_
        refine me_bipush (v := (14 : Int32)) (q := 35) C dX5_readValue_33 (by decide) rfl ?_
        refine me_icmp_lt (q2 := 44) (q := 38) C dX5_readValue_35 (by decide) rfl (fun c64 => ?_) (fun c64 => ?_)
        · have hf := mm_if_t c64 hf
          exact Hq8 () hf
        · have hf := mm_if_f c64 hf
          refine me_aload_n (q := 39) C dX5_readValue_38 rfl rfl rfl ?_
          refine me_iconst (v := (0 : Int32)) (q := 40) C dX5_readValue_39 (by decide) rfl ?_
          obtain ⟨v65, g66, e67, hf⟩ := mm_cl_some hf
          refine me_callV (q := 43) (c2 := 0) (s2 := 0) (st := []) C (cX5_fail_ok _ e67) mt_X5_121 mv_X5_fail rfl (by decide) dX5_readValue_40 rfl k1 rfl rfl rfl (by omega) rfl (Nat.le_of_ble_eq_true rfl) rfl (Nat.le_of_ble_eq_true rfl) rfl rfl ?_
          obtain ⟨k68, hf⟩ := mm_ck_some hf
          exact me_zret C hE (Nat.le_of_ble_eq_true rfl) (Nat.le_of_ble_eq_true rfl) rfl k68 dX5_readValue_43 (mm_ri hf)
  refine me_icmp_ne (q2 := 20) (q := 16) C dX5_readValue_13 (by decide) rfl (fun c69 => ?_) (fun c69 => ?_)
  · have hf := mm_if_t c69 hf
    refine me_iconst (v := (0 : Int32)) (q := 21) C dX5_readValue_20 (by decide) rfl ?_
    exact Hq7 _ hf
  · have hf := mm_if_f c69 hf
    refine me_iconst (v := (1 : Int32)) (q := 17) C dX5_readValue_16 (by decide) rfl ?_
    refine me_goto (q := 21) C dX5_readValue_17 (by decide) ?_
    exact Hq7 _ hf
set_option maxRecDepth 100000 in
set_option maxHeartbeats 4000000 in
theorem cX5_readSum_L7 {lx : Nat} {X : mm_X} (C : mm_C X cX5_readSum yX5_readSum (lx + 1) 0 0) {r : Int32} {h1 : mm_H} (hE : mm_End X 0 0 (some .boolean) (some (vI r)) h1) (hlx : 3 ≤ lx) {rc0 : Nat → Int32 → mm_H → Option (Int32 × mm_H)} {rc1 : Nat → Int32 → mm_H → Option (Int32 × mm_H)} (hr0 : ∀ {a0 : Nat} {a1 : Int32} {h : mm_H} {r : Int32} {h1 : mm_H}, rc0 a0 a1 h = some (r, h1) → mm_M (mx_l X) yX5_readValue cX5_readValue 4 (some .boolean) lx 0 0 [vR (some a0), vI a1] h (some (vI r)) h1) (hr1 : ∀ {a0 : Nat} {a1 : Int32} {h : mm_H} {r : Int32} {h1 : mm_H}, rc1 a0 a1 h = some (r, h1) → mm_M (mx_l X) yX5_readSum cX5_readSum 6 (some .boolean) lx 0 0 [vR (some a0), vI a1] h (some (vI r)) h1) {b0 : Nat} {b1 : Int32} (K104 : mm_H → Option (Int32 × mm_H)) : ∀ (n : Nat) (x2 : Int32) (x3 : Int32) (x4 : Int32) (h : mm_H), fX5_readSum_L7 rc0 rc1 b0 b1 K104 n x2 x3 x4 h = some (r, h1) → (∀ (h : mm_H), K104 h = some (r, h1) → mm_E X h 0 0 104 [none, none, none, none, none, none] []) → mm_E X h 0 0 7 [some (vR (some b0)), some (vI b1), some (vI x2), some (vI x3), some (vI x4), none] [] := by
  intro n
  induction n with
  | zero =>
    intro x2 x3 x4 h hf
    exact absurd (show (none : Option (Int32 × mm_H)) = some (r, h1) from hf) (by simp)
  | succ n ih =>
    intro x2 x3 x4 h hf hk104
    have hf : fX5_readSum_L7_b rc0 rc1 b0 b1 K104 (fX5_readSum_L7 rc0 rc1 b0 b1 K104 n) x2 x3 x4 h = some (r, h1) := hf
    unfold fX5_readSum_L7_b at hf
    refine me_iload (q := 9) C dX5_readSum_7 rfl rfl ?_
    refine me_sipush (v := (400 : Int32)) (q := 12) C dX5_readSum_9 (by decide) rfl ?_
    refine me_icmp_gt (q2 := 104) (q := 15) C dX5_readSum_12 (by decide) rfl (fun c1 => ?_) (fun c1 => ?_)
    · have hf := mm_if_t c1 hf
      refine me_mask [false, false, false, false, false, false] (lv2 := [none, none, none, none, none, none]) rfl ?_
      exact hk104 _ hf
    · have hf := mm_if_f c1 hf
      refine me_aload_n (q := 16) C dX5_readSum_15 rfl rfl rfl ?_
      refine me_iload_n (q := 17) C dX5_readSum_16 rfl rfl rfl ?_
      obtain ⟨k2, hf⟩ := mm_ck_some hf
      obtain ⟨v3, g4, e5, hf⟩ := mm_cl_some hf
      refine me_callV (q := 20) (c2 := 0) (s2 := 0) (st := []) C (hr0 e5) mt_X5_143 mv_X5_readValue rfl (by decide) dX5_readSum_17 rfl k2 rfl rfl rfl (by omega) rfl (Nat.le_of_ble_eq_true rfl) rfl (Nat.le_of_ble_eq_true rfl) rfl rfl ?_
      refine me_if_ne (q2 := 25) (q := 23) C dX5_readSum_20 (by decide) rfl (fun c6 => ?_) (fun c6 => ?_)
      · have hf := mm_if_t c6 hf
        refine me_iload_n (q := 26) C dX5_readSum_25 rfl rfl rfl ?_
        obtain ⟨q8, eq8, hf⟩ := mm_jn_some hf
        have Hq8 : ∀ (g7 : mm_H), q8 g7 = some (r, h1) → mm_E X g7 0 0 35 [some (vR (some b0)), some (vI b1), some (vI x2), none, some (vI x4), none] [] := by
          intro g7 hf
          subst eq8
          refine me_aload_n (q := 36) C dX5_readSum_35 rfl rfl rfl ?_
          obtain ⟨k9, hf⟩ := mm_ck_some hf
          refine me_getR (q := 39) C dX5_readSum_36 mf_X5_15 rfl rfl k9 rfl ?_
          refine me_aload_n (q := 40) C dX5_readSum_39 rfl rfl rfl ?_
          refine me_getI (q := 43) C dX5_readSum_40 mf_X5_45 rfl rfl k9 rfl ?_
          obtain ⟨u10, eu10, hf⟩ := mm_rf_some hf
          obtain ⟨k11, hf⟩ := mm_ck_some hf
          obtain ⟨k12, hf⟩ := mm_ck_some hf
          refine me_iald (q := 44) C dX5_readSum_43 eu10 k11 k12 rfl ?_
          obtain ⟨v13, ev13, hf⟩ := mm_lt_some hf
          refine me_topI ev13 ?_
          refine me_istore (q := 46) (lv2 := [some (vR (some b0)), some (vI b1), some (vI x2), none, some (vI x4), some (vI v13)]) C dX5_readSum_44 (Nat.le_of_ble_eq_true rfl) rfl rfl rfl ?_
          refine me_iload (q := 48) C dX5_readSum_46 rfl rfl ?_
          refine me_bipush (v := (29 : Int32)) (q := 50) C dX5_readSum_48 (by decide) rfl ?_
          obtain ⟨q15, eq15, hf⟩ := mm_jn_some hf
          have Hq15 : ∀ (v14 : Int32), q15 v14 = some (r, h1) → mm_E X g7 0 0 58 [some (vR (some b0)), some (vI b1), some (vI x2), none, some (vI x4), some (vI v13)] [vI v14] := by
            intro v14 hf
            subst eq15
            refine me_istore_n (q := 59) (lv2 := [some (vR (some b0)), some (vI b1), some (vI x2), some (vI v14), some (vI x4), some (vI v13)]) C dX5_readSum_58 rfl (Nat.le_of_ble_eq_true rfl) rfl rfl rfl ?_
            refine me_iload_n (q := 60) C dX5_readSum_59 rfl rfl rfl ?_
            obtain ⟨q18, eq18, hf⟩ := mm_jn_some hf
            have Hq18 : ∀ (v16 : Int32) (g17 : mm_H), q18 v16 g17 = some (r, h1) → mm_E X g17 0 0 94 [some (vR (some b0)), some (vI b1), some (vI v16), some (vI v14), some (vI x4), none] [] := by
              intro v16 g17 hf
              subst eq18
              refine me_aload_n (q := 95) C dX5_readSum_94 rfl rfl rfl ?_
              obtain ⟨k19, hf⟩ := mm_ck_some hf
              obtain ⟨_, g20, e21, hf⟩ := mm_cl_some hf
              refine me_callV (q := 98) (c2 := 0) (s2 := 0) (st := []) C (cX5_goOn_ok _ e21) mt_X5_124 mv_X5_goOn rfl (by decide) dX5_readSum_95 rfl k19 rfl rfl rfl (by omega) rfl (Nat.le_of_ble_eq_true rfl) rfl (Nat.le_of_ble_eq_true rfl) rfl rfl ?_
              obtain ⟨v22, ev22, hf⟩ := mm_lt_some hf
              refine me_iinc (q := 101) (v := v22) (lv2 := [some (vR (some b0)), some (vI b1), some (vI v16), some (vI v14), some (vI v22), none]) C dX5_readSum_98 rfl (by rw [ev22]; rfl) (Nat.le_of_ble_eq_true rfl) rfl rfl rfl ?_
              refine me_goto (q := 7) C dX5_readSum_101 (by decide) ?_
              exact ih _ _ _ _ hf hk104
            refine me_if_ne (q2 := 94) (q := 63) C dX5_readSum_60 (by decide) rfl (fun c23 => ?_) (fun c23 => ?_)
            · have hf := mm_if_t c23 hf
              refine me_mask [true, true, true, true, true, false] (lv2 := [some (vR (some b0)), some (vI b1), some (vI x2), some (vI v14), some (vI x4), none]) rfl ?_
              exact Hq18 _ _ hf
            · have hf := mm_if_f c23 hf
              refine me_iload_n (q := 64) C dX5_readSum_63 rfl rfl rfl ?_
              refine me_iconst (v := (-1 : Int32)) (q := 65) C dX5_readSum_64 (by decide) rfl ?_
              obtain ⟨q25, eq25, hf⟩ := mm_jn_some hf
              have Hq25 : ∀ (g24 : mm_H), q25 g24 = some (r, h1) → mm_E X g24 0 0 75 [some (vR (some b0)), some (vI b1), none, some (vI v14), some (vI x4), some (vI v13)] [] := by
                intro g24 hf
                subst eq25
                refine me_iload (q := 77) C dX5_readSum_75 rfl rfl ?_
                refine me_istore_n (q := 78) (lv2 := [some (vR (some b0)), some (vI b1), some (vI v13), some (vI v14), some (vI x4), some (vI v13)]) C dX5_readSum_77 rfl (Nat.le_of_ble_eq_true rfl) rfl rfl rfl ?_
                refine me_iload (q := 80) C dX5_readSum_78 rfl rfl ?_
                refine me_bipush (v := (27 : Int32)) (q := 82) C dX5_readSum_80 (by decide) rfl ?_
                refine me_icmp_eq (q2 := 94) (q := 85) C dX5_readSum_82 (by decide) rfl (fun c26 => ?_) (fun c26 => ?_)
                · have hf := mm_if_t c26 hf
                  refine me_mask [true, true, true, true, true, false] (lv2 := [some (vR (some b0)), some (vI b1), some (vI v13), some (vI v14), some (vI x4), none]) rfl ?_
                  exact Hq18 _ _ hf
                · have hf := mm_if_f c26 hf
                  refine me_iload (q := 87) C dX5_readSum_85 rfl rfl ?_
                  refine me_bipush (v := (28 : Int32)) (q := 89) C dX5_readSum_87 (by decide) rfl ?_
                  refine me_icmp_eq (q2 := 94) (q := 92) C dX5_readSum_89 (by decide) rfl (fun c27 => ?_) (fun c27 => ?_)
                  · have hf := mm_if_t c27 hf
                    refine me_mask [true, true, true, true, true, false] (lv2 := [some (vR (some b0)), some (vI b1), some (vI v13), some (vI v14), some (vI x4), none]) rfl ?_
                    exact Hq18 _ _ hf
                  · have hf := mm_if_f c27 hf
                    refine me_iconst (v := (1 : Int32)) (q := 93) C dX5_readSum_92 (by decide) rfl ?_
                    exact me_zret C hE (Nat.le_of_ble_eq_true rfl) (Nat.le_of_ble_eq_true rfl) rfl (Or.inr rfl) dX5_readSum_93 (mm_ri hf)
              refine me_icmp_eq (q2 := 75) (q := 68) C dX5_readSum_65 (by decide) rfl (fun c28 => ?_) (fun c28 => ?_)
              · have hf := mm_if_t c28 hf
                refine me_mask [true, true, false, true, true, true] (lv2 := [some (vR (some b0)), some (vI b1), none, some (vI v14), some (vI x4), some (vI v13)]) rfl ?_
                exact Hq25 _ hf
              · have hf := mm_if_f c28 hf
                refine me_aload_n (q := 69) C dX5_readSum_68 rfl rfl rfl ?_
                refine me_iconst (v := (-1 : Int32)) (q := 70) C dX5_readSum_69 (by decide) rfl ?_
                refine me_iload_n (q := 71) C dX5_readSum_70 rfl rfl rfl ?_
                refine me_isub (q := 72) C dX5_readSum_71 rfl ?_
                obtain ⟨_, g29, e30, hf⟩ := mm_cl_some hf
                refine me_callV (q := 75) (c2 := 0) (s2 := 0) (st := []) C (cX5_emit_ok _ e30) mt_X5_136 mv_X5_emit rfl (by decide) dX5_readSum_72 rfl k9 rfl rfl rfl (by omega) rfl (Nat.le_of_ble_eq_true rfl) rfl (Nat.le_of_ble_eq_true rfl) rfl rfl ?_
                refine me_mask [true, true, false, true, true, true] (lv2 := [some (vR (some b0)), some (vI b1), none, some (vI v14), some (vI x4), some (vI v13)]) rfl ?_
                exact Hq25 _ hf
          refine me_icmp_ne (q2 := 57) (q := 53) C dX5_readSum_50 (by decide) rfl (fun c31 => ?_) (fun c31 => ?_)
          · have hf := mm_if_t c31 hf
            refine me_iconst (v := (0 : Int32)) (q := 58) C dX5_readSum_57 (by decide) rfl ?_
            exact Hq15 _ hf
          · have hf := mm_if_f c31 hf
            refine me_iconst (v := (1 : Int32)) (q := 54) C dX5_readSum_53 (by decide) rfl ?_
            refine me_goto (q := 58) C dX5_readSum_54 (by decide) ?_
            exact Hq15 _ hf
        refine me_if_eq (q2 := 35) (q := 29) C dX5_readSum_26 (by decide) rfl (fun c32 => ?_) (fun c32 => ?_)
        · have hf := mm_if_t c32 hf
          refine me_mask [true, true, true, false, true, false] (lv2 := [some (vR (some b0)), some (vI b1), some (vI x2), none, some (vI x4), none]) rfl ?_
          exact Hq8 _ hf
        · have hf := mm_if_f c32 hf
          refine me_aload_n (q := 30) C dX5_readSum_29 rfl rfl rfl ?_
          refine me_bipush (v := (-30 : Int32)) (q := 32) C dX5_readSum_30 (by decide) rfl ?_
          obtain ⟨k33, hf⟩ := mm_ck_some hf
          obtain ⟨_, g34, e35, hf⟩ := mm_cl_some hf
          refine me_callV (q := 35) (c2 := 0) (s2 := 0) (st := []) C (cX5_emit_ok _ e35) mt_X5_136 mv_X5_emit rfl (by decide) dX5_readSum_32 rfl k33 rfl rfl rfl (by omega) rfl (Nat.le_of_ble_eq_true rfl) rfl (Nat.le_of_ble_eq_true rfl) rfl rfl ?_
          refine me_mask [true, true, true, false, true, false] (lv2 := [some (vR (some b0)), some (vI b1), some (vI x2), none, some (vI x4), none]) rfl ?_
          exact Hq8 _ hf
      · have hf := mm_if_f c6 hf
        refine me_iconst (v := (0 : Int32)) (q := 24) C dX5_readSum_23 (by decide) rfl ?_
        exact me_zret C hE (Nat.le_of_ble_eq_true rfl) (Nat.le_of_ble_eq_true rfl) rfl (Or.inl rfl) dX5_readSum_24 (mm_ri hf)
set_option maxRecDepth 100000 in
set_option maxHeartbeats 4000000 in
theorem cX5_readSum_g_ok (l : Launch) {lx : Nat} (hlx : 3 ≤ lx) {rc0 : Nat → Int32 → mm_H → Option (Int32 × mm_H)} {rc1 : Nat → Int32 → mm_H → Option (Int32 × mm_H)} (hr0 : ∀ {a0 : Nat} {a1 : Int32} {h : mm_H} {r : Int32} {h1 : mm_H}, rc0 a0 a1 h = some (r, h1) → mm_M l yX5_readValue cX5_readValue 4 (some .boolean) lx 0 0 [vR (some a0), vI a1] h (some (vI r)) h1) (hr1 : ∀ {a0 : Nat} {a1 : Int32} {h : mm_H} {r : Int32} {h1 : mm_H}, rc1 a0 a1 h = some (r, h1) → mm_M l yX5_readSum cX5_readSum 6 (some .boolean) lx 0 0 [vR (some a0), vI a1] h (some (vI r)) h1) {a0 : Nat} {a1 : Int32} {h : mm_H} {r : Int32} {h1 : mm_H} (hf : fX5_readSum_g rc0 rc1 a0 a1 h = some (r, h1)) : mm_M l yX5_readSum cX5_readSum 6 (some .boolean) (lx + 1) 0 0 [vR (some a0), vI a1] h (some (vI r)) h1 := by
  refine mm_enter (lv := [some (vR (some a0)), some (vI a1), none, none, none, none]) (by decide) rfl (Nat.le_of_ble_eq_true rfl) ?_
  intro X hl C hE
  subst hl
  unfold fX5_readSum_g at hf
  refine me_iconst (v := (-1 : Int32)) (q := 1) C dX5_readSum_0 (by decide) rfl ?_
  refine me_istore_n (q := 2) (lv2 := [some (vR (some a0)), some (vI a1), some (vI (-1 : Int32)), none, none, none]) C dX5_readSum_1 rfl (Nat.le_of_ble_eq_true rfl) rfl rfl rfl ?_
  refine me_iconst (v := (0 : Int32)) (q := 3) C dX5_readSum_2 (by decide) rfl ?_
  refine me_istore_n (q := 4) (lv2 := [some (vR (some a0)), some (vI a1), some (vI (-1 : Int32)), some (vI (0 : Int32)), none, none]) C dX5_readSum_3 rfl (Nat.le_of_ble_eq_true rfl) rfl rfl rfl ?_
  refine me_iconst (v := (0 : Int32)) (q := 5) C dX5_readSum_4 (by decide) rfl ?_
  refine me_istore (q := 7) (lv2 := [some (vR (some a0)), some (vI a1), some (vI (-1 : Int32)), some (vI (0 : Int32)), some (vI (0 : Int32)), none]) C dX5_readSum_5 (Nat.le_of_ble_eq_true rfl) rfl rfl rfl ?_
  refine cX5_readSum_L7 C hE hlx hr0 hr1 _ _ _ _ _ _ hf ?_
  · intro g36 hf
    refine me_iconst (v := (0 : Int32)) (q := 105) C dX5_readSum_104 (by decide) rfl ?_
    exact me_zret C hE (Nat.le_of_ble_eq_true rfl) (Nat.le_of_ble_eq_true rfl) rfl (Or.inl rfl) dX5_readSum_105 (mm_ri hf)


theorem cgG1_ok (l : Launch) : ∀ n : Nat, (∀ {a0 : Nat} {a1 : Int32} {h : mm_H} {r : Int32} {h1 : mm_H}, (fgG1 n).1 a0 a1 h = some (r, h1) → mm_M l yX5_readValue cX5_readValue 4 (some .boolean) (3 + n) 0 0 [vR (some a0), vI a1] h (some (vI r)) h1) ∧ (∀ {a0 : Nat} {a1 : Int32} {h : mm_H} {r : Int32} {h1 : mm_H}, (fgG1 n).2 a0 a1 h = some (r, h1) → mm_M l yX5_readSum cX5_readSum 6 (some .boolean) (3 + n) 0 0 [vR (some a0), vI a1] h (some (vI r)) h1) := by
  intro n
  induction n with
  | zero =>
    exact ⟨(by intro a0 a1 h r h1 hf; cases (show (none : Option (Int32 × mm_H)) = some (r, h1) from hf)), (by intro a0 a1 h r h1 hf; cases (show (none : Option (Int32 × mm_H)) = some (r, h1) from hf))⟩
  | succ n ih =>
    exact ⟨fun hf => cX5_readValue_g_ok l (lx := 3 + n) (Nat.le_add_right _ _) (ih).1 (ih).2 hf, fun hf => cX5_readSum_g_ok l (lx := 3 + n) (Nat.le_add_right _ _) (ih).1 (ih).2 hf⟩


theorem cX5_readValue_ok (l : Launch) {a0 : Nat} {a1 : Int32} {h : mm_H} {r : Int32} {h1 : mm_H} (hf : fX5_readValue a0 a1 h = some (r, h1)) : mm_M l yX5_readValue cX5_readValue 4 (some .boolean) 43 0 0 [vR (some a0), vI a1] h (some (vI r)) h1 := by
  exact (cgG1_ok l 40).1 hf


theorem cX5_readSum_ok (l : Launch) {a0 : Nat} {a1 : Int32} {h : mm_H} {r : Int32} {h1 : mm_H} (hf : fX5_readSum a0 a1 h = some (r, h1)) : mm_M l yX5_readSum cX5_readSum 6 (some .boolean) 43 0 0 [vR (some a0), vI a1] h (some (vI r)) h1 := by
  exact (cgG1_ok l 40).2 hf
set_option maxRecDepth 100000 in
set_option maxHeartbeats 4000000 in
theorem cX5_readTest_L7 {lx : Nat} {X : mm_X} (C : mm_C X cX5_readTest yX5_readTest (lx + 1) 0 0) {r : Int32} {h1 : mm_H} (hE : mm_End X 0 0 (some .boolean) (some (vI r)) h1) (hlx : 44 ≤ lx) {rc0 : Nat → Int32 → mm_H → Option (Int32 × mm_H)} {rc1 : Nat → Int32 → mm_H → Option (Int32 × mm_H)} (hr0 : ∀ {a0 : Nat} {a1 : Int32} {h : mm_H} {r : Int32} {h1 : mm_H}, rc0 a0 a1 h = some (r, h1) → mm_M (mx_l X) yX5_readTest cX5_readTest 5 (some .boolean) lx 0 0 [vR (some a0), vI a1] h (some (vI r)) h1) (hr1 : ∀ {a0 : Nat} {a1 : Int32} {h : mm_H} {r : Int32} {h1 : mm_H}, rc1 a0 a1 h = some (r, h1) → mm_M (mx_l X) yX5_readFact cX5_readFact 4 (some .boolean) lx 0 0 [vR (some a0), vI a1] h (some (vI r)) h1) {b0 : Nat} {b1 : Int32} (K97 : mm_H → Option (Int32 × mm_H)) : ∀ (n : Nat) (x2 : Int32) (x3 : Int32) (x4 : Int32) (h : mm_H), fX5_readTest_L7 rc0 rc1 b0 b1 K97 n x2 x3 x4 h = some (r, h1) → (∀ (h : mm_H), K97 h = some (r, h1) → mm_E X h 0 0 97 [none, none, none, none, none] []) → mm_E X h 0 0 7 [some (vR (some b0)), some (vI b1), some (vI x2), some (vI x3), some (vI x4)] [] := by
  intro n
  induction n with
  | zero =>
    intro x2 x3 x4 h hf
    exact absurd (show (none : Option (Int32 × mm_H)) = some (r, h1) from hf) (by simp)
  | succ n ih =>
    intro x2 x3 x4 h hf hk97
    have hf : fX5_readTest_L7_b rc0 rc1 b0 b1 K97 (fX5_readTest_L7 rc0 rc1 b0 b1 K97 n) x2 x3 x4 h = some (r, h1) := hf
    unfold fX5_readTest_L7_b at hf
    refine me_iload (q := 9) C dX5_readTest_7 rfl rfl ?_
    refine me_sipush (v := (400 : Int32)) (q := 12) C dX5_readTest_9 (by decide) rfl ?_
    refine me_icmp_gt (q2 := 97) (q := 15) C dX5_readTest_12 (by decide) rfl (fun c1 => ?_) (fun c1 => ?_)
    · have hf := mm_if_t c1 hf
      refine me_mask [false, false, false, false, false] (lv2 := [none, none, none, none, none]) rfl ?_
      exact hk97 _ hf
    · have hf := mm_if_f c1 hf
      refine me_aload_n (q := 16) C dX5_readTest_15 rfl rfl rfl ?_
      refine me_iload_n (q := 17) C dX5_readTest_16 rfl rfl rfl ?_
      obtain ⟨k2, hf⟩ := mm_ck_some hf
      obtain ⟨v3, g4, e5, hf⟩ := mm_cl_some hf
      refine me_callV (q := 20) (c2 := 0) (s2 := 0) (st := []) C (hr1 e5) mt_X5_133 mv_X5_readFact rfl (by decide) dX5_readTest_17 rfl k2 rfl rfl rfl (by omega) rfl (Nat.le_of_ble_eq_true rfl) rfl (Nat.le_of_ble_eq_true rfl) rfl rfl ?_
      refine me_if_ne (q2 := 25) (q := 23) C dX5_readTest_20 (by decide) rfl (fun c6 => ?_) (fun c6 => ?_)
      · have hf := mm_if_t c6 hf
        refine me_iload_n (q := 26) C dX5_readTest_25 rfl rfl rfl ?_
        obtain ⟨q8, eq8, hf⟩ := mm_jn_some hf
        have Hq8 : ∀ (g7 : mm_H), q8 g7 = some (r, h1) → mm_E X g7 0 0 35 [some (vR (some b0)), some (vI b1), some (vI x2), none, some (vI x4)] [] := by
          intro g7 hf
          subst eq8
          refine me_aload_n (q := 36) C dX5_readTest_35 rfl rfl rfl ?_
          obtain ⟨k9, hf⟩ := mm_ck_some hf
          refine me_getR (q := 39) C dX5_readTest_36 mf_X5_15 rfl rfl k9 rfl ?_
          refine me_aload_n (q := 40) C dX5_readTest_39 rfl rfl rfl ?_
          refine me_getI (q := 43) C dX5_readTest_40 mf_X5_45 rfl rfl k9 rfl ?_
          obtain ⟨u10, eu10, hf⟩ := mm_rf_some hf
          obtain ⟨k11, hf⟩ := mm_ck_some hf
          obtain ⟨k12, hf⟩ := mm_ck_some hf
          refine me_iald (q := 44) C dX5_readTest_43 eu10 k11 k12 rfl ?_
          refine me_bipush (v := (19 : Int32)) (q := 46) C dX5_readTest_44 (by decide) rfl ?_
          obtain ⟨q14, eq14, hf⟩ := mm_jn_some hf
          have Hq14 : ∀ (v13 : Int32), q14 v13 = some (r, h1) → mm_E X g7 0 0 54 [some (vR (some b0)), some (vI b1), some (vI x2), none, some (vI x4)] [vI v13] := by
            intro v13 hf
            subst eq14
            refine me_istore_n (q := 55) (lv2 := [some (vR (some b0)), some (vI b1), some (vI x2), some (vI v13), some (vI x4)]) C dX5_readTest_54 rfl (Nat.le_of_ble_eq_true rfl) rfl rfl rfl ?_
            refine me_iload_n (q := 56) C dX5_readTest_55 rfl rfl rfl ?_
            obtain ⟨q17, eq17, hf⟩ := mm_jn_some hf
            have Hq17 : ∀ (v15 : Int32) (g16 : mm_H), q17 v15 g16 = some (r, h1) → mm_E X g16 0 0 87 [some (vR (some b0)), some (vI b1), some (vI v15), some (vI v13), some (vI x4)] [] := by
              intro v15 g16 hf
              subst eq17
              refine me_aload_n (q := 88) C dX5_readTest_87 rfl rfl rfl ?_
              obtain ⟨k18, hf⟩ := mm_ck_some hf
              obtain ⟨_, g19, e20, hf⟩ := mm_cl_some hf
              refine me_callV (q := 91) (c2 := 0) (s2 := 0) (st := []) C (cX5_goOn_ok _ e20) mt_X5_124 mv_X5_goOn rfl (by decide) dX5_readTest_88 rfl k18 rfl rfl rfl (by omega) rfl (Nat.le_of_ble_eq_true rfl) rfl (Nat.le_of_ble_eq_true rfl) rfl rfl ?_
              obtain ⟨v21, ev21, hf⟩ := mm_lt_some hf
              refine me_iinc (q := 94) (v := v21) (lv2 := [some (vR (some b0)), some (vI b1), some (vI v15), some (vI v13), some (vI v21)]) C dX5_readTest_91 rfl (by rw [ev21]; rfl) (Nat.le_of_ble_eq_true rfl) rfl rfl rfl ?_
              refine me_goto (q := 7) C dX5_readTest_94 (by decide) ?_
              exact ih _ _ _ _ hf hk97
            refine me_if_ne (q2 := 87) (q := 59) C dX5_readTest_56 (by decide) rfl (fun c22 => ?_) (fun c22 => ?_)
            · have hf := mm_if_t c22 hf
              exact Hq17 _ _ hf
            · have hf := mm_if_f c22 hf
              refine me_iload_n (q := 60) C dX5_readTest_59 rfl rfl rfl ?_
              obtain ⟨q24, eq24, hf⟩ := mm_jn_some hf
              have Hq24 : ∀ (g23 : mm_H), q24 g23 = some (r, h1) → mm_E X g23 0 0 69 [some (vR (some b0)), some (vI b1), none, some (vI v13), some (vI x4)] [] := by
                intro g23 hf
                subst eq24
                refine me_iconst (v := (1 : Int32)) (q := 70) C dX5_readTest_69 (by decide) rfl ?_
                refine me_istore_n (q := 71) (lv2 := [some (vR (some b0)), some (vI b1), some (vI (1 : Int32)), some (vI v13), some (vI x4)]) C dX5_readTest_70 rfl (Nat.le_of_ble_eq_true rfl) rfl rfl rfl ?_
                refine me_aload_n (q := 72) C dX5_readTest_71 rfl rfl rfl ?_
                obtain ⟨k25, hf⟩ := mm_ck_some hf
                refine me_getR (q := 75) C dX5_readTest_72 mf_X5_15 rfl rfl k25 rfl ?_
                refine me_aload_n (q := 76) C dX5_readTest_75 rfl rfl rfl ?_
                refine me_getI (q := 79) C dX5_readTest_76 mf_X5_45 rfl rfl k25 rfl ?_
                obtain ⟨u26, eu26, hf⟩ := mm_rf_some hf
                obtain ⟨k27, hf⟩ := mm_ck_some hf
                obtain ⟨k28, hf⟩ := mm_ck_some hf
                refine me_iald (q := 80) C dX5_readTest_79 eu26 k27 k28 rfl ?_
                refine me_bipush (v := (18 : Int32)) (q := 82) C dX5_readTest_80 (by decide) rfl ?_
                refine me_icmp_eq (q2 := 87) (q := 85) C dX5_readTest_82 (by decide) rfl (fun c29 => ?_) (fun c29 => ?_)
                · have hf := mm_if_t c29 hf
                  exact Hq17 _ _ hf
                · have hf := mm_if_f c29 hf
                  refine me_iconst (v := (1 : Int32)) (q := 86) C dX5_readTest_85 (by decide) rfl ?_
                  exact me_zret C hE (Nat.le_of_ble_eq_true rfl) (Nat.le_of_ble_eq_true rfl) rfl (Or.inr rfl) dX5_readTest_86 (mm_ri hf)
              refine me_if_eq (q2 := 69) (q := 63) C dX5_readTest_60 (by decide) rfl (fun c30 => ?_) (fun c30 => ?_)
              · have hf := mm_if_t c30 hf
                refine me_mask [true, true, false, true, true] (lv2 := [some (vR (some b0)), some (vI b1), none, some (vI v13), some (vI x4)]) rfl ?_
                exact Hq24 _ hf
              · have hf := mm_if_f c30 hf
                refine me_aload_n (q := 64) C dX5_readTest_63 rfl rfl rfl ?_
                refine me_bipush (v := (-19 : Int32)) (q := 66) C dX5_readTest_64 (by decide) rfl ?_
                obtain ⟨_, g31, e32, hf⟩ := mm_cl_some hf
                refine me_callV (q := 69) (c2 := 0) (s2 := 0) (st := []) C (cX5_emit_ok _ e32) mt_X5_136 mv_X5_emit rfl (by decide) dX5_readTest_66 rfl k9 rfl rfl rfl (by omega) rfl (Nat.le_of_ble_eq_true rfl) rfl (Nat.le_of_ble_eq_true rfl) rfl rfl ?_
                refine me_mask [true, true, false, true, true] (lv2 := [some (vR (some b0)), some (vI b1), none, some (vI v13), some (vI x4)]) rfl ?_
                exact Hq24 _ hf
          refine me_icmp_ne (q2 := 53) (q := 49) C dX5_readTest_46 (by decide) rfl (fun c33 => ?_) (fun c33 => ?_)
          · have hf := mm_if_t c33 hf
            refine me_iconst (v := (0 : Int32)) (q := 54) C dX5_readTest_53 (by decide) rfl ?_
            exact Hq14 _ hf
          · have hf := mm_if_f c33 hf
            refine me_iconst (v := (1 : Int32)) (q := 50) C dX5_readTest_49 (by decide) rfl ?_
            refine me_goto (q := 54) C dX5_readTest_50 (by decide) ?_
            exact Hq14 _ hf
        refine me_if_eq (q2 := 35) (q := 29) C dX5_readTest_26 (by decide) rfl (fun c34 => ?_) (fun c34 => ?_)
        · have hf := mm_if_t c34 hf
          refine me_mask [true, true, true, false, true] (lv2 := [some (vR (some b0)), some (vI b1), some (vI x2), none, some (vI x4)]) rfl ?_
          exact Hq8 _ hf
        · have hf := mm_if_f c34 hf
          refine me_aload_n (q := 30) C dX5_readTest_29 rfl rfl rfl ?_
          refine me_bipush (v := (-20 : Int32)) (q := 32) C dX5_readTest_30 (by decide) rfl ?_
          obtain ⟨k35, hf⟩ := mm_ck_some hf
          obtain ⟨_, g36, e37, hf⟩ := mm_cl_some hf
          refine me_callV (q := 35) (c2 := 0) (s2 := 0) (st := []) C (cX5_emit_ok _ e37) mt_X5_136 mv_X5_emit rfl (by decide) dX5_readTest_32 rfl k35 rfl rfl rfl (by omega) rfl (Nat.le_of_ble_eq_true rfl) rfl (Nat.le_of_ble_eq_true rfl) rfl rfl ?_
          refine me_mask [true, true, true, false, true] (lv2 := [some (vR (some b0)), some (vI b1), some (vI x2), none, some (vI x4)]) rfl ?_
          exact Hq8 _ hf
      · have hf := mm_if_f c6 hf
        refine me_iconst (v := (0 : Int32)) (q := 24) C dX5_readTest_23 (by decide) rfl ?_
        exact me_zret C hE (Nat.le_of_ble_eq_true rfl) (Nat.le_of_ble_eq_true rfl) rfl (Or.inl rfl) dX5_readTest_24 (mm_ri hf)
set_option maxRecDepth 100000 in
set_option maxHeartbeats 4000000 in
theorem cX5_readTest_g_ok (l : Launch) {lx : Nat} (hlx : 44 ≤ lx) {rc0 : Nat → Int32 → mm_H → Option (Int32 × mm_H)} {rc1 : Nat → Int32 → mm_H → Option (Int32 × mm_H)} (hr0 : ∀ {a0 : Nat} {a1 : Int32} {h : mm_H} {r : Int32} {h1 : mm_H}, rc0 a0 a1 h = some (r, h1) → mm_M l yX5_readTest cX5_readTest 5 (some .boolean) lx 0 0 [vR (some a0), vI a1] h (some (vI r)) h1) (hr1 : ∀ {a0 : Nat} {a1 : Int32} {h : mm_H} {r : Int32} {h1 : mm_H}, rc1 a0 a1 h = some (r, h1) → mm_M l yX5_readFact cX5_readFact 4 (some .boolean) lx 0 0 [vR (some a0), vI a1] h (some (vI r)) h1) {a0 : Nat} {a1 : Int32} {h : mm_H} {r : Int32} {h1 : mm_H} (hf : fX5_readTest_g rc0 rc1 a0 a1 h = some (r, h1)) : mm_M l yX5_readTest cX5_readTest 5 (some .boolean) (lx + 1) 0 0 [vR (some a0), vI a1] h (some (vI r)) h1 := by
  refine mm_enter (lv := [some (vR (some a0)), some (vI a1), none, none, none]) (by decide) rfl (Nat.le_of_ble_eq_true rfl) ?_
  intro X hl C hE
  subst hl
  unfold fX5_readTest_g at hf
  refine me_iconst (v := (0 : Int32)) (q := 1) C dX5_readTest_0 (by decide) rfl ?_
  refine me_istore_n (q := 2) (lv2 := [some (vR (some a0)), some (vI a1), some (vI (0 : Int32)), none, none]) C dX5_readTest_1 rfl (Nat.le_of_ble_eq_true rfl) rfl rfl rfl ?_
  refine me_iconst (v := (0 : Int32)) (q := 3) C dX5_readTest_2 (by decide) rfl ?_
  refine me_istore_n (q := 4) (lv2 := [some (vR (some a0)), some (vI a1), some (vI (0 : Int32)), some (vI (0 : Int32)), none]) C dX5_readTest_3 rfl (Nat.le_of_ble_eq_true rfl) rfl rfl rfl ?_
  refine me_iconst (v := (0 : Int32)) (q := 5) C dX5_readTest_4 (by decide) rfl ?_
  refine me_istore (q := 7) (lv2 := [some (vR (some a0)), some (vI a1), some (vI (0 : Int32)), some (vI (0 : Int32)), some (vI (0 : Int32))]) C dX5_readTest_5 (Nat.le_of_ble_eq_true rfl) rfl rfl rfl ?_
  refine cX5_readTest_L7 C hE hlx hr0 hr1 _ _ _ _ _ _ hf ?_
  · intro g38 hf
    refine me_iconst (v := (0 : Int32)) (q := 98) C dX5_readTest_97 (by decide) rfl ?_
    exact me_zret C hE (Nat.le_of_ble_eq_true rfl) (Nat.le_of_ble_eq_true rfl) rfl (Or.inl rfl) dX5_readTest_98 (mm_ri hf)
set_option maxRecDepth 100000 in
set_option maxHeartbeats 4000000 in
theorem cX5_readFact_g_ok (l : Launch) {lx : Nat} (hlx : 44 ≤ lx) {rc0 : Nat → Int32 → mm_H → Option (Int32 × mm_H)} {rc1 : Nat → Int32 → mm_H → Option (Int32 × mm_H)} (hr0 : ∀ {a0 : Nat} {a1 : Int32} {h : mm_H} {r : Int32} {h1 : mm_H}, rc0 a0 a1 h = some (r, h1) → mm_M l yX5_readTest cX5_readTest 5 (some .boolean) lx 0 0 [vR (some a0), vI a1] h (some (vI r)) h1) (hr1 : ∀ {a0 : Nat} {a1 : Int32} {h : mm_H} {r : Int32} {h1 : mm_H}, rc1 a0 a1 h = some (r, h1) → mm_M l yX5_readFact cX5_readFact 4 (some .boolean) lx 0 0 [vR (some a0), vI a1] h (some (vI r)) h1) {a0 : Nat} {a1 : Int32} {h : mm_H} {r : Int32} {h1 : mm_H} (hf : fX5_readFact_g rc0 rc1 a0 a1 h = some (r, h1)) : mm_M l yX5_readFact cX5_readFact 4 (some .boolean) (lx + 1) 0 0 [vR (some a0), vI a1] h (some (vI r)) h1 := by
  refine mm_enter (lv := [some (vR (some a0)), some (vI a1), none, none]) (by decide) rfl (Nat.le_of_ble_eq_true rfl) ?_
  intro X hl C hE
  subst hl
  unfold fX5_readFact_g at hf
  refine me_aload_n (q := 1) C dX5_readFact_0 rfl rfl rfl ?_
  obtain ⟨k1, hf⟩ := mm_ck_some hf
  refine me_getR (q := 4) C dX5_readFact_1 mf_X5_15 rfl rfl k1 rfl ?_
  refine me_aload_n (q := 5) C dX5_readFact_4 rfl rfl rfl ?_
  refine me_getI (q := 8) C dX5_readFact_5 mf_X5_45 rfl rfl k1 rfl ?_
  obtain ⟨u2, eu2, hf⟩ := mm_rf_some hf
  obtain ⟨k3, hf⟩ := mm_ck_some hf
  obtain ⟨k4, hf⟩ := mm_ck_some hf
  refine me_iald (q := 9) C dX5_readFact_8 eu2 k3 k4 rfl ?_
  refine me_bipush (v := (22 : Int32)) (q := 11) C dX5_readFact_9 (by decide) rfl ?_
  obtain ⟨q6, eq6, hf⟩ := mm_jn_some hf
  have Hq6 : ∀ (v5 : Int32), q6 v5 = some (r, h1) → mm_E X h 0 0 19 [some (vR (some a0)), some (vI a1), none, none] [vI v5] := by
    intro v5 hf
    subst eq6
    refine me_istore_n (q := 20) (lv2 := [some (vR (some a0)), some (vI a1), some (vI v5), none]) C dX5_readFact_19 rfl (Nat.le_of_ble_eq_true rfl) rfl rfl rfl ?_
    refine me_iload_n (q := 21) C dX5_readFact_20 rfl rfl rfl ?_
    obtain ⟨q7, eq7, hf⟩ := mm_jn_some hf
    have Hq7 : ∀ (_u : Unit), q7 _u = some (r, h1) → mm_E X h 0 0 38 [some (vR (some a0)), some (vI a1), some (vI v5), none] [] := by
      intro _u hf
      subst eq7
      refine me_iload_n (q := 39) C dX5_readFact_38 rfl rfl rfl ?_
      refine me_bipush (v := (10 : Int32)) (q := 41) C dX5_readFact_39 (by decide) rfl ?_
      refine me_icmp_lt (q2 := 50) (q := 44) C dX5_readFact_41 (by decide) rfl (fun c8 => ?_) (fun c8 => ?_)
      · have hf := mm_if_t c8 hf
        refine me_aload_n (q := 51) C dX5_readFact_50 rfl rfl rfl ?_
        obtain ⟨_, g9, e10, hf⟩ := mm_cl_some hf
        refine me_callV (q := 54) (c2 := 0) (s2 := 0) (st := []) C (cX5_goOn_ok _ e10) mt_X5_124 mv_X5_goOn rfl (by decide) dX5_readFact_51 rfl k1 rfl rfl rfl (by omega) rfl (Nat.le_of_ble_eq_true rfl) rfl (Nat.le_of_ble_eq_true rfl) rfl rfl ?_
        refine me_iload_n (q := 55) C dX5_readFact_54 rfl rfl rfl ?_
        refine me_if_eq (q2 := 83) (q := 58) C dX5_readFact_55 (by decide) rfl (fun c11 => ?_) (fun c11 => ?_)
        · have hf := mm_if_t c11 hf
          refine me_aload_n (q := 84) C dX5_readFact_83 rfl rfl rfl ?_
          refine me_iload_n (q := 85) C dX5_readFact_84 rfl rfl rfl ?_
          refine me_iconst (v := (1 : Int32)) (q := 86) C dX5_readFact_85 (by decide) rfl ?_
          refine me_iadd (q := 87) C dX5_readFact_86 rfl ?_
          obtain ⟨k12, hf⟩ := mm_ck_some hf
          obtain ⟨v13, g14, e15, hf⟩ := mm_cl_some hf
          refine me_callV (q := 90) (c2 := 0) (s2 := 0) (st := []) C (hr1 e15) mt_X5_133 mv_X5_readFact rfl (by decide) dX5_readFact_87 rfl k12 rfl rfl rfl (by omega) rfl (Nat.le_of_ble_eq_true rfl) rfl (Nat.le_of_ble_eq_true rfl) rfl rfl ?_
          refine me_if_ne (q2 := 95) (q := 93) C dX5_readFact_90 (by decide) rfl (fun c16 => ?_) (fun c16 => ?_)
          · have hf := mm_if_t c16 hf
            refine me_aload_n (q := 96) C dX5_readFact_95 rfl rfl rfl ?_
            refine me_bipush (v := (-21 : Int32)) (q := 98) C dX5_readFact_96 (by decide) rfl ?_
            obtain ⟨k17, hf⟩ := mm_ck_some hf
            obtain ⟨_, g18, e19, hf⟩ := mm_cl_some hf
            refine me_callV (q := 101) (c2 := 0) (s2 := 0) (st := []) C (cX5_emit_ok _ e19) mt_X5_136 mv_X5_emit rfl (by decide) dX5_readFact_98 rfl k17 rfl rfl rfl (by omega) rfl (Nat.le_of_ble_eq_true rfl) rfl (Nat.le_of_ble_eq_true rfl) rfl rfl ?_
            refine me_iconst (v := (1 : Int32)) (q := 102) C dX5_readFact_101 (by decide) rfl ?_
            exact me_zret C hE (Nat.le_of_ble_eq_true rfl) (Nat.le_of_ble_eq_true rfl) rfl (Or.inr rfl) dX5_readFact_102 (mm_ri hf)
          · have hf := mm_if_f c16 hf
            refine me_iconst (v := (0 : Int32)) (q := 94) C dX5_readFact_93 (by decide) rfl ?_
            exact me_zret C hE (Nat.le_of_ble_eq_true rfl) (Nat.le_of_ble_eq_true rfl) rfl (Or.inl rfl) dX5_readFact_94 (mm_ri hf)
        · have hf := mm_if_f c11 hf
          refine me_aload_n (q := 59) C dX5_readFact_58 rfl rfl rfl ?_
          refine me_iload_n (q := 60) C dX5_readFact_59 rfl rfl rfl ?_
          refine me_iconst (v := (1 : Int32)) (q := 61) C dX5_readFact_60 (by decide) rfl ?_
          refine me_iadd (q := 62) C dX5_readFact_61 rfl ?_
          obtain ⟨k20, hf⟩ := mm_ck_some hf
          obtain ⟨v21, g22, e23, hf⟩ := mm_cl_some hf
          refine me_callV (q := 65) (c2 := 0) (s2 := 0) (st := []) C (hr0 e23) mt_X5_130 mv_X5_readTest rfl (by decide) dX5_readFact_62 rfl k20 rfl rfl rfl (by omega) rfl (Nat.le_of_ble_eq_true rfl) rfl (Nat.le_of_ble_eq_true rfl) rfl rfl ?_
          refine me_if_eq (q2 := 81) (q := 68) C dX5_readFact_65 (by decide) rfl (fun c24 => ?_) (fun c24 => ?_)
          · have hf := mm_if_t c24 hf
            refine me_iconst (v := (0 : Int32)) (q := 82) C dX5_readFact_81 (by decide) rfl ?_
            exact me_zret C hE (Nat.le_of_ble_eq_true rfl) (Nat.le_of_ble_eq_true rfl) rfl (Or.inl rfl) dX5_readFact_82 (mm_ri hf)
          · have hf := mm_if_f c24 hf
            refine me_aload_n (q := 69) C dX5_readFact_68 rfl rfl rfl ?_
            refine me_bipush (v := (23 : Int32)) (q := 71) C dX5_readFact_69 (by decide) rfl ?_
            obtain ⟨k25, hf⟩ := mm_ck_some hf
            obtain ⟨v26, g27, e28, hf⟩ := mm_cl_some hf
            refine me_callV (q := 74) (c2 := 0) (s2 := 0) (st := []) C (cX5_pass_ok _ e28) mt_X5_64 mv_X5_pass rfl (by decide) dX5_readFact_71 rfl k25 rfl rfl rfl (by omega) rfl (Nat.le_of_ble_eq_true rfl) rfl (Nat.le_of_ble_eq_true rfl) rfl rfl ?_
            refine me_if_eq (q2 := 81) (q := 77) C dX5_readFact_74 (by decide) rfl (fun c29 => ?_) (fun c29 => ?_)
            · have hf := mm_if_t c29 hf
              refine me_iconst (v := (0 : Int32)) (q := 82) C dX5_readFact_81 (by decide) rfl ?_
              exact me_zret C hE (Nat.le_of_ble_eq_true rfl) (Nat.le_of_ble_eq_true rfl) rfl (Or.inl rfl) dX5_readFact_82 (mm_ri hf)
            · have hf := mm_if_f c29 hf
              refine me_iconst (v := (1 : Int32)) (q := 78) C dX5_readFact_77 (by decide) rfl ?_
              refine me_goto (q := 82) C dX5_readFact_78 (by decide) ?_
              exact me_zret C hE (Nat.le_of_ble_eq_true rfl) (Nat.le_of_ble_eq_true rfl) rfl (Or.inr rfl) dX5_readFact_82 (mm_ri hf)
      · have hf := mm_if_f c8 hf
        refine me_aload_n (q := 45) C dX5_readFact_44 rfl rfl rfl ?_
        refine me_iconst (v := (2 : Int32)) (q := 46) C dX5_readFact_45 (by decide) rfl ?_
        obtain ⟨v30, g31, e32, hf⟩ := mm_cl_some hf
        refine me_callV (q := 49) (c2 := 0) (s2 := 0) (st := []) C (cX5_fail_ok _ e32) mt_X5_121 mv_X5_fail rfl (by decide) dX5_readFact_46 rfl k1 rfl rfl rfl (by omega) rfl (Nat.le_of_ble_eq_true rfl) rfl (Nat.le_of_ble_eq_true rfl) rfl rfl ?_
        obtain ⟨k33, hf⟩ := mm_ck_some hf
        exact me_zret C hE (Nat.le_of_ble_eq_true rfl) (Nat.le_of_ble_eq_true rfl) rfl k33 dX5_readFact_49 (mm_ri hf)
    refine me_if_ne (q2 := 38) (q := 24) C dX5_readFact_21 (by decide) rfl (fun c34 => ?_) (fun c34 => ?_)
    · have hf := mm_if_t c34 hf
      exact Hq7 () hf
    · have hf := mm_if_f c34 hf
      refine me_aload_n (q := 25) C dX5_readFact_24 rfl rfl rfl ?_
      refine me_getR (q := 28) C dX5_readFact_25 mf_X5_15 rfl rfl k1 rfl ?_
      refine me_aload_n (q := 29) C dX5_readFact_28 rfl rfl rfl ?_
      refine me_getI (q := 32) C dX5_readFact_29 mf_X5_45 rfl rfl k1 rfl ?_
      obtain ⟨k35, hf⟩ := mm_ck_some hf
      refine me_iald (q := 33) C dX5_readFact_32 eu2 k3 k35 rfl ?_
      refine me_bipush (v := (20 : Int32)) (q := 35) C dX5_readFact_33 (by decide) rfl ?_
      refine me_icmp_ne (q2 := 103) (q := 38) C dX5_readFact_35 (by decide) rfl (fun c36 => ?_) (fun c36 => ?_)
      · have hf := mm_if_t c36 hf
        refine me_aload_n (q := 104) C dX5_readFact_103 rfl rfl rfl ?_
        refine me_iload_n (q := 105) C dX5_readFact_104 rfl rfl rfl ?_
        obtain ⟨v37, g38, e39, hf⟩ := mm_cl_some hf
        refine me_callV (q := 108) (c2 := 0) (s2 := 0) (st := []) C (cX5_readSum_ok _ e39) mt_X5_140 mv_X5_readSum rfl (by decide) dX5_readFact_105 rfl k1 rfl rfl rfl (by omega) rfl (Nat.le_of_ble_eq_true rfl) rfl (Nat.le_of_ble_eq_true rfl) rfl rfl ?_
        refine me_if_ne (q2 := 113) (q := 111) C dX5_readFact_108 (by decide) rfl (fun c40 => ?_) (fun c40 => ?_)
        · have hf := mm_if_t c40 hf
          refine me_aload_n (q := 114) C dX5_readFact_113 rfl rfl rfl ?_
          obtain ⟨k41, hf⟩ := mm_ck_some hf
          refine me_getR (q := 117) C dX5_readFact_114 mf_X5_15 rfl rfl k41 rfl ?_
          refine me_aload_n (q := 118) C dX5_readFact_117 rfl rfl rfl ?_
          refine me_getI (q := 121) C dX5_readFact_118 mf_X5_45 rfl rfl k41 rfl ?_
          obtain ⟨u42, eu42, hf⟩ := mm_rf_some hf
          obtain ⟨k43, hf⟩ := mm_ck_some hf
          obtain ⟨k44, hf⟩ := mm_ck_some hf
          refine me_iald (q := 122) C dX5_readFact_121 eu42 k43 k44 rfl ?_
          obtain ⟨v45, ev45, hf⟩ := mm_lt_some hf
          refine me_topI ev45 ?_
          refine me_istore_n (q := 123) (lv2 := [some (vR (some a0)), some (vI a1), some (vI v5), some (vI v45)]) C dX5_readFact_122 rfl (Nat.le_of_ble_eq_true rfl) rfl rfl rfl ?_
          refine me_iload_n (q := 124) C dX5_readFact_123 rfl rfl rfl ?_
          refine me_bipush (v := (30 : Int32)) (q := 126) C dX5_readFact_124 (by decide) rfl ?_
          refine me_icmp_lt (q2 := 135) (q := 129) C dX5_readFact_126 (by decide) rfl (fun c46 => ?_) (fun c46 => ?_)
          · have hf := mm_if_t c46 hf
            refine me_aload_n (q := 136) C dX5_readFact_135 rfl rfl rfl ?_
            refine me_iconst (v := (0 : Int32)) (q := 137) C dX5_readFact_136 (by decide) rfl ?_
            obtain ⟨v47, g48, e49, hf⟩ := mm_cl_some hf
            refine me_callV (q := 140) (c2 := 0) (s2 := 0) (st := []) C (cX5_fail_ok _ e49) mt_X5_121 mv_X5_fail rfl (by decide) dX5_readFact_137 rfl k41 rfl rfl rfl (by omega) rfl (Nat.le_of_ble_eq_true rfl) rfl (Nat.le_of_ble_eq_true rfl) rfl rfl ?_
            obtain ⟨k50, hf⟩ := mm_ck_some hf
            exact me_zret C hE (Nat.le_of_ble_eq_true rfl) (Nat.le_of_ble_eq_true rfl) rfl k50 dX5_readFact_140 (mm_ri hf)
          · have hf := mm_if_f c46 hf
            refine me_iload_n (q := 130) C dX5_readFact_129 rfl rfl rfl ?_
            refine me_bipush (v := (34 : Int32)) (q := 132) C dX5_readFact_130 (by decide) rfl ?_
            refine me_icmp_le (q2 := 141) (q := 135) C dX5_readFact_132 (by decide) rfl (fun c51 => ?_) (fun c51 => ?_)
            · have hf := mm_if_t c51 hf
              refine me_aload_n (q := 142) C dX5_readFact_141 rfl rfl rfl ?_
              refine me_getI (q := 145) C dX5_readFact_142 mf_X5_48 rfl rfl k41 rfl ?_
              refine me_bipush (v := (80 : Int32)) (q := 147) C dX5_readFact_145 (by decide) rfl ?_
              refine me_icmp_lt (q2 := 156) (q := 150) C dX5_readFact_147 (by decide) rfl (fun c52 => ?_) (fun c52 => ?_)
              · have hf := mm_if_t c52 hf
                refine me_aload_n (q := 157) C dX5_readFact_156 rfl rfl rfl ?_
                refine me_dup (q := 158) C dX5_readFact_157 rfl rfl ?_
                refine me_getI (q := 161) C dX5_readFact_158 mf_X5_48 rfl rfl k41 rfl ?_
                refine me_iconst (v := (1 : Int32)) (q := 162) C dX5_readFact_161 (by decide) rfl ?_
                refine me_iadd (q := 163) C dX5_readFact_162 rfl ?_
                obtain ⟨g53, eg53, hf⟩ := mm_lt_some hf
                refine me_putI (q := 166) C eg53 dX5_readFact_163 mf_X5_48 mp_X5_6_7 rfl (by decide) rfl k41 rfl ?_
                refine me_aload_n (q := 167) C dX5_readFact_166 rfl rfl rfl ?_
                obtain ⟨_, g54, e55, hf⟩ := mm_cl_some hf
                refine me_callV (q := 170) (c2 := 0) (s2 := 0) (st := []) C (cX5_goOn_ok _ e55) mt_X5_124 mv_X5_goOn rfl (by decide) dX5_readFact_167 rfl (mm_kI eg53 k41) rfl rfl rfl (by omega) rfl (Nat.le_of_ble_eq_true rfl) rfl (Nat.le_of_ble_eq_true rfl) rfl rfl ?_
                refine me_aload_n (q := 171) C dX5_readFact_170 rfl rfl rfl ?_
                refine me_iload_n (q := 172) C dX5_readFact_171 rfl rfl rfl ?_
                obtain ⟨k56, hf⟩ := mm_ck_some hf
                obtain ⟨v57, g58, e59, hf⟩ := mm_cl_some hf
                refine me_callV (q := 175) (c2 := 0) (s2 := 0) (st := []) C (cX5_readSum_ok _ e59) mt_X5_140 mv_X5_readSum rfl (by decide) dX5_readFact_172 rfl k56 rfl rfl rfl (by omega) rfl (Nat.le_of_ble_eq_true rfl) rfl (Nat.le_of_ble_eq_true rfl) rfl rfl ?_
                refine me_if_ne (q2 := 180) (q := 178) C dX5_readFact_175 (by decide) rfl (fun c60 => ?_) (fun c60 => ?_)
                · have hf := mm_if_t c60 hf
                  refine me_aload_n (q := 181) C dX5_readFact_180 rfl rfl rfl ?_
                  refine me_iconst (v := (-1 : Int32)) (q := 182) C dX5_readFact_181 (by decide) rfl ?_
                  refine me_iload_n (q := 183) C dX5_readFact_182 rfl rfl rfl ?_
                  refine me_isub (q := 184) C dX5_readFact_183 rfl ?_
                  obtain ⟨k61, hf⟩ := mm_ck_some hf
                  obtain ⟨_, g62, e63, hf⟩ := mm_cl_some hf
                  refine me_callV (q := 187) (c2 := 0) (s2 := 0) (st := []) C (cX5_emit_ok _ e63) mt_X5_136 mv_X5_emit rfl (by decide) dX5_readFact_184 rfl k61 rfl rfl rfl (by omega) rfl (Nat.le_of_ble_eq_true rfl) rfl (Nat.le_of_ble_eq_true rfl) rfl rfl ?_
                  refine me_iconst (v := (1 : Int32)) (q := 188) C dX5_readFact_187 (by decide) rfl ?_
                  exact me_zret C hE (Nat.le_of_ble_eq_true rfl) (Nat.le_of_ble_eq_true rfl) rfl (Or.inr rfl) dX5_readFact_188 (mm_ri hf)
                · have hf := mm_if_f c60 hf
                  refine me_iconst (v := (0 : Int32)) (q := 179) C dX5_readFact_178 (by decide) rfl ?_
                  exact me_zret C hE (Nat.le_of_ble_eq_true rfl) (Nat.le_of_ble_eq_true rfl) rfl (Or.inl rfl) dX5_readFact_179 (mm_ri hf)
              · have hf := mm_if_f c52 hf
                refine me_aload_n (q := 151) C dX5_readFact_150 rfl rfl rfl ?_
                refine me_iconst (v := (3 : Int32)) (q := 152) C dX5_readFact_151 (by decide) rfl ?_
                obtain ⟨v64, g65, e66, hf⟩ := mm_cl_some hf
                refine me_callV (q := 155) (c2 := 0) (s2 := 0) (st := []) C (cX5_fail_ok _ e66) mt_X5_121 mv_X5_fail rfl (by decide) dX5_readFact_152 rfl k41 rfl rfl rfl (by omega) rfl (Nat.le_of_ble_eq_true rfl) rfl (Nat.le_of_ble_eq_true rfl) rfl rfl ?_
                obtain ⟨k67, hf⟩ := mm_ck_some hf
                exact me_zret C hE (Nat.le_of_ble_eq_true rfl) (Nat.le_of_ble_eq_true rfl) rfl k67 dX5_readFact_155 (mm_ri hf)
            · have hf := mm_if_f c51 hf
              refine me_aload_n (q := 136) C dX5_readFact_135 rfl rfl rfl ?_
              refine me_iconst (v := (0 : Int32)) (q := 137) C dX5_readFact_136 (by decide) rfl ?_
              obtain ⟨v68, g69, e70, hf⟩ := mm_cl_some hf
              refine me_callV (q := 140) (c2 := 0) (s2 := 0) (st := []) C (cX5_fail_ok _ e70) mt_X5_121 mv_X5_fail rfl (by decide) dX5_readFact_137 rfl k41 rfl rfl rfl (by omega) rfl (Nat.le_of_ble_eq_true rfl) rfl (Nat.le_of_ble_eq_true rfl) rfl rfl ?_
              obtain ⟨k71, hf⟩ := mm_ck_some hf
              exact me_zret C hE (Nat.le_of_ble_eq_true rfl) (Nat.le_of_ble_eq_true rfl) rfl k71 dX5_readFact_140 (mm_ri hf)
        · have hf := mm_if_f c40 hf
          refine me_iconst (v := (0 : Int32)) (q := 112) C dX5_readFact_111 (by decide) rfl ?_
          exact me_zret C hE (Nat.le_of_ble_eq_true rfl) (Nat.le_of_ble_eq_true rfl) rfl (Or.inl rfl) dX5_readFact_112 (mm_ri hf)
      · have hf := mm_if_f c36 hf
        exact Hq7 () hf
  refine me_icmp_ne (q2 := 18) (q := 14) C dX5_readFact_11 (by decide) rfl (fun c72 => ?_) (fun c72 => ?_)
  · have hf := mm_if_t c72 hf
    refine me_iconst (v := (0 : Int32)) (q := 19) C dX5_readFact_18 (by decide) rfl ?_
    exact Hq6 _ hf
  · have hf := mm_if_f c72 hf
    refine me_iconst (v := (1 : Int32)) (q := 15) C dX5_readFact_14 (by decide) rfl ?_
    refine me_goto (q := 19) C dX5_readFact_15 (by decide) ?_
    exact Hq6 _ hf


theorem cgG2_ok (l : Launch) : ∀ n : Nat, (∀ {a0 : Nat} {a1 : Int32} {h : mm_H} {r : Int32} {h1 : mm_H}, (fgG2 n).1 a0 a1 h = some (r, h1) → mm_M l yX5_readTest cX5_readTest 5 (some .boolean) (44 + n) 0 0 [vR (some a0), vI a1] h (some (vI r)) h1) ∧ (∀ {a0 : Nat} {a1 : Int32} {h : mm_H} {r : Int32} {h1 : mm_H}, (fgG2 n).2 a0 a1 h = some (r, h1) → mm_M l yX5_readFact cX5_readFact 4 (some .boolean) (44 + n) 0 0 [vR (some a0), vI a1] h (some (vI r)) h1) := by
  intro n
  induction n with
  | zero =>
    exact ⟨(by intro a0 a1 h r h1 hf; cases (show (none : Option (Int32 × mm_H)) = some (r, h1) from hf)), (by intro a0 a1 h r h1 hf; cases (show (none : Option (Int32 × mm_H)) = some (r, h1) from hf))⟩
  | succ n ih =>
    exact ⟨fun hf => cX5_readTest_g_ok l (lx := 44 + n) (Nat.le_add_right _ _) (ih).1 (ih).2 hf, fun hf => cX5_readFact_g_ok l (lx := 44 + n) (Nat.le_add_right _ _) (ih).1 (ih).2 hf⟩


theorem cX5_readTest_ok (l : Launch) {a0 : Nat} {a1 : Int32} {h : mm_H} {r : Int32} {h1 : mm_H} (hf : fX5_readTest a0 a1 h = some (r, h1)) : mm_M l yX5_readTest cX5_readTest 5 (some .boolean) 84 0 0 [vR (some a0), vI a1] h (some (vI r)) h1 := by
  exact (cgG2_ok l 40).1 hf


theorem cX5_readFact_ok (l : Launch) {a0 : Nat} {a1 : Int32} {h : mm_H} {r : Int32} {h1 : mm_H} (hf : fX5_readFact a0 a1 h = some (r, h1)) : mm_M l yX5_readFact cX5_readFact 4 (some .boolean) 84 0 0 [vR (some a0), vI a1] h (some (vI r)) h1 := by
  exact (cgG2_ok l 40).2 hf
set_option maxRecDepth 100000 in
set_option maxHeartbeats 4000000 in
theorem cX5_readClause_ok (l : Launch) {a0 : Nat} {h : mm_H} {r : Int32} {h1 : mm_H} (hf : fX5_readClause a0 h = some (r, h1)) : mm_M l yX5_readClause cX5_readClause 2 (some .boolean) 86 0 0 [vR (some a0)] h (some (vI r)) h1 := by
  refine mm_enter (lv := [some (vR (some a0)), none]) (by decide) rfl (Nat.le_of_ble_eq_true rfl) ?_
  intro X hl C hE
  subst hl
  unfold fX5_readClause at hf
  refine me_aload_n (q := 1) C dX5_readClause_0 rfl rfl rfl ?_
  obtain ⟨k1, hf⟩ := mm_ck_some hf
  refine me_getR (q := 4) C dX5_readClause_1 mf_X5_15 rfl rfl k1 rfl ?_
  refine me_aload_n (q := 5) C dX5_readClause_4 rfl rfl rfl ?_
  refine me_getI (q := 8) C dX5_readClause_5 mf_X5_45 rfl rfl k1 rfl ?_
  obtain ⟨u2, eu2, hf⟩ := mm_rf_some hf
  obtain ⟨k3, hf⟩ := mm_ck_some hf
  obtain ⟨k4, hf⟩ := mm_ck_some hf
  refine me_iald (q := 9) C dX5_readClause_8 eu2 k3 k4 rfl ?_
  obtain ⟨v5, ev5, hf⟩ := mm_lt_some hf
  refine me_topI ev5 ?_
  refine me_istore_n (q := 10) (lv2 := [some (vR (some a0)), some (vI v5)]) C dX5_readClause_9 rfl (Nat.le_of_ble_eq_true rfl) rfl rfl rfl ?_
  refine me_iload_n (q := 11) C dX5_readClause_10 rfl rfl rfl ?_
  refine me_bipush (v := (14 : Int32)) (q := 13) C dX5_readClause_11 (by decide) rfl ?_
  obtain ⟨q6, eq6, hf⟩ := mm_jn_some hf
  have Hq6 : ∀ (_u : Unit), q6 _u = some (r, h1) → mm_E X h 0 0 34 [some (vR (some a0)), some (vI v5)] [] := by
    intro _u hf
    subst eq6
    refine me_aload_n (q := 35) C dX5_readClause_34 rfl rfl rfl ?_
    refine me_getI (q := 38) C dX5_readClause_35 mf_X5_57 rfl rfl k1 rfl ?_
    refine me_bipush (v := (10 : Int32)) (q := 40) C dX5_readClause_38 (by decide) rfl ?_
    refine me_icmp_lt (q2 := 49) (q := 43) C dX5_readClause_40 (by decide) rfl (fun c7 => ?_) (fun c7 => ?_)
    · have hf := mm_if_t c7 hf
      refine me_aload_n (q := 50) C dX5_readClause_49 rfl rfl rfl ?_
      obtain ⟨_, g8, e9, hf⟩ := mm_cl_some hf
      refine me_callV (q := 53) (c2 := 0) (s2 := 0) (st := []) C (cX5_goOn_ok _ e9) mt_X5_124 mv_X5_goOn rfl (by decide) dX5_readClause_50 rfl k1 rfl rfl rfl (Nat.le_of_ble_eq_true rfl) rfl (Nat.le_of_ble_eq_true rfl) rfl (Nat.le_of_ble_eq_true rfl) rfl rfl ?_
      refine me_aload_n (q := 54) C dX5_readClause_53 rfl rfl rfl ?_
      obtain ⟨k10, hf⟩ := mm_ck_some hf
      refine me_getR (q := 57) C dX5_readClause_54 mf_X5_28 rfl rfl k10 rfl ?_
      refine me_aload_n (q := 58) C dX5_readClause_57 rfl rfl rfl ?_
      refine me_getI (q := 61) C dX5_readClause_58 mf_X5_57 rfl rfl k10 rfl ?_
      refine me_iload_n (q := 62) C dX5_readClause_61 rfl rfl rfl ?_
      refine me_bipush (v := (15 : Int32)) (q := 64) C dX5_readClause_62 (by decide) rfl ?_
      obtain ⟨q12, eq12, hf⟩ := mm_jn_some hf
      have Hq12 : ∀ (v11 : Int32), q12 v11 = some (r, h1) → mm_E X g8 0 0 72 [some (vR (some a0)), some (vI v5)] [vI v11, vI (mm_i g8 a0 13), vR (mm_r g8 a0 11)] := by
        intro v11 hf
        subst eq12
        obtain ⟨u13, eu13, hf⟩ := mm_rf_some hf
        obtain ⟨k14, hf⟩ := mm_ck_some hf
        obtain ⟨k15, hf⟩ := mm_ck_some hf
        obtain ⟨g16, eg16, hf⟩ := mm_lt_some hf
        refine me_iastH (q := 73) C eg16 dX5_readClause_72 eu13 k14 k15 rfl ?_
        refine me_iload_n (q := 74) C dX5_readClause_73 rfl rfl rfl ?_
        refine me_bipush (v := (16 : Int32)) (q := 76) C dX5_readClause_74 (by decide) rfl ?_
        obtain ⟨q18, eq18, hf⟩ := mm_jn_some hf
        have Hq18 : ∀ (g17 : mm_H), q18 g17 = some (r, h1) → mm_E X g17 0 0 88 [some (vR (some a0)), none] [] := by
          intro g17 hf
          subst eq18
          refine me_aload_n (q := 89) C dX5_readClause_88 rfl rfl rfl ?_
          refine me_bipush (v := (17 : Int32)) (q := 91) C dX5_readClause_89 (by decide) rfl ?_
          obtain ⟨k19, hf⟩ := mm_ck_some hf
          obtain ⟨v20, g21, e22, hf⟩ := mm_cl_some hf
          refine me_callV (q := 94) (c2 := 0) (s2 := 0) (st := []) C (cX5_pass_ok _ e22) mt_X5_64 mv_X5_pass rfl (by decide) dX5_readClause_91 rfl k19 rfl rfl rfl (Nat.le_of_ble_eq_true rfl) rfl (Nat.le_of_ble_eq_true rfl) rfl (Nat.le_of_ble_eq_true rfl) rfl rfl ?_
          refine me_if_eq (q2 := 105) (q := 97) C dX5_readClause_94 (by decide) rfl (fun c23 => ?_) (fun c23 => ?_)
          · have hf := mm_if_t c23 hf
            refine me_iconst (v := (0 : Int32)) (q := 106) C dX5_readClause_105 (by decide) rfl ?_
            exact me_zret C hE (Nat.le_of_ble_eq_true rfl) (Nat.le_of_ble_eq_true rfl) rfl (Or.inl rfl) dX5_readClause_106 (mm_ri hf)
          · have hf := mm_if_f c23 hf
            refine me_aload_n (q := 98) C dX5_readClause_97 rfl rfl rfl ?_
            refine me_iconst (v := (0 : Int32)) (q := 99) C dX5_readClause_98 (by decide) rfl ?_
            obtain ⟨k24, hf⟩ := mm_ck_some hf
            obtain ⟨v25, g26, e27, hf⟩ := mm_cl_some hf
            refine me_callV (q := 102) (c2 := 0) (s2 := 0) (st := []) C (cX5_readTest_ok _ e27) mt_X5_130 mv_X5_readTest rfl (by decide) dX5_readClause_99 rfl k24 rfl rfl rfl (Nat.le_of_ble_eq_true rfl) rfl (Nat.le_of_ble_eq_true rfl) rfl (Nat.le_of_ble_eq_true rfl) rfl rfl ?_
            refine me_if_ne (q2 := 107) (q := 105) C dX5_readClause_102 (by decide) rfl (fun c28 => ?_) (fun c28 => ?_)
            · have hf := mm_if_t c28 hf
              refine me_aload_n (q := 108) C dX5_readClause_107 rfl rfl rfl ?_
              refine me_dup (q := 109) C dX5_readClause_108 rfl rfl ?_
              obtain ⟨k29, hf⟩ := mm_ck_some hf
              refine me_getI (q := 112) C dX5_readClause_109 mf_X5_57 rfl rfl k29 rfl ?_
              refine me_iconst (v := (1 : Int32)) (q := 113) C dX5_readClause_112 (by decide) rfl ?_
              refine me_iadd (q := 114) C dX5_readClause_113 rfl ?_
              obtain ⟨g30, eg30, hf⟩ := mm_lt_some hf
              refine me_putI (q := 117) C eg30 dX5_readClause_114 mf_X5_57 mp_X5_6_13 rfl (by decide) rfl k29 rfl ?_
              refine me_aload_n (q := 118) C dX5_readClause_117 rfl rfl rfl ?_
              refine me_getR (q := 121) C dX5_readClause_118 mf_X5_31 rfl rfl (mm_kI eg30 k29) rfl ?_
              refine me_aload_n (q := 122) C dX5_readClause_121 rfl rfl rfl ?_
              refine me_getI (q := 125) C dX5_readClause_122 mf_X5_57 rfl rfl (mm_kI eg30 k29) rfl ?_
              refine me_aload_n (q := 126) C dX5_readClause_125 rfl rfl rfl ?_
              refine me_getI (q := 129) C dX5_readClause_126 mf_X5_54 rfl rfl (mm_kI eg30 k29) rfl ?_
              obtain ⟨u31, eu31, hf⟩ := mm_rf_some hf
              obtain ⟨k32, hf⟩ := mm_ck_some hf
              obtain ⟨k33, hf⟩ := mm_ck_some hf
              obtain ⟨g34, eg34, hf⟩ := mm_lt_some hf
              refine me_iastH (q := 130) C eg34 dX5_readClause_129 eu31 k32 k33 rfl ?_
              refine me_iconst (v := (1 : Int32)) (q := 131) C dX5_readClause_130 (by decide) rfl ?_
              exact me_zret C hE (Nat.le_of_ble_eq_true rfl) (Nat.le_of_ble_eq_true rfl) rfl (Or.inr rfl) dX5_readClause_131 (mm_ri hf)
            · have hf := mm_if_f c28 hf
              refine me_iconst (v := (0 : Int32)) (q := 106) C dX5_readClause_105 (by decide) rfl ?_
              exact me_zret C hE (Nat.le_of_ble_eq_true rfl) (Nat.le_of_ble_eq_true rfl) rfl (Or.inl rfl) dX5_readClause_106 (mm_ri hf)
        refine me_icmp_ne (q2 := 88) (q := 79) C dX5_readClause_76 (by decide) rfl (fun c35 => ?_) (fun c35 => ?_)
        · have hf := mm_if_t c35 hf
          refine me_mask [true, false] (lv2 := [some (vR (some a0)), none]) rfl ?_
          exact Hq18 _ hf
        · have hf := mm_if_f c35 hf
          refine me_aload_n (q := 80) C dX5_readClause_79 rfl rfl rfl ?_
          obtain ⟨v36, g37, e38, hf⟩ := mm_cl_some hf
          refine me_callV (q := 83) (c2 := 0) (s2 := 0) (st := []) C (cX5_readFine_ok _ e38) mt_X5_127 mv_X5_readFine rfl (by decide) dX5_readClause_80 rfl (mm_kI eg16 k10) rfl rfl rfl (Nat.le_of_ble_eq_true rfl) rfl (Nat.le_of_ble_eq_true rfl) rfl (Nat.le_of_ble_eq_true rfl) rfl rfl ?_
          refine me_if_ne (q2 := 88) (q := 86) C dX5_readClause_83 (by decide) rfl (fun c39 => ?_) (fun c39 => ?_)
          · have hf := mm_if_t c39 hf
            refine me_mask [true, false] (lv2 := [some (vR (some a0)), none]) rfl ?_
            exact Hq18 _ hf
          · have hf := mm_if_f c39 hf
            refine me_iconst (v := (0 : Int32)) (q := 87) C dX5_readClause_86 (by decide) rfl ?_
            exact me_zret C hE (Nat.le_of_ble_eq_true rfl) (Nat.le_of_ble_eq_true rfl) rfl (Or.inl rfl) dX5_readClause_87 (mm_ri hf)
      refine me_icmp_ne (q2 := 71) (q := 67) C dX5_readClause_64 (by decide) rfl (fun c40 => ?_) (fun c40 => ?_)
      · have hf := mm_if_t c40 hf
        refine me_iconst (v := (0 : Int32)) (q := 72) C dX5_readClause_71 (by decide) rfl ?_
        exact Hq12 _ hf
      · have hf := mm_if_f c40 hf
        refine me_iconst (v := (1 : Int32)) (q := 68) C dX5_readClause_67 (by decide) rfl ?_
        refine me_goto (q := 72) C dX5_readClause_68 (by decide) ?_
        exact Hq12 _ hf
    · have hf := mm_if_f c7 hf
      refine me_aload_n (q := 44) C dX5_readClause_43 rfl rfl rfl ?_
      refine me_iconst (v := (4 : Int32)) (q := 45) C dX5_readClause_44 (by decide) rfl ?_
      obtain ⟨v41, g42, e43, hf⟩ := mm_cl_some hf
      refine me_callV (q := 48) (c2 := 0) (s2 := 0) (st := []) C (cX5_fail_ok _ e43) mt_X5_121 mv_X5_fail rfl (by decide) dX5_readClause_45 rfl k1 rfl rfl rfl (Nat.le_of_ble_eq_true rfl) rfl (Nat.le_of_ble_eq_true rfl) rfl (Nat.le_of_ble_eq_true rfl) rfl rfl ?_
      obtain ⟨k44, hf⟩ := mm_ck_some hf
      exact me_zret C hE (Nat.le_of_ble_eq_true rfl) (Nat.le_of_ble_eq_true rfl) rfl k44 dX5_readClause_48 (mm_ri hf)
  refine me_icmp_eq (q2 := 34) (q := 16) C dX5_readClause_13 (by decide) rfl (fun c45 => ?_) (fun c45 => ?_)
  · have hf := mm_if_t c45 hf
    exact Hq6 () hf
  · have hf := mm_if_f c45 hf
    refine me_iload_n (q := 17) C dX5_readClause_16 rfl rfl rfl ?_
    refine me_bipush (v := (15 : Int32)) (q := 19) C dX5_readClause_17 (by decide) rfl ?_
    refine me_icmp_eq (q2 := 34) (q := 22) C dX5_readClause_19 (by decide) rfl (fun c46 => ?_) (fun c46 => ?_)
    · have hf := mm_if_t c46 hf
      exact Hq6 () hf
    · have hf := mm_if_f c46 hf
      refine me_iload_n (q := 23) C dX5_readClause_22 rfl rfl rfl ?_
      refine me_bipush (v := (16 : Int32)) (q := 25) C dX5_readClause_23 (by decide) rfl ?_
      refine me_icmp_eq (q2 := 34) (q := 28) C dX5_readClause_25 (by decide) rfl (fun c47 => ?_) (fun c47 => ?_)
      · have hf := mm_if_t c47 hf
        exact Hq6 () hf
      · have hf := mm_if_f c47 hf
        refine me_aload_n (q := 29) C dX5_readClause_28 rfl rfl rfl ?_
        refine me_iconst (v := (0 : Int32)) (q := 30) C dX5_readClause_29 (by decide) rfl ?_
        obtain ⟨v48, g49, e50, hf⟩ := mm_cl_some hf
        refine me_callV (q := 33) (c2 := 0) (s2 := 0) (st := []) C (cX5_fail_ok _ e50) mt_X5_121 mv_X5_fail rfl (by decide) dX5_readClause_30 rfl k1 rfl rfl rfl (Nat.le_of_ble_eq_true rfl) rfl (Nat.le_of_ble_eq_true rfl) rfl (Nat.le_of_ble_eq_true rfl) rfl rfl ?_
        obtain ⟨k51, hf⟩ := mm_ck_some hf
        exact me_zret C hE (Nat.le_of_ble_eq_true rfl) (Nat.le_of_ble_eq_true rfl) rfl k51 dX5_readClause_33 (mm_ri hf)
set_option maxRecDepth 100000 in
set_option maxHeartbeats 4000000 in
theorem cX5_readTape_L31 {X : mm_X} (C : mm_C X cX5_readTape yX5_readTape 88 0 0) {r : Int32} {h1 : mm_H} (hE : mm_End X 0 0 (some .int) (some (vI r)) h1) {b0 : Nat} (K83 : mm_H → Option (Int32 × mm_H)) : ∀ (n : Nat) (x1 : Int32) (h : mm_H), fX5_readTape_L31 b0 K83 n x1 h = some (r, h1) → (∀ (h : mm_H), K83 h = some (r, h1) → mm_E X h 0 0 83 [some (vR (some b0)), none] []) → mm_E X h 0 0 31 [some (vR (some b0)), some (vI x1)] [] := by
  intro n
  induction n with
  | zero =>
    intro x1 h hf
    exact absurd (show (none : Option (Int32 × mm_H)) = some (r, h1) from hf) (by simp)
  | succ n ih =>
    intro x1 h hf hk83
    have hf : fX5_readTape_L31_b b0 K83 (fX5_readTape_L31 b0 K83 n) x1 h = some (r, h1) := hf
    unfold fX5_readTape_L31_b at hf
    refine me_iload_n (q := 32) C dX5_readTape_31 rfl rfl rfl ?_
    refine me_bipush (v := (10 : Int32)) (q := 34) C dX5_readTape_32 (by decide) rfl ?_
    refine me_icmp_gt (q2 := 83) (q := 37) C dX5_readTape_34 (by decide) rfl (fun c10 => ?_) (fun c10 => ?_)
    · have hf := mm_if_t c10 hf
      refine me_mask [true, false] (lv2 := [some (vR (some b0)), none]) rfl ?_
      exact hk83 _ hf
    · have hf := mm_if_f c10 hf
      refine me_aload_n (q := 38) C dX5_readTape_37 rfl rfl rfl ?_
      obtain ⟨k11, hf⟩ := mm_ck_some hf
      obtain ⟨v12, g13, e14, hf⟩ := mm_cl_some hf
      refine me_callV (q := 41) (c2 := 0) (s2 := 0) (st := []) C (cX5_readClause_ok _ e14) mt_X5_60 mv_X5_readClause rfl (by decide) dX5_readTape_38 rfl k11 rfl rfl rfl (Nat.le_of_ble_eq_true rfl) rfl (Nat.le_of_ble_eq_true rfl) rfl (Nat.le_of_ble_eq_true rfl) rfl rfl ?_
      refine me_if_eq (q2 := 58) (q := 44) C dX5_readTape_41 (by decide) rfl (fun c15 => ?_) (fun c15 => ?_)
      · have hf := mm_if_t c15 hf
        refine me_aload_n (q := 59) C dX5_readTape_58 rfl rfl rfl ?_
        obtain ⟨k16, hf⟩ := mm_ck_some hf
        refine me_getI (q := 62) C dX5_readTape_59 mf_X5_51 rfl rfl k16 rfl ?_
        exact me_iret C hE (Nat.le_of_ble_eq_true rfl) (Nat.le_of_ble_eq_true rfl) rfl dX5_readTape_62 (mm_ri hf)
      · have hf := mm_if_f c15 hf
        refine me_aload_n (q := 45) C dX5_readTape_44 rfl rfl rfl ?_
        obtain ⟨k17, hf⟩ := mm_ck_some hf
        refine me_getR (q := 48) C dX5_readTape_45 mf_X5_15 rfl rfl k17 rfl ?_
        refine me_aload_n (q := 49) C dX5_readTape_48 rfl rfl rfl ?_
        refine me_getI (q := 52) C dX5_readTape_49 mf_X5_45 rfl rfl k17 rfl ?_
        obtain ⟨u18, eu18, hf⟩ := mm_rf_some hf
        obtain ⟨k19, hf⟩ := mm_ck_some hf
        obtain ⟨k20, hf⟩ := mm_ck_some hf
        refine me_iald (q := 53) C dX5_readTape_52 eu18 k19 k20 rfl ?_
        refine me_bipush (v := (35 : Int32)) (q := 55) C dX5_readTape_53 (by decide) rfl ?_
        refine me_icmp_ne (q2 := 63) (q := 58) C dX5_readTape_55 (by decide) rfl (fun c21 => ?_) (fun c21 => ?_)
        · have hf := mm_if_t c21 hf
          refine me_aload_n (q := 64) C dX5_readTape_63 rfl rfl rfl ?_
          refine me_bipush (v := (26 : Int32)) (q := 66) C dX5_readTape_64 (by decide) rfl ?_
          obtain ⟨v22, g23, e24, hf⟩ := mm_cl_some hf
          refine me_callV (q := 69) (c2 := 0) (s2 := 0) (st := []) C (cX5_pass_ok _ e24) mt_X5_64 mv_X5_pass rfl (by decide) dX5_readTape_66 rfl k17 rfl rfl rfl (Nat.le_of_ble_eq_true rfl) rfl (Nat.le_of_ble_eq_true rfl) rfl (Nat.le_of_ble_eq_true rfl) rfl rfl ?_
          refine me_if_ne (q2 := 77) (q := 72) C dX5_readTape_69 (by decide) rfl (fun c25 => ?_) (fun c25 => ?_)
          · have hf := mm_if_t c25 hf
            obtain ⟨v26, ev26, hf⟩ := mm_lt_some hf
            refine me_iinc (q := 80) (v := v26) (lv2 := [some (vR (some b0)), some (vI v26)]) C dX5_readTape_77 rfl (by rw [ev26]; rfl) (Nat.le_of_ble_eq_true rfl) rfl rfl rfl ?_
            refine me_goto (q := 31) C dX5_readTape_80 (by decide) ?_
            exact ih _ _ hf hk83
          · have hf := mm_if_f c25 hf
            refine me_aload_n (q := 73) C dX5_readTape_72 rfl rfl rfl ?_
            obtain ⟨k27, hf⟩ := mm_ck_some hf
            refine me_getI (q := 76) C dX5_readTape_73 mf_X5_51 rfl rfl k27 rfl ?_
            exact me_iret C hE (Nat.le_of_ble_eq_true rfl) (Nat.le_of_ble_eq_true rfl) rfl dX5_readTape_76 (mm_ri hf)
        · have hf := mm_if_f c21 hf
          refine me_aload_n (q := 59) C dX5_readTape_58 rfl rfl rfl ?_
          refine me_getI (q := 62) C dX5_readTape_59 mf_X5_51 rfl rfl k17 rfl ?_
          exact me_iret C hE (Nat.le_of_ble_eq_true rfl) (Nat.le_of_ble_eq_true rfl) rfl dX5_readTape_62 (mm_ri hf)
set_option maxRecDepth 100000 in
set_option maxHeartbeats 4000000 in
theorem cX5_readTape_ok (l : Launch) {a0 : Nat} {h : mm_H} {r : Int32} {h1 : mm_H} (hf : fX5_readTape a0 h = some (r, h1)) : mm_M l yX5_readTape cX5_readTape 2 (some .int) 88 0 0 [vR (some a0)] h (some (vI r)) h1 := by
  refine mm_enter (lv := [some (vR (some a0)), none]) (by decide) rfl (Nat.le_of_ble_eq_true rfl) ?_
  intro X hl C hE
  subst hl
  unfold fX5_readTape at hf
  refine me_aload_n (q := 1) C dX5_readTape_0 rfl rfl rfl ?_
  obtain ⟨k1, hf⟩ := mm_ck_some hf
  obtain ⟨_, g2, e3, hf⟩ := mm_cl_some hf
  refine me_callV (q := 4) (c2 := 0) (s2 := 0) (st := []) C (cX5_cutTokens_ok _ e3) mt_X5_42 mv_X5_cutTokens rfl (by decide) dX5_readTape_1 rfl k1 rfl rfl rfl (Nat.le_of_ble_eq_true rfl) rfl (Nat.le_of_ble_eq_true rfl) rfl (Nat.le_of_ble_eq_true rfl) rfl rfl ?_
  refine me_aload_n (q := 5) C dX5_readTape_4 rfl rfl rfl ?_
  refine me_iconst (v := (0 : Int32)) (q := 6) C dX5_readTape_5 (by decide) rfl ?_
  obtain ⟨k4, hf⟩ := mm_ck_some hf
  obtain ⟨g5, eg5, hf⟩ := mm_lt_some hf
  refine me_putI (q := 9) C eg5 dX5_readTape_6 mf_X5_45 mp_X5_6_6 rfl (by decide) rfl k4 rfl ?_
  refine me_aload_n (q := 10) C dX5_readTape_9 rfl rfl rfl ?_
  refine me_iconst (v := (0 : Int32)) (q := 11) C dX5_readTape_10 (by decide) rfl ?_
  obtain ⟨g6, eg6, hf⟩ := mm_lt_some hf
  refine me_putI (q := 14) C eg6 dX5_readTape_11 mf_X5_48 mp_X5_6_7 rfl (by decide) rfl (mm_kI eg5 k4) rfl ?_
  refine me_aload_n (q := 15) C dX5_readTape_14 rfl rfl rfl ?_
  refine me_iconst (v := (0 : Int32)) (q := 16) C dX5_readTape_15 (by decide) rfl ?_
  obtain ⟨g7, eg7, hf⟩ := mm_lt_some hf
  refine me_putI (q := 19) C eg7 dX5_readTape_16 mf_X5_51 mp_X5_6_8 rfl (by decide) rfl (mm_kI eg6 (mm_kI eg5 k4)) rfl ?_
  refine me_aload_n (q := 20) C dX5_readTape_19 rfl rfl rfl ?_
  refine me_iconst (v := (0 : Int32)) (q := 21) C dX5_readTape_20 (by decide) rfl ?_
  obtain ⟨g8, eg8, hf⟩ := mm_lt_some hf
  refine me_putI (q := 24) C eg8 dX5_readTape_21 mf_X5_54 mp_X5_6_10 rfl (by decide) rfl (mm_kI eg7 (mm_kI eg6 (mm_kI eg5 k4))) rfl ?_
  refine me_aload_n (q := 25) C dX5_readTape_24 rfl rfl rfl ?_
  refine me_iconst (v := (0 : Int32)) (q := 26) C dX5_readTape_25 (by decide) rfl ?_
  obtain ⟨g9, eg9, hf⟩ := mm_lt_some hf
  refine me_putI (q := 29) C eg9 dX5_readTape_26 mf_X5_57 mp_X5_6_13 rfl (by decide) rfl (mm_kI eg8 (mm_kI eg7 (mm_kI eg6 (mm_kI eg5 k4)))) rfl ?_
  refine me_iconst (v := (0 : Int32)) (q := 30) C dX5_readTape_29 (by decide) rfl ?_
  refine me_istore_n (q := 31) (lv2 := [some (vR (some a0)), some (vI (0 : Int32))]) C dX5_readTape_30 rfl (Nat.le_of_ble_eq_true rfl) rfl rfl rfl ?_
  refine cX5_readTape_L31 C hE _ _ _ _ hf ?_
  · intro g28 hf
    refine me_aload_n (q := 84) C dX5_readTape_83 rfl rfl rfl ?_
    obtain ⟨k29, hf⟩ := mm_ck_some hf
    refine me_getI (q := 87) C dX5_readTape_84 mf_X5_51 rfl rfl k29 rfl ?_
    exact me_iret C hE (Nat.le_of_ble_eq_true rfl) (Nat.le_of_ble_eq_true rfl) rfl dX5_readTape_87 (mm_ri hf)
set_option maxRecDepth 100000 in
set_option maxHeartbeats 4000000 in
theorem cX5_lawOf_ok (l : Launch) {a0 : Nat} {a1 : Int32} {a2 : Int32} {a3 : Int32} {h : mm_H} {r : Option Nat} {h1 : mm_H} (hf : fX5_lawOf a0 a1 a2 a3 h = some (r, h1)) : mm_M l yX5_lawOf cX5_lawOf 7 (some (.object "MerchantYard$Law")) 4 4 427 [vR (some a0), vI a1, vI a2, vI a3] h (some (vR r)) h1 := by
  refine mm_enter (lv := [some (vR (some a0)), some (vI a1), some (vI a2), some (vI a3), none, none, none]) (by decide) rfl (Nat.le_of_ble_eq_true rfl) ?_
  intro X hl C hE
  subst hl
  unfold fX5_lawOf at hf
  refine me_aload_n (q := 1) C dX5_lawOf_0 rfl rfl rfl ?_
  obtain ⟨k1, hf⟩ := mm_ck_some hf
  refine me_getI (q := 4) C dX5_lawOf_1 mf_X5_57 rfl rfl k1 rfl ?_
  obtain ⟨k2, hf⟩ := mm_ck_some hf
  obtain ⟨g3, eg3, hf⟩ := mm_lt_some hf
  obtain ⟨u4, eu4, hf⟩ := mm_lt_some hf
  refine me_newaI (q := 6) (B := 10) (c2 := 1) (s2 := 10) C eg3 dX5_lawOf_4 ma_int k2 (Nat.le_of_ble_eq_true rfl) rfl (Nat.le_of_ble_eq_true rfl) rfl (Nat.le_of_ble_eq_true rfl) rfl ?_
  refine me_topR (congrArg some eu4) ?_
  have k5 : mm_kd g3 u4 = 14 := by rw [eu4]; exact mm_kN eg3
  refine me_astore (q := 8) (lv2 := [some (vR (some a0)), some (vI a1), some (vI a2), some (vI a3), some (vR (some u4)), none, none]) C dX5_lawOf_6 (Nat.le_of_ble_eq_true rfl) rfl rfl rfl ?_
  refine me_aload_n (q := 9) C dX5_lawOf_8 rfl rfl rfl ?_
  obtain ⟨k6, hf⟩ := mm_ck_some hf
  refine me_getI (q := 12) C dX5_lawOf_9 mf_X5_57 rfl rfl k6 rfl ?_
  refine me_iconst (v := (1 : Int32)) (q := 13) C dX5_lawOf_12 (by decide) rfl ?_
  refine me_iadd (q := 14) C dX5_lawOf_13 rfl ?_
  obtain ⟨k7, hf⟩ := mm_ck_some hf
  obtain ⟨g8, eg8, hf⟩ := mm_lt_some hf
  obtain ⟨u9, eu9, hf⟩ := mm_lt_some hf
  refine me_newaI (q := 16) (B := 11) (c2 := 2) (s2 := 21) C eg8 dX5_lawOf_14 ma_int k7 (Nat.le_of_ble_eq_true rfl) rfl (Nat.le_of_ble_eq_true rfl) rfl (Nat.le_of_ble_eq_true rfl) rfl ?_
  refine me_topR (congrArg some eu9) ?_
  have k10 : mm_kd g8 u9 = 14 := by rw [eu9]; exact mm_kN eg8
  refine me_astore (q := 18) (lv2 := [some (vR (some a0)), some (vI a1), some (vI a2), some (vI a3), some (vR (some u4)), some (vR (some u9)), none]) C dX5_lawOf_16 (Nat.le_of_ble_eq_true rfl) rfl rfl rfl ?_
  refine me_aload_n (q := 19) C dX5_lawOf_18 rfl rfl rfl ?_
  obtain ⟨k11, hf⟩ := mm_ck_some hf
  refine me_getI (q := 22) C dX5_lawOf_19 mf_X5_54 rfl rfl k11 rfl ?_
  obtain ⟨k12, hf⟩ := mm_ck_some hf
  obtain ⟨g13, eg13, hf⟩ := mm_lt_some hf
  obtain ⟨u14, eu14, hf⟩ := mm_lt_some hf
  refine me_newaI (q := 24) (B := 400) (c2 := 3) (s2 := 421) C eg13 dX5_lawOf_22 ma_int k12 (Nat.le_of_ble_eq_true rfl) rfl (Nat.le_of_ble_eq_true rfl) rfl (Nat.le_of_ble_eq_true rfl) rfl ?_
  refine me_topR (congrArg some eu14) ?_
  have k15 : mm_kd g13 u14 = 14 := by rw [eu14]; exact mm_kN eg13
  refine me_astore (q := 26) (lv2 := [some (vR (some a0)), some (vI a1), some (vI a2), some (vI a3), some (vR (some u4)), some (vR (some u9)), some (vR (some u14))]) C dX5_lawOf_24 (Nat.le_of_ble_eq_true rfl) rfl rfl rfl ?_
  refine me_aload_n (q := 27) C dX5_lawOf_26 rfl rfl rfl ?_
  obtain ⟨k16, hf⟩ := mm_ck_some hf
  refine me_getR (q := 30) C dX5_lawOf_27 mf_X5_28 rfl rfl k16 rfl ?_
  refine me_iconst (v := (0 : Int32)) (q := 31) C dX5_lawOf_30 (by decide) rfl ?_
  refine me_aload (q := 33) C dX5_lawOf_31 rfl rfl ?_
  refine me_iconst (v := (0 : Int32)) (q := 34) C dX5_lawOf_33 (by decide) rfl ?_
  refine me_aload_n (q := 35) C dX5_lawOf_34 rfl rfl rfl ?_
  refine me_getI (q := 38) C dX5_lawOf_35 mf_X5_57 rfl rfl k16 rfl ?_
  obtain ⟨u17, eu17, hf⟩ := mm_rf_some hf
  obtain ⟨k18, hf⟩ := mm_ck_some hf
  obtain ⟨k19, hf⟩ := mm_ck_some hf
  obtain ⟨k20, hf⟩ := mm_ck_some hf
  obtain ⟨g21, eg21, hf⟩ := mm_lt_some hf
  refine me_cpI (q := 41) C eg21 dX5_lawOf_38 mw_X5_67 eu17 rfl k18 k19 k20 rfl (Nat.le_of_ble_eq_true rfl) rfl ?_
  refine me_aload_n (q := 42) C dX5_lawOf_41 rfl rfl rfl ?_
  refine me_getR (q := 45) C dX5_lawOf_42 mf_X5_31 rfl rfl (mm_kcI eg21 k16) rfl ?_
  refine me_iconst (v := (0 : Int32)) (q := 46) C dX5_lawOf_45 (by decide) rfl ?_
  refine me_aload (q := 48) C dX5_lawOf_46 rfl rfl ?_
  refine me_iconst (v := (0 : Int32)) (q := 49) C dX5_lawOf_48 (by decide) rfl ?_
  refine me_aload_n (q := 50) C dX5_lawOf_49 rfl rfl rfl ?_
  refine me_getI (q := 53) C dX5_lawOf_50 mf_X5_57 rfl rfl (mm_kcI eg21 k16) rfl ?_
  refine me_iconst (v := (1 : Int32)) (q := 54) C dX5_lawOf_53 (by decide) rfl ?_
  refine me_iadd (q := 55) C dX5_lawOf_54 rfl ?_
  obtain ⟨u22, eu22, hf⟩ := mm_rf_some hf
  obtain ⟨k23, hf⟩ := mm_ck_some hf
  obtain ⟨k24, hf⟩ := mm_ck_some hf
  obtain ⟨k25, hf⟩ := mm_ck_some hf
  obtain ⟨g26, eg26, hf⟩ := mm_lt_some hf
  refine me_cpI (q := 58) C eg26 dX5_lawOf_55 mw_X5_67 eu22 rfl k23 k24 k25 rfl (Nat.le_of_ble_eq_true rfl) rfl ?_
  refine me_aload_n (q := 59) C dX5_lawOf_58 rfl rfl rfl ?_
  refine me_getR (q := 62) C dX5_lawOf_59 mf_X5_25 rfl rfl (mm_kcI eg26 (mm_kcI eg21 k16)) rfl ?_
  refine me_iconst (v := (0 : Int32)) (q := 63) C dX5_lawOf_62 (by decide) rfl ?_
  refine me_aload (q := 65) C dX5_lawOf_63 rfl rfl ?_
  refine me_iconst (v := (0 : Int32)) (q := 66) C dX5_lawOf_65 (by decide) rfl ?_
  refine me_aload_n (q := 67) C dX5_lawOf_66 rfl rfl rfl ?_
  refine me_getI (q := 70) C dX5_lawOf_67 mf_X5_54 rfl rfl (mm_kcI eg26 (mm_kcI eg21 k16)) rfl ?_
  obtain ⟨u27, eu27, hf⟩ := mm_rf_some hf
  obtain ⟨k28, hf⟩ := mm_ck_some hf
  obtain ⟨k29, hf⟩ := mm_ck_some hf
  obtain ⟨g30, eg30, hf⟩ := mm_lt_some hf
  refine me_cpI (q := 73) C eg30 dX5_lawOf_70 mw_X5_67 eu27 rfl k28 (mm_kcI eg26 (mm_kcI eg21 k15)) k29 rfl (Nat.le_of_ble_eq_true rfl) rfl ?_
  obtain ⟨g31, eg31, hf⟩ := mm_lt_some hf
  obtain ⟨u32, eu32, hf⟩ := mm_lt_some hf
  refine me_newH (q := 76) (c2 := 4) (s2 := 427) C eg31 dX5_lawOf_73 mn_X5_73 rfl (Nat.le_of_ble_eq_true rfl) rfl (Nat.le_of_ble_eq_true rfl) rfl ?_
  refine me_topR (congrArg some eu32) ?_
  have k33 : mm_kd g31 u32 = 5 := by rw [eu32]; exact mm_kN eg31
  refine me_dup (q := 77) C dX5_lawOf_76 rfl rfl ?_
  refine me_iload_n (q := 78) C dX5_lawOf_77 rfl rfl rfl ?_
  refine me_iload_n (q := 79) C dX5_lawOf_78 rfl rfl rfl ?_
  refine me_iload_n (q := 80) C dX5_lawOf_79 rfl rfl rfl ?_
  refine me_aload (q := 82) C dX5_lawOf_80 rfl rfl ?_
  refine me_aload (q := 84) C dX5_lawOf_82 rfl rfl ?_
  refine me_aload (q := 86) C dX5_lawOf_84 rfl rfl ?_
  obtain ⟨_, g34, e35, hf⟩ := mm_cl_some hf
  refine me_callI (q := 89) (c2 := 4) (s2 := 427) (st := [vR (some u32)]) C (cX4_init_ok _ e35) mt_X5_75 mi_X4_init dX5_lawOf_86 rfl rfl rfl rfl (Nat.le_of_ble_eq_true rfl) rfl (Nat.le_of_ble_eq_true rfl) rfl (Nat.le_of_ble_eq_true rfl) rfl rfl ?_
  exact me_aret C hE (Nat.le_of_ble_eq_true rfl) (Nat.le_of_ble_eq_true rfl) rfl (Or.inl ⟨_, rfl⟩) dX5_lawOf_89 (mm_rr hf)
set_option maxRecDepth 100000 in
set_option maxHeartbeats 4000000 in
theorem cX6_init_ok (l : Launch) {a0 : Nat} {a1 : Int32} {a2 : Int32} {a3 : Int32} {a4 : Int32} {h : mm_H} {r : Unit} {h1 : mm_H} (hf : fX6_init a0 a1 a2 a3 a4 h = some (r, h1)) : mm_M l yX6_init cX6_init 5 none 2 0 0 [vR (some a0), vI a1, vI a2, vI a3, vI a4] h none h1 := by
  refine mm_enter (lv := [some (vR (some a0)), some (vI a1), some (vI a2), some (vI a3), some (vI a4)]) (by decide) rfl (Nat.le_of_ble_eq_true rfl) ?_
  intro X hl C hE
  subst hl
  unfold fX6_init at hf
  refine me_aload_n (q := 1) C dX6_init_0 rfl rfl rfl ?_
  refine me_objInit (q := 4) C dX6_init_1 mo_X6_1 rfl rfl (Nat.le_of_ble_eq_true rfl) rfl ?_
  refine me_aload_n (q := 5) C dX6_init_4 rfl rfl rfl ?_
  refine me_iload_n (q := 6) C dX6_init_5 rfl rfl rfl ?_
  obtain ⟨k1, hf⟩ := mm_ck_some hf
  obtain ⟨g2, eg2, hf⟩ := mm_lt_some hf
  refine me_putI (q := 9) C eg2 dX6_init_6 mf_X6_7 mp_X6_7_0 rfl (by decide) rfl k1 rfl ?_
  refine me_aload_n (q := 10) C dX6_init_9 rfl rfl rfl ?_
  refine me_iload (q := 12) C dX6_init_10 rfl rfl ?_
  obtain ⟨g3, eg3, hf⟩ := mm_lt_some hf
  refine me_putI (q := 15) C eg3 dX6_init_12 mf_X6_13 mp_X6_7_1 rfl (by decide) rfl (mm_kI eg2 k1) rfl ?_
  refine me_aload_n (q := 16) C dX6_init_15 rfl rfl rfl ?_
  refine me_iload_n (q := 17) C dX6_init_16 rfl rfl rfl ?_
  obtain ⟨g4, eg4, hf⟩ := mm_lt_some hf
  refine me_putI (q := 20) C eg4 dX6_init_17 mf_X6_16 mp_X6_7_2 rfl (by decide) rfl (mm_kI eg3 (mm_kI eg2 k1)) rfl ?_
  refine me_aload_n (q := 21) C dX6_init_20 rfl rfl rfl ?_
  refine me_iload_n (q := 22) C dX6_init_21 rfl rfl rfl ?_
  obtain ⟨g5, eg5, hf⟩ := mm_lt_some hf
  refine me_putI (q := 25) C eg5 dX6_init_22 mf_X6_19 mp_X6_7_3 rfl (by decide) rfl (mm_kI eg4 (mm_kI eg3 (mm_kI eg2 k1))) rfl ?_
  refine me_aload_n (q := 26) C dX6_init_25 rfl rfl rfl ?_
  refine me_iload_n (q := 27) C dX6_init_26 rfl rfl rfl ?_
  obtain ⟨g6, eg6, hf⟩ := mm_lt_some hf
  refine me_putI (q := 30) C eg6 dX6_init_27 mf_X6_22 mp_X6_7_4 rfl (by decide) rfl (mm_kI eg5 (mm_kI eg4 (mm_kI eg3 (mm_kI eg2 k1)))) rfl ?_
  exact me_vret C hE (Nat.le_of_ble_eq_true rfl) (Nat.le_of_ble_eq_true rfl) rfl dX6_init_30 (mm_ru hf)
set_option maxRecDepth 100000 in
set_option maxHeartbeats 4000000 in
theorem cX7_init_ok (l : Launch) {a0 : Nat} {a1 : Int32} {a2 : Int32} {a3 : Int32} {a4 : Int32} {h : mm_H} {r : Unit} {h1 : mm_H} (hf : fX7_init a0 a1 a2 a3 a4 h = some (r, h1)) : mm_M l yX7_init cX7_init 5 none 2 0 0 [vR (some a0), vI a1, vI a2, vI a3, vI a4] h none h1 := by
  refine mm_enter (lv := [some (vR (some a0)), some (vI a1), some (vI a2), some (vI a3), some (vI a4)]) (by decide) rfl (Nat.le_of_ble_eq_true rfl) ?_
  intro X hl C hE
  subst hl
  unfold fX7_init at hf
  refine me_aload_n (q := 1) C dX7_init_0 rfl rfl rfl ?_
  refine me_objInit (q := 4) C dX7_init_1 mo_X7_3 rfl rfl (Nat.le_of_ble_eq_true rfl) rfl ?_
  refine me_aload_n (q := 5) C dX7_init_4 rfl rfl rfl ?_
  refine me_iload_n (q := 6) C dX7_init_5 rfl rfl rfl ?_
  obtain ⟨k1, hf⟩ := mm_ck_some hf
  obtain ⟨g2, eg2, hf⟩ := mm_lt_some hf
  refine me_putI (q := 9) C eg2 dX7_init_6 mf_X7_9 mp_X7_8_0 rfl (by decide) rfl k1 rfl ?_
  refine me_aload_n (q := 10) C dX7_init_9 rfl rfl rfl ?_
  refine me_iload_n (q := 11) C dX7_init_10 rfl rfl rfl ?_
  obtain ⟨k3, hf⟩ := mm_ck_some hf
  obtain ⟨g4, eg4, hf⟩ := mm_lt_some hf
  refine me_putZ (q := 14) C k3 eg4 dX7_init_11 mf_X7_15 mp_X7_8_1 rfl (by decide) rfl (mm_kI eg2 k1) rfl ?_
  refine me_aload_n (q := 15) C dX7_init_14 rfl rfl rfl ?_
  refine me_iload (q := 17) C dX7_init_15 rfl rfl ?_
  obtain ⟨g5, eg5, hf⟩ := mm_lt_some hf
  refine me_putI (q := 20) C eg5 dX7_init_17 mf_X7_19 mp_X7_8_2 rfl (by decide) rfl (mm_kI eg4 (mm_kI eg2 k1)) rfl ?_
  refine me_aload_n (q := 21) C dX7_init_20 rfl rfl rfl ?_
  refine me_iload_n (q := 22) C dX7_init_21 rfl rfl rfl ?_
  obtain ⟨g6, eg6, hf⟩ := mm_lt_some hf
  refine me_putI (q := 25) C eg6 dX7_init_22 mf_X7_22 mp_X7_8_3 rfl (by decide) rfl (mm_kI eg5 (mm_kI eg4 (mm_kI eg2 k1))) rfl ?_
  refine me_aload_n (q := 26) C dX7_init_25 rfl rfl rfl ?_
  refine me_iconst (v := (-1 : Int32)) (q := 27) C dX7_init_26 (by decide) rfl ?_
  obtain ⟨g7, eg7, hf⟩ := mm_lt_some hf
  refine me_putI (q := 30) C eg7 dX7_init_27 mf_X7_25 mp_X7_8_4 rfl (by decide) rfl (mm_kI eg6 (mm_kI eg5 (mm_kI eg4 (mm_kI eg2 k1)))) rfl ?_
  exact me_vret C hE (Nat.le_of_ble_eq_true rfl) (Nat.le_of_ble_eq_true rfl) rfl dX7_init_30 (mm_ru hf)
set_option maxRecDepth 100000 in
set_option maxHeartbeats 4000000 in
theorem cX7_wasThere_ok (l : Launch) {a0 : Nat} {a1 : Int32} {h : mm_H} {r : Int32} {h1 : mm_H} (hf : fX7_wasThere a0 a1 h = some (r, h1)) : mm_M l yX7_wasThere cX7_wasThere 2 (some .boolean) 2 0 0 [vR (some a0), vI a1] h (some (vI r)) h1 := by
  refine mm_enter (lv := [some (vR (some a0)), some (vI a1)]) (by decide) rfl (Nat.le_of_ble_eq_true rfl) ?_
  intro X hl C hE
  subst hl
  unfold fX7_wasThere at hf
  refine me_aload_n (q := 1) C dX7_wasThere_0 rfl rfl rfl ?_
  obtain ⟨k1, hf⟩ := mm_ck_some hf
  refine me_getI (q := 4) C dX7_wasThere_1 mf_X7_19 rfl rfl k1 rfl ?_
  refine me_iload_n (q := 5) C dX7_wasThere_4 rfl rfl rfl ?_
  refine me_icmp_gt (q2 := 28) (q := 8) C dX7_wasThere_5 (by decide) rfl (fun c2 => ?_) (fun c2 => ?_)
  · have hf := mm_if_t c2 hf
    refine me_iconst (v := (0 : Int32)) (q := 29) C dX7_wasThere_28 (by decide) rfl ?_
    exact me_zret C hE (Nat.le_of_ble_eq_true rfl) (Nat.le_of_ble_eq_true rfl) rfl (Or.inl rfl) dX7_wasThere_29 (mm_ri hf)
  · have hf := mm_if_f c2 hf
    refine me_aload_n (q := 9) C dX7_wasThere_8 rfl rfl rfl ?_
    refine me_getI (q := 12) C dX7_wasThere_9 mf_X7_25 rfl rfl k1 rfl ?_
    refine me_iconst (v := (-1 : Int32)) (q := 13) C dX7_wasThere_12 (by decide) rfl ?_
    refine me_icmp_eq (q2 := 24) (q := 16) C dX7_wasThere_13 (by decide) rfl (fun c3 => ?_) (fun c3 => ?_)
    · have hf := mm_if_t c3 hf
      refine me_iconst (v := (1 : Int32)) (q := 25) C dX7_wasThere_24 (by decide) rfl ?_
      refine me_goto (q := 29) C dX7_wasThere_25 (by decide) ?_
      exact me_zret C hE (Nat.le_of_ble_eq_true rfl) (Nat.le_of_ble_eq_true rfl) rfl (Or.inr rfl) dX7_wasThere_29 (mm_ri hf)
    · have hf := mm_if_f c3 hf
      refine me_iload_n (q := 17) C dX7_wasThere_16 rfl rfl rfl ?_
      refine me_aload_n (q := 18) C dX7_wasThere_17 rfl rfl rfl ?_
      refine me_getI (q := 21) C dX7_wasThere_18 mf_X7_25 rfl rfl k1 rfl ?_
      refine me_icmp_ge (q2 := 28) (q := 24) C dX7_wasThere_21 (by decide) rfl (fun c4 => ?_) (fun c4 => ?_)
      · have hf := mm_if_t c4 hf
        refine me_iconst (v := (0 : Int32)) (q := 29) C dX7_wasThere_28 (by decide) rfl ?_
        exact me_zret C hE (Nat.le_of_ble_eq_true rfl) (Nat.le_of_ble_eq_true rfl) rfl (Or.inl rfl) dX7_wasThere_29 (mm_ri hf)
      · have hf := mm_if_f c4 hf
        refine me_iconst (v := (1 : Int32)) (q := 25) C dX7_wasThere_24 (by decide) rfl ?_
        refine me_goto (q := 29) C dX7_wasThere_25 (by decide) ?_
        exact me_zret C hE (Nat.le_of_ble_eq_true rfl) (Nat.le_of_ble_eq_true rfl) rfl (Or.inr rfl) dX7_wasThere_29 (mm_ri hf)
set_option maxRecDepth 100000 in
set_option maxHeartbeats 4000000 in
theorem cX7_spend_ok (l : Launch) {a0 : Nat} {a1 : Int32} {h : mm_H} {r : Int32} {h1 : mm_H} (hf : fX7_spend a0 a1 h = some (r, h1)) : mm_M l yX7_spend cX7_spend 3 (some .int) 2 0 0 [vR (some a0), vI a1] h (some (vI r)) h1 := by
  refine mm_enter (lv := [some (vR (some a0)), some (vI a1), none]) (by decide) rfl (Nat.le_of_ble_eq_true rfl) ?_
  intro X hl C hE
  subst hl
  unfold fX7_spend at hf
  refine me_iload_n (q := 1) C dX7_spend_0 rfl rfl rfl ?_
  refine me_aload_n (q := 2) C dX7_spend_1 rfl rfl rfl ?_
  obtain ⟨k1, hf⟩ := mm_ck_some hf
  refine me_getI (q := 5) C dX7_spend_2 mf_X7_22 rfl rfl k1 rfl ?_
  refine me_mmin (q := 8) C dX7_spend_5 mm_X7_28 rfl (Nat.le_of_ble_eq_true rfl) rfl ?_
  obtain ⟨v2, ev2, hf⟩ := mm_lt_some hf
  refine me_topI ev2 ?_
  refine me_istore_n (q := 9) (lv2 := [some (vR (some a0)), some (vI a1), some (vI v2)]) C dX7_spend_8 rfl (Nat.le_of_ble_eq_true rfl) rfl rfl rfl ?_
  refine me_aload_n (q := 10) C dX7_spend_9 rfl rfl rfl ?_
  refine me_dup (q := 11) C dX7_spend_10 rfl rfl ?_
  refine me_getI (q := 14) C dX7_spend_11 mf_X7_22 rfl rfl k1 rfl ?_
  refine me_iload_n (q := 15) C dX7_spend_14 rfl rfl rfl ?_
  refine me_isub (q := 16) C dX7_spend_15 rfl ?_
  obtain ⟨g3, eg3, hf⟩ := mm_lt_some hf
  refine me_putI (q := 19) C eg3 dX7_spend_16 mf_X7_22 mp_X7_8_3 rfl (by decide) rfl k1 rfl ?_
  refine me_iload_n (q := 20) C dX7_spend_19 rfl rfl rfl ?_
  exact me_iret C hE (Nat.le_of_ble_eq_true rfl) (Nat.le_of_ble_eq_true rfl) rfl dX7_spend_20 (mm_ri hf)
set_option maxRecDepth 100000 in
set_option maxHeartbeats 4000000 in
theorem cX7_receive_ok (l : Launch) {a0 : Nat} {a1 : Int32} {h : mm_H} {r : Int32} {h1 : mm_H} (hf : fX7_receive a0 a1 h = some (r, h1)) : mm_M l yX7_receive cX7_receive 3 (some .int) 2 0 0 [vR (some a0), vI a1] h (some (vI r)) h1 := by
  refine mm_enter (lv := [some (vR (some a0)), some (vI a1), none]) (by decide) rfl (Nat.le_of_ble_eq_true rfl) ?_
  intro X hl C hE
  subst hl
  unfold fX7_receive at hf
  refine me_iload_n (q := 1) C dX7_receive_0 rfl rfl rfl ?_
  refine me_ldc (v := (2000000000 : Int32)) (q := 3) C dX7_receive_1 mc_X7_34 rfl ?_
  refine me_aload_n (q := 4) C dX7_receive_3 rfl rfl rfl ?_
  obtain ⟨k1, hf⟩ := mm_ck_some hf
  refine me_getI (q := 7) C dX7_receive_4 mf_X7_22 rfl rfl k1 rfl ?_
  refine me_isub (q := 8) C dX7_receive_7 rfl ?_
  refine me_mmin (q := 11) C dX7_receive_8 mm_X7_28 rfl (Nat.le_of_ble_eq_true rfl) rfl ?_
  obtain ⟨v2, ev2, hf⟩ := mm_lt_some hf
  refine me_topI ev2 ?_
  refine me_istore_n (q := 12) (lv2 := [some (vR (some a0)), some (vI a1), some (vI v2)]) C dX7_receive_11 rfl (Nat.le_of_ble_eq_true rfl) rfl rfl rfl ?_
  refine me_aload_n (q := 13) C dX7_receive_12 rfl rfl rfl ?_
  refine me_dup (q := 14) C dX7_receive_13 rfl rfl ?_
  refine me_getI (q := 17) C dX7_receive_14 mf_X7_22 rfl rfl k1 rfl ?_
  refine me_iload_n (q := 18) C dX7_receive_17 rfl rfl rfl ?_
  refine me_iadd (q := 19) C dX7_receive_18 rfl ?_
  obtain ⟨g3, eg3, hf⟩ := mm_lt_some hf
  refine me_putI (q := 22) C eg3 dX7_receive_19 mf_X7_22 mp_X7_8_3 rfl (by decide) rfl k1 rfl ?_
  refine me_iload_n (q := 23) C dX7_receive_22 rfl rfl rfl ?_
  refine me_iload_n (q := 24) C dX7_receive_23 rfl rfl rfl ?_
  refine me_isub (q := 25) C dX7_receive_24 rfl ?_
  exact me_iret C hE (Nat.le_of_ble_eq_true rfl) (Nat.le_of_ble_eq_true rfl) rfl dX7_receive_25 (mm_ri hf)
set_option maxRecDepth 100000 in
set_option maxHeartbeats 4000000 in
theorem cX8_init_ok (l : Launch) {a0 : Nat} {h : mm_H} {r : Unit} {h1 : mm_H} (hf : fX8_init a0 h = some (r, h1)) : mm_M l yX8_init cX8_init 1 none 2 5 500 [vR (some a0)] h none h1 := by
  refine mm_enter (lv := [some (vR (some a0))]) (by decide) rfl (Nat.le_of_ble_eq_true rfl) ?_
  intro X hl C hE
  subst hl
  unfold fX8_init at hf
  refine me_aload_n (q := 1) C dX8_init_0 rfl rfl rfl ?_
  refine me_objInit (q := 4) C dX8_init_1 mo_X8_3 rfl rfl (Nat.le_of_ble_eq_true rfl) rfl ?_
  refine me_aload_n (q := 5) C dX8_init_4 rfl rfl rfl ?_
  refine me_bipush (v := (100 : Int32)) (q := 7) C dX8_init_5 (by decide) rfl ?_
  obtain ⟨g1, eg1, hf⟩ := mm_lt_some hf
  obtain ⟨u2, eu2, hf⟩ := mm_lt_some hf
  refine me_newaI (q := 9) (B := 100) (c2 := 1) (s2 := 100) C eg1 dX8_init_7 ma_int ⟨by decide, Nat.le_of_ble_eq_true rfl⟩ (Nat.le_of_ble_eq_true rfl) rfl (Nat.le_of_ble_eq_true rfl) rfl (Nat.le_of_ble_eq_true rfl) rfl ?_
  refine me_topR (congrArg some eu2) ?_
  have k3 : mm_kd g1 u2 = 14 := by rw [eu2]; exact mm_kN eg1
  obtain ⟨k4, hf⟩ := mm_ck_some hf
  obtain ⟨g5, eg5, hf⟩ := mm_lt_some hf
  refine me_putR (q := 12) C eg5 dX8_init_9 mf_X8_11 mp_X8_9_0 (Or.inr ⟨_, rfl⟩) rfl (by decide) rfl k4 rfl ?_
  refine me_aload_n (q := 13) C dX8_init_12 rfl rfl rfl ?_
  refine me_bipush (v := (100 : Int32)) (q := 15) C dX8_init_13 (by decide) rfl ?_
  obtain ⟨g6, eg6, hf⟩ := mm_lt_some hf
  obtain ⟨u7, eu7, hf⟩ := mm_lt_some hf
  refine me_newaI (q := 17) (B := 100) (c2 := 2) (s2 := 200) C eg6 dX8_init_15 ma_int ⟨by decide, Nat.le_of_ble_eq_true rfl⟩ (Nat.le_of_ble_eq_true rfl) rfl (Nat.le_of_ble_eq_true rfl) rfl (Nat.le_of_ble_eq_true rfl) rfl ?_
  refine me_topR (congrArg some eu7) ?_
  have k8 : mm_kd g6 u7 = 14 := by rw [eu7]; exact mm_kN eg6
  obtain ⟨k9, hf⟩ := mm_ck_some hf
  obtain ⟨g10, eg10, hf⟩ := mm_lt_some hf
  refine me_putR (q := 20) C eg10 dX8_init_17 mf_X8_15 mp_X8_9_1 (Or.inr ⟨_, rfl⟩) rfl (by decide) rfl k9 rfl ?_
  refine me_aload_n (q := 21) C dX8_init_20 rfl rfl rfl ?_
  refine me_bipush (v := (100 : Int32)) (q := 23) C dX8_init_21 (by decide) rfl ?_
  obtain ⟨g11, eg11, hf⟩ := mm_lt_some hf
  obtain ⟨u12, eu12, hf⟩ := mm_lt_some hf
  refine me_newaI (q := 25) (B := 100) (c2 := 3) (s2 := 300) C eg11 dX8_init_23 ma_int ⟨by decide, Nat.le_of_ble_eq_true rfl⟩ (Nat.le_of_ble_eq_true rfl) rfl (Nat.le_of_ble_eq_true rfl) rfl (Nat.le_of_ble_eq_true rfl) rfl ?_
  refine me_topR (congrArg some eu12) ?_
  have k13 : mm_kd g11 u12 = 14 := by rw [eu12]; exact mm_kN eg11
  obtain ⟨k14, hf⟩ := mm_ck_some hf
  obtain ⟨g15, eg15, hf⟩ := mm_lt_some hf
  refine me_putR (q := 28) C eg15 dX8_init_25 mf_X8_18 mp_X8_9_2 (Or.inr ⟨_, rfl⟩) rfl (by decide) rfl k14 rfl ?_
  refine me_aload_n (q := 29) C dX8_init_28 rfl rfl rfl ?_
  refine me_bipush (v := (100 : Int32)) (q := 31) C dX8_init_29 (by decide) rfl ?_
  obtain ⟨g16, eg16, hf⟩ := mm_lt_some hf
  obtain ⟨u17, eu17, hf⟩ := mm_lt_some hf
  refine me_newaI (q := 33) (B := 100) (c2 := 4) (s2 := 400) C eg16 dX8_init_31 ma_int ⟨by decide, Nat.le_of_ble_eq_true rfl⟩ (Nat.le_of_ble_eq_true rfl) rfl (Nat.le_of_ble_eq_true rfl) rfl (Nat.le_of_ble_eq_true rfl) rfl ?_
  refine me_topR (congrArg some eu17) ?_
  have k18 : mm_kd g16 u17 = 14 := by rw [eu17]; exact mm_kN eg16
  obtain ⟨k19, hf⟩ := mm_ck_some hf
  obtain ⟨g20, eg20, hf⟩ := mm_lt_some hf
  refine me_putR (q := 36) C eg20 dX8_init_33 mf_X8_21 mp_X8_9_3 (Or.inr ⟨_, rfl⟩) rfl (by decide) rfl k19 rfl ?_
  refine me_aload_n (q := 37) C dX8_init_36 rfl rfl rfl ?_
  refine me_bipush (v := (100 : Int32)) (q := 39) C dX8_init_37 (by decide) rfl ?_
  obtain ⟨g21, eg21, hf⟩ := mm_lt_some hf
  obtain ⟨u22, eu22, hf⟩ := mm_lt_some hf
  refine me_newaI (q := 41) (B := 100) (c2 := 5) (s2 := 500) C eg21 dX8_init_39 ma_int ⟨by decide, Nat.le_of_ble_eq_true rfl⟩ (Nat.le_of_ble_eq_true rfl) rfl (Nat.le_of_ble_eq_true rfl) rfl (Nat.le_of_ble_eq_true rfl) rfl ?_
  refine me_topR (congrArg some eu22) ?_
  have k23 : mm_kd g21 u22 = 14 := by rw [eu22]; exact mm_kN eg21
  obtain ⟨k24, hf⟩ := mm_ck_some hf
  obtain ⟨g25, eg25, hf⟩ := mm_lt_some hf
  refine me_putR (q := 44) C eg25 dX8_init_41 mf_X8_24 mp_X8_9_4 (Or.inr ⟨_, rfl⟩) rfl (by decide) rfl k24 rfl ?_
  exact me_vret C hE (Nat.le_of_ble_eq_true rfl) (Nat.le_of_ble_eq_true rfl) rfl dX8_init_44 (mm_ru hf)
set_option maxRecDepth 100000 in
set_option maxHeartbeats 4000000 in
theorem cX8_add_ok (l : Launch) {a0 : Nat} {a1 : Int32} {a2 : Int32} {a3 : Int32} {a4 : Int32} {h : mm_H} {r : Int32} {h1 : mm_H} (hf : fX8_add a0 a1 a2 a3 a4 h = some (r, h1)) : mm_M l yX8_add cX8_add 5 (some .int) 2 0 0 [vR (some a0), vI a1, vI a2, vI a3, vI a4] h (some (vI r)) h1 := by
  refine mm_enter (lv := [some (vR (some a0)), some (vI a1), some (vI a2), some (vI a3), some (vI a4)]) (by decide) rfl (Nat.le_of_ble_eq_true rfl) ?_
  intro X hl C hE
  subst hl
  unfold fX8_add at hf
  refine me_aload_n (q := 1) C dX8_add_0 rfl rfl rfl ?_
  obtain ⟨k1, hf⟩ := mm_ck_some hf
  refine me_getI (q := 4) C dX8_add_1 mf_X8_27 rfl rfl k1 rfl ?_
  refine me_bipush (v := (100 : Int32)) (q := 6) C dX8_add_4 (by decide) rfl ?_
  refine me_icmp_lt (q2 := 11) (q := 9) C dX8_add_6 (by decide) rfl (fun c2 => ?_) (fun c2 => ?_)
  · have hf := mm_if_t c2 hf
    refine me_aload_n (q := 12) C dX8_add_11 rfl rfl rfl ?_
    refine me_getR (q := 15) C dX8_add_12 mf_X8_11 rfl rfl k1 rfl ?_
    refine me_aload_n (q := 16) C dX8_add_15 rfl rfl rfl ?_
    refine me_getI (q := 19) C dX8_add_16 mf_X8_27 rfl rfl k1 rfl ?_
    refine me_iload_n (q := 20) C dX8_add_19 rfl rfl rfl ?_
    obtain ⟨u3, eu3, hf⟩ := mm_rf_some hf
    obtain ⟨k4, hf⟩ := mm_ck_some hf
    obtain ⟨k5, hf⟩ := mm_ck_some hf
    obtain ⟨g6, eg6, hf⟩ := mm_lt_some hf
    refine me_iastH (q := 21) C eg6 dX8_add_20 eu3 k4 k5 rfl ?_
    refine me_aload_n (q := 22) C dX8_add_21 rfl rfl rfl ?_
    refine me_getR (q := 25) C dX8_add_22 mf_X8_15 rfl rfl (mm_kI eg6 k1) rfl ?_
    refine me_aload_n (q := 26) C dX8_add_25 rfl rfl rfl ?_
    refine me_getI (q := 29) C dX8_add_26 mf_X8_27 rfl rfl (mm_kI eg6 k1) rfl ?_
    refine me_iload_n (q := 30) C dX8_add_29 rfl rfl rfl ?_
    obtain ⟨u7, eu7, hf⟩ := mm_rf_some hf
    obtain ⟨k8, hf⟩ := mm_ck_some hf
    obtain ⟨k9, hf⟩ := mm_ck_some hf
    obtain ⟨g10, eg10, hf⟩ := mm_lt_some hf
    refine me_iastH (q := 31) C eg10 dX8_add_30 eu7 k8 k9 rfl ?_
    refine me_aload_n (q := 32) C dX8_add_31 rfl rfl rfl ?_
    refine me_getR (q := 35) C dX8_add_32 mf_X8_18 rfl rfl (mm_kI eg10 (mm_kI eg6 k1)) rfl ?_
    refine me_aload_n (q := 36) C dX8_add_35 rfl rfl rfl ?_
    refine me_getI (q := 39) C dX8_add_36 mf_X8_27 rfl rfl (mm_kI eg10 (mm_kI eg6 k1)) rfl ?_
    refine me_iload_n (q := 40) C dX8_add_39 rfl rfl rfl ?_
    obtain ⟨u11, eu11, hf⟩ := mm_rf_some hf
    obtain ⟨k12, hf⟩ := mm_ck_some hf
    obtain ⟨k13, hf⟩ := mm_ck_some hf
    obtain ⟨g14, eg14, hf⟩ := mm_lt_some hf
    refine me_iastH (q := 41) C eg14 dX8_add_40 eu11 k12 k13 rfl ?_
    refine me_aload_n (q := 42) C dX8_add_41 rfl rfl rfl ?_
    refine me_getR (q := 45) C dX8_add_42 mf_X8_21 rfl rfl (mm_kI eg14 (mm_kI eg10 (mm_kI eg6 k1))) rfl ?_
    refine me_aload_n (q := 46) C dX8_add_45 rfl rfl rfl ?_
    refine me_getI (q := 49) C dX8_add_46 mf_X8_27 rfl rfl (mm_kI eg14 (mm_kI eg10 (mm_kI eg6 k1))) rfl ?_
    refine me_iload (q := 51) C dX8_add_49 rfl rfl ?_
    obtain ⟨u15, eu15, hf⟩ := mm_rf_some hf
    obtain ⟨k16, hf⟩ := mm_ck_some hf
    obtain ⟨k17, hf⟩ := mm_ck_some hf
    obtain ⟨g18, eg18, hf⟩ := mm_lt_some hf
    refine me_iastH (q := 52) C eg18 dX8_add_51 eu15 k16 k17 rfl ?_
    refine me_aload_n (q := 53) C dX8_add_52 rfl rfl rfl ?_
    refine me_getR (q := 56) C dX8_add_53 mf_X8_24 rfl rfl (mm_kI eg18 (mm_kI eg14 (mm_kI eg10 (mm_kI eg6 k1)))) rfl ?_
    refine me_aload_n (q := 57) C dX8_add_56 rfl rfl rfl ?_
    refine me_getI (q := 60) C dX8_add_57 mf_X8_27 rfl rfl (mm_kI eg18 (mm_kI eg14 (mm_kI eg10 (mm_kI eg6 k1)))) rfl ?_
    refine me_iconst (v := (-1 : Int32)) (q := 61) C dX8_add_60 (by decide) rfl ?_
    obtain ⟨u19, eu19, hf⟩ := mm_rf_some hf
    obtain ⟨k20, hf⟩ := mm_ck_some hf
    obtain ⟨k21, hf⟩ := mm_ck_some hf
    obtain ⟨g22, eg22, hf⟩ := mm_lt_some hf
    refine me_iastH (q := 62) C eg22 dX8_add_61 eu19 k20 k21 rfl ?_
    refine me_aload_n (q := 63) C dX8_add_62 rfl rfl rfl ?_
    refine me_dup (q := 64) C dX8_add_63 rfl rfl ?_
    refine me_getI (q := 67) C dX8_add_64 mf_X8_27 rfl rfl (mm_kI eg22 (mm_kI eg18 (mm_kI eg14 (mm_kI eg10 (mm_kI eg6 k1))))) rfl ?_
    refine me_iconst (v := (1 : Int32)) (q := 68) C dX8_add_67 (by decide) rfl ?_
    refine me_iadd (q := 69) C dX8_add_68 rfl ?_
    obtain ⟨g23, eg23, hf⟩ := mm_lt_some hf
    refine me_putI (q := 72) C eg23 dX8_add_69 mf_X8_27 mp_X8_9_5 rfl (by decide) rfl (mm_kI eg22 (mm_kI eg18 (mm_kI eg14 (mm_kI eg10 (mm_kI eg6 k1))))) rfl ?_
    refine me_aload_n (q := 73) C dX8_add_72 rfl rfl rfl ?_
    refine me_getI (q := 76) C dX8_add_73 mf_X8_27 rfl rfl (mm_kI eg23 (mm_kI eg22 (mm_kI eg18 (mm_kI eg14 (mm_kI eg10 (mm_kI eg6 k1)))))) rfl ?_
    refine me_iconst (v := (1 : Int32)) (q := 77) C dX8_add_76 (by decide) rfl ?_
    refine me_isub (q := 78) C dX8_add_77 rfl ?_
    exact me_iret C hE (Nat.le_of_ble_eq_true rfl) (Nat.le_of_ble_eq_true rfl) rfl dX8_add_78 (mm_ri hf)
  · have hf := mm_if_f c2 hf
    refine me_iconst (v := (-1 : Int32)) (q := 10) C dX8_add_9 (by decide) rfl ?_
    exact me_iret C hE (Nat.le_of_ble_eq_true rfl) (Nat.le_of_ble_eq_true rfl) rfl dX8_add_10 (mm_ri hf)
set_option maxRecDepth 100000 in
set_option maxHeartbeats 4000000 in
theorem cX8_withdraw_ok (l : Launch) {a0 : Nat} {a1 : Int32} {a2 : Int32} {h : mm_H} {r : Int32} {h1 : mm_H} (hf : fX8_withdraw a0 a1 a2 h = some (r, h1)) : mm_M l yX8_withdraw cX8_withdraw 3 (some .boolean) 2 0 0 [vR (some a0), vI a1, vI a2] h (some (vI r)) h1 := by
  refine mm_enter (lv := [some (vR (some a0)), some (vI a1), some (vI a2)]) (by decide) rfl (Nat.le_of_ble_eq_true rfl) ?_
  intro X hl C hE
  subst hl
  unfold fX8_withdraw at hf
  refine me_iload_n (q := 1) C dX8_withdraw_0 rfl rfl rfl ?_
  refine me_if_lt (q2 := 22) (q := 4) C dX8_withdraw_1 (by decide) rfl (fun c1 => ?_) (fun c1 => ?_)
  · have hf := mm_if_t c1 hf
    refine me_iconst (v := (0 : Int32)) (q := 23) C dX8_withdraw_22 (by decide) rfl ?_
    exact me_zret C hE (Nat.le_of_ble_eq_true rfl) (Nat.le_of_ble_eq_true rfl) rfl (Or.inl rfl) dX8_withdraw_23 (mm_ri hf)
  · have hf := mm_if_f c1 hf
    refine me_iload_n (q := 5) C dX8_withdraw_4 rfl rfl rfl ?_
    refine me_aload_n (q := 6) C dX8_withdraw_5 rfl rfl rfl ?_
    obtain ⟨k2, hf⟩ := mm_ck_some hf
    refine me_getI (q := 9) C dX8_withdraw_6 mf_X8_27 rfl rfl k2 rfl ?_
    refine me_icmp_ge (q2 := 22) (q := 12) C dX8_withdraw_9 (by decide) rfl (fun c3 => ?_) (fun c3 => ?_)
    · have hf := mm_if_t c3 hf
      refine me_iconst (v := (0 : Int32)) (q := 23) C dX8_withdraw_22 (by decide) rfl ?_
      exact me_zret C hE (Nat.le_of_ble_eq_true rfl) (Nat.le_of_ble_eq_true rfl) rfl (Or.inl rfl) dX8_withdraw_23 (mm_ri hf)
    · have hf := mm_if_f c3 hf
      refine me_aload_n (q := 13) C dX8_withdraw_12 rfl rfl rfl ?_
      refine me_getR (q := 16) C dX8_withdraw_13 mf_X8_24 rfl rfl k2 rfl ?_
      refine me_iload_n (q := 17) C dX8_withdraw_16 rfl rfl rfl ?_
      obtain ⟨u4, eu4, hf⟩ := mm_rf_some hf
      obtain ⟨k5, hf⟩ := mm_ck_some hf
      obtain ⟨k6, hf⟩ := mm_ck_some hf
      refine me_iald (q := 18) C dX8_withdraw_17 eu4 k5 k6 rfl ?_
      refine me_iconst (v := (-1 : Int32)) (q := 19) C dX8_withdraw_18 (by decide) rfl ?_
      refine me_icmp_eq (q2 := 24) (q := 22) C dX8_withdraw_19 (by decide) rfl (fun c7 => ?_) (fun c7 => ?_)
      · have hf := mm_if_t c7 hf
        refine me_aload_n (q := 25) C dX8_withdraw_24 rfl rfl rfl ?_
        refine me_getR (q := 28) C dX8_withdraw_25 mf_X8_24 rfl rfl k2 rfl ?_
        refine me_iload_n (q := 29) C dX8_withdraw_28 rfl rfl rfl ?_
        refine me_iload_n (q := 30) C dX8_withdraw_29 rfl rfl rfl ?_
        obtain ⟨k8, hf⟩ := mm_ck_some hf
        obtain ⟨g9, eg9, hf⟩ := mm_lt_some hf
        refine me_iastH (q := 31) C eg9 dX8_withdraw_30 eu4 k5 k8 rfl ?_
        refine me_iconst (v := (1 : Int32)) (q := 32) C dX8_withdraw_31 (by decide) rfl ?_
        exact me_zret C hE (Nat.le_of_ble_eq_true rfl) (Nat.le_of_ble_eq_true rfl) rfl (Or.inr rfl) dX8_withdraw_32 (mm_ri hf)
      · have hf := mm_if_f c7 hf
        refine me_iconst (v := (0 : Int32)) (q := 23) C dX8_withdraw_22 (by decide) rfl ?_
        exact me_zret C hE (Nat.le_of_ble_eq_true rfl) (Nat.le_of_ble_eq_true rfl) rfl (Or.inl rfl) dX8_withdraw_23 (mm_ri hf)
