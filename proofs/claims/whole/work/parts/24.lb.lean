def lw_pc (k : Nat) : Nat := ([240, 263, 322, 345, 368, 411, 444, 477, 540, 563, 596, 619, 652, 685, 772, 795, 838, 861, 904, 991, 1024, 1057, 1100, 1133, 1156, 1199, 1222, 1265, 1288, 1331, 1384, 1457, 1480, 1533, 1586, 1639, 1663, 1696, 1710, 1743, 1766, 1819, 1842, 1865, 1918, 1931, 1964, 1987] : List Nat).getD k 0
set_option maxRecDepth 100000 in
def fL_b (L : Nat) (xs : Nat → Int32) (xi : Int32) (Kc : Nat → mm_H → Option (Int32 × mm_H)) (Kn Kx : mm_H → Option (Int32 × mm_H)) (h : mm_H) : Option (Int32 × mm_H) := if ((nI L) - (8 : Int32)) < xi then (Kx h) else (mm_ck (mm_ix xi L) <| mm_lt (((xs (Int32.toNatClampNeg xi)) &&& (63 : Int32))) fun v3 => if v3 = 0 then (Kc 0 h) else if v3 = 1 then (Kc 1 h) else if v3 = 2 then (Kc 2 h) else if v3 = 3 then (Kc 3 h) else if v3 = 4 then (Kc 4 h) else if v3 = 5 then (Kc 5 h) else if v3 = 6 then (Kc 6 h) else if v3 = 7 then (Kc 7 h) else if v3 = 8 then (Kc 8 h) else if v3 = 9 then (Kc 9 h) else if v3 = 10 then (Kc 10 h) else if v3 = 11 then (Kc 11 h) else if v3 = 12 then (Kc 12 h) else if v3 = 13 then (Kc 13 h) else if v3 = 14 then (Kc 14 h) else if v3 = 15 then (Kc 15 h) else if v3 = 16 then (Kc 16 h) else if v3 = 17 then (Kc 17 h) else if v3 = 18 then (Kc 18 h) else if v3 = 19 then (Kc 19 h) else if v3 = 20 then (Kc 20 h) else if v3 = 21 then (Kc 21 h) else if v3 = 22 then (Kc 22 h) else if v3 = 23 then (Kc 23 h) else if v3 = 24 then (Kc 24 h) else if v3 = 25 then (Kc 25 h) else if v3 = 26 then (Kc 26 h) else if v3 = 27 then (Kc 27 h) else if v3 = 28 then (Kc 28 h) else if v3 = 29 then (Kc 29 h) else if v3 = 30 then (Kc 30 h) else if v3 = 31 then (Kc 31 h) else if v3 = 32 then (Kc 32 h) else if v3 = 33 then (Kc 33 h) else if v3 = 34 then (Kc 34 h) else if v3 = 35 then (Kc 35 h) else if v3 = 36 then (Kc 36 h) else if v3 = 37 then (Kc 37 h) else if v3 = 38 then (Kc 38 h) else if v3 = 39 then (Kc 39 h) else if v3 = 40 then (Kc 40 h) else if v3 = 41 then (Kc 41 h) else if v3 = 42 then (Kc 42 h) else if v3 = 43 then (Kc 43 h) else if v3 = 44 then (Kc 44 h) else if v3 = 45 then (Kc 45 h) else if v3 = 46 then (Kc 46 h) else if v3 = 47 then (Kc 47 h) else (Kn h))
set_option maxRecDepth 100000 in
set_option maxHeartbeats 4000000 in
theorem cL_b {X : mm_X} (C : mm_C X cL_law yL_law 1300 183448 8551906) {sb L : Nat} {xs : Nat → Int32} (hX : mm_scr X sb L xs) {cl sl : Nat} {ax ay : Nat} {xi : Int32} {Kc : Nat → mm_H → Option (Int32 × mm_H)} {Kn Kx : mm_H → Option (Int32 × mm_H)} {u : Int32 × mm_H} (hkc : ∀ k h, Kc k h = some u → mm_E X h (cl + 0) (sl + 0) (lw_pc k) [some (vR (some sb)), some (vR (some ax)), some (vR (some ay)), some (vI xi)] []) (hkn : ∀ h, Kn h = some u → mm_E X h (cl + 0) (sl + 0) 2011 [some (vR (some sb)), some (vR (some ax)), some (vR (some ay)), some (vI xi)] []) (hkx : ∀ h, Kx h = some u → mm_E X h (cl + 0) (sl + 0) 2017 [some (vR (some sb)), some (vR (some ax)), some (vR (some ay)), some (vI xi)] []) : ∀ h, fL_b L xs xi Kc Kn Kx h = some u → mm_E X h (cl + 0) (sl + 0) 18 [some (vR (some sb)), some (vR (some ax)), some (vR (some ay)), some (vI xi)] [] := by
  intro h hf
  unfold fL_b at hf
  refine me_iload_n (q := 19) C dL_law_18 rfl rfl rfl ?_
  refine me_aload_n (q := 20) C dL_law_19 rfl rfl rfl ?_
  refine me_slen (q := 21) C hX dL_law_20 rfl ?_
  refine me_bipush (v := (8 : Int32)) (q := 23) C dL_law_21 (by decide) rfl ?_
  refine me_isub (q := 24) C dL_law_23 rfl ?_
  refine me_icmp_gt (q2 := 2017) (q := 27) C dL_law_24 (by decide) rfl (fun c1 => ?_) (fun c1 => ?_)
  · have hf := mm_if_t c1 hf
    exact hkx _ hf
  · have hf := mm_if_f c1 hf
    refine me_aload_n (q := 28) C dL_law_27 rfl rfl rfl ?_
    refine me_iload_n (q := 29) C dL_law_28 rfl rfl rfl ?_
    obtain ⟨k2, hf⟩ := mm_ck_some hf
    refine me_sld (q := 30) C hX dL_law_29 k2 rfl ?_
    refine me_bipush (v := (63 : Int32)) (q := 32) C dL_law_30 (by decide) rfl ?_
    refine me_iand (q := 33) C dL_law_32 rfl ?_
    obtain ⟨v3, ev3, hf⟩ := mm_lt_some hf
    refine me_topI ev3 ?_
    by_cases c4 : v3 = 0
    · have hf := mm_if_t c4 hf
      refine me_tabIn (q := 240) C dL_law_33 (by rw [c4]; decide) (by rw [c4]; decide) (by rw [c4]; rfl) (by decide) ?_
      exact hkc 0 _ hf
    have hf := mm_if_f c4 hf
    by_cases c5 : v3 = 1
    · have hf := mm_if_t c5 hf
      refine me_tabIn (q := 263) C dL_law_33 (by rw [c5]; decide) (by rw [c5]; decide) (by rw [c5]; rfl) (by decide) ?_
      exact hkc 1 _ hf
    have hf := mm_if_f c5 hf
    by_cases c6 : v3 = 2
    · have hf := mm_if_t c6 hf
      refine me_tabIn (q := 322) C dL_law_33 (by rw [c6]; decide) (by rw [c6]; decide) (by rw [c6]; rfl) (by decide) ?_
      exact hkc 2 _ hf
    have hf := mm_if_f c6 hf
    by_cases c7 : v3 = 3
    · have hf := mm_if_t c7 hf
      refine me_tabIn (q := 345) C dL_law_33 (by rw [c7]; decide) (by rw [c7]; decide) (by rw [c7]; rfl) (by decide) ?_
      exact hkc 3 _ hf
    have hf := mm_if_f c7 hf
    by_cases c8 : v3 = 4
    · have hf := mm_if_t c8 hf
      refine me_tabIn (q := 368) C dL_law_33 (by rw [c8]; decide) (by rw [c8]; decide) (by rw [c8]; rfl) (by decide) ?_
      exact hkc 4 _ hf
    have hf := mm_if_f c8 hf
    by_cases c9 : v3 = 5
    · have hf := mm_if_t c9 hf
      refine me_tabIn (q := 411) C dL_law_33 (by rw [c9]; decide) (by rw [c9]; decide) (by rw [c9]; rfl) (by decide) ?_
      exact hkc 5 _ hf
    have hf := mm_if_f c9 hf
    by_cases c10 : v3 = 6
    · have hf := mm_if_t c10 hf
      refine me_tabIn (q := 444) C dL_law_33 (by rw [c10]; decide) (by rw [c10]; decide) (by rw [c10]; rfl) (by decide) ?_
      exact hkc 6 _ hf
    have hf := mm_if_f c10 hf
    by_cases c11 : v3 = 7
    · have hf := mm_if_t c11 hf
      refine me_tabIn (q := 477) C dL_law_33 (by rw [c11]; decide) (by rw [c11]; decide) (by rw [c11]; rfl) (by decide) ?_
      exact hkc 7 _ hf
    have hf := mm_if_f c11 hf
    by_cases c12 : v3 = 8
    · have hf := mm_if_t c12 hf
      refine me_tabIn (q := 540) C dL_law_33 (by rw [c12]; decide) (by rw [c12]; decide) (by rw [c12]; rfl) (by decide) ?_
      exact hkc 8 _ hf
    have hf := mm_if_f c12 hf
    by_cases c13 : v3 = 9
    · have hf := mm_if_t c13 hf
      refine me_tabIn (q := 563) C dL_law_33 (by rw [c13]; decide) (by rw [c13]; decide) (by rw [c13]; rfl) (by decide) ?_
      exact hkc 9 _ hf
    have hf := mm_if_f c13 hf
    by_cases c14 : v3 = 10
    · have hf := mm_if_t c14 hf
      refine me_tabIn (q := 596) C dL_law_33 (by rw [c14]; decide) (by rw [c14]; decide) (by rw [c14]; rfl) (by decide) ?_
      exact hkc 10 _ hf
    have hf := mm_if_f c14 hf
    by_cases c15 : v3 = 11
    · have hf := mm_if_t c15 hf
      refine me_tabIn (q := 619) C dL_law_33 (by rw [c15]; decide) (by rw [c15]; decide) (by rw [c15]; rfl) (by decide) ?_
      exact hkc 11 _ hf
    have hf := mm_if_f c15 hf
    by_cases c16 : v3 = 12
    · have hf := mm_if_t c16 hf
      refine me_tabIn (q := 652) C dL_law_33 (by rw [c16]; decide) (by rw [c16]; decide) (by rw [c16]; rfl) (by decide) ?_
      exact hkc 12 _ hf
    have hf := mm_if_f c16 hf
    by_cases c17 : v3 = 13
    · have hf := mm_if_t c17 hf
      refine me_tabIn (q := 685) C dL_law_33 (by rw [c17]; decide) (by rw [c17]; decide) (by rw [c17]; rfl) (by decide) ?_
      exact hkc 13 _ hf
    have hf := mm_if_f c17 hf
    by_cases c18 : v3 = 14
    · have hf := mm_if_t c18 hf
      refine me_tabIn (q := 772) C dL_law_33 (by rw [c18]; decide) (by rw [c18]; decide) (by rw [c18]; rfl) (by decide) ?_
      exact hkc 14 _ hf
    have hf := mm_if_f c18 hf
    by_cases c19 : v3 = 15
    · have hf := mm_if_t c19 hf
      refine me_tabIn (q := 795) C dL_law_33 (by rw [c19]; decide) (by rw [c19]; decide) (by rw [c19]; rfl) (by decide) ?_
      exact hkc 15 _ hf
    have hf := mm_if_f c19 hf
    by_cases c20 : v3 = 16
    · have hf := mm_if_t c20 hf
      refine me_tabIn (q := 838) C dL_law_33 (by rw [c20]; decide) (by rw [c20]; decide) (by rw [c20]; rfl) (by decide) ?_
      exact hkc 16 _ hf
    have hf := mm_if_f c20 hf
    by_cases c21 : v3 = 17
    · have hf := mm_if_t c21 hf
      refine me_tabIn (q := 861) C dL_law_33 (by rw [c21]; decide) (by rw [c21]; decide) (by rw [c21]; rfl) (by decide) ?_
      exact hkc 17 _ hf
    have hf := mm_if_f c21 hf
    by_cases c22 : v3 = 18
    · have hf := mm_if_t c22 hf
      refine me_tabIn (q := 904) C dL_law_33 (by rw [c22]; decide) (by rw [c22]; decide) (by rw [c22]; rfl) (by decide) ?_
      exact hkc 18 _ hf
    have hf := mm_if_f c22 hf
    by_cases c23 : v3 = 19
    · have hf := mm_if_t c23 hf
      refine me_tabIn (q := 991) C dL_law_33 (by rw [c23]; decide) (by rw [c23]; decide) (by rw [c23]; rfl) (by decide) ?_
      exact hkc 19 _ hf
    have hf := mm_if_f c23 hf
    by_cases c24 : v3 = 20
    · have hf := mm_if_t c24 hf
      refine me_tabIn (q := 1024) C dL_law_33 (by rw [c24]; decide) (by rw [c24]; decide) (by rw [c24]; rfl) (by decide) ?_
      exact hkc 20 _ hf
    have hf := mm_if_f c24 hf
    by_cases c25 : v3 = 21
    · have hf := mm_if_t c25 hf
      refine me_tabIn (q := 1057) C dL_law_33 (by rw [c25]; decide) (by rw [c25]; decide) (by rw [c25]; rfl) (by decide) ?_
      exact hkc 21 _ hf
    have hf := mm_if_f c25 hf
    by_cases c26 : v3 = 22
    · have hf := mm_if_t c26 hf
      refine me_tabIn (q := 1100) C dL_law_33 (by rw [c26]; decide) (by rw [c26]; decide) (by rw [c26]; rfl) (by decide) ?_
      exact hkc 22 _ hf
    have hf := mm_if_f c26 hf
    by_cases c27 : v3 = 23
    · have hf := mm_if_t c27 hf
      refine me_tabIn (q := 1133) C dL_law_33 (by rw [c27]; decide) (by rw [c27]; decide) (by rw [c27]; rfl) (by decide) ?_
      exact hkc 23 _ hf
    have hf := mm_if_f c27 hf
    by_cases c28 : v3 = 24
    · have hf := mm_if_t c28 hf
      refine me_tabIn (q := 1156) C dL_law_33 (by rw [c28]; decide) (by rw [c28]; decide) (by rw [c28]; rfl) (by decide) ?_
      exact hkc 24 _ hf
    have hf := mm_if_f c28 hf
    by_cases c29 : v3 = 25
    · have hf := mm_if_t c29 hf
      refine me_tabIn (q := 1199) C dL_law_33 (by rw [c29]; decide) (by rw [c29]; decide) (by rw [c29]; rfl) (by decide) ?_
      exact hkc 25 _ hf
    have hf := mm_if_f c29 hf
    by_cases c30 : v3 = 26
    · have hf := mm_if_t c30 hf
      refine me_tabIn (q := 1222) C dL_law_33 (by rw [c30]; decide) (by rw [c30]; decide) (by rw [c30]; rfl) (by decide) ?_
      exact hkc 26 _ hf
    have hf := mm_if_f c30 hf
    by_cases c31 : v3 = 27
    · have hf := mm_if_t c31 hf
      refine me_tabIn (q := 1265) C dL_law_33 (by rw [c31]; decide) (by rw [c31]; decide) (by rw [c31]; rfl) (by decide) ?_
      exact hkc 27 _ hf
    have hf := mm_if_f c31 hf
    by_cases c32 : v3 = 28
    · have hf := mm_if_t c32 hf
      refine me_tabIn (q := 1288) C dL_law_33 (by rw [c32]; decide) (by rw [c32]; decide) (by rw [c32]; rfl) (by decide) ?_
      exact hkc 28 _ hf
    have hf := mm_if_f c32 hf
    by_cases c33 : v3 = 29
    · have hf := mm_if_t c33 hf
      refine me_tabIn (q := 1331) C dL_law_33 (by rw [c33]; decide) (by rw [c33]; decide) (by rw [c33]; rfl) (by decide) ?_
      exact hkc 29 _ hf
    have hf := mm_if_f c33 hf
    by_cases c34 : v3 = 30
    · have hf := mm_if_t c34 hf
      refine me_tabIn (q := 1384) C dL_law_33 (by rw [c34]; decide) (by rw [c34]; decide) (by rw [c34]; rfl) (by decide) ?_
      exact hkc 30 _ hf
    have hf := mm_if_f c34 hf
    by_cases c35 : v3 = 31
    · have hf := mm_if_t c35 hf
      refine me_tabIn (q := 1457) C dL_law_33 (by rw [c35]; decide) (by rw [c35]; decide) (by rw [c35]; rfl) (by decide) ?_
      exact hkc 31 _ hf
    have hf := mm_if_f c35 hf
    by_cases c36 : v3 = 32
    · have hf := mm_if_t c36 hf
      refine me_tabIn (q := 1480) C dL_law_33 (by rw [c36]; decide) (by rw [c36]; decide) (by rw [c36]; rfl) (by decide) ?_
      exact hkc 32 _ hf
    have hf := mm_if_f c36 hf
    by_cases c37 : v3 = 33
    · have hf := mm_if_t c37 hf
      refine me_tabIn (q := 1533) C dL_law_33 (by rw [c37]; decide) (by rw [c37]; decide) (by rw [c37]; rfl) (by decide) ?_
      exact hkc 33 _ hf
    have hf := mm_if_f c37 hf
    by_cases c38 : v3 = 34
    · have hf := mm_if_t c38 hf
      refine me_tabIn (q := 1586) C dL_law_33 (by rw [c38]; decide) (by rw [c38]; decide) (by rw [c38]; rfl) (by decide) ?_
      exact hkc 34 _ hf
    have hf := mm_if_f c38 hf
    by_cases c39 : v3 = 35
    · have hf := mm_if_t c39 hf
      refine me_tabIn (q := 1639) C dL_law_33 (by rw [c39]; decide) (by rw [c39]; decide) (by rw [c39]; rfl) (by decide) ?_
      exact hkc 35 _ hf
    have hf := mm_if_f c39 hf
    by_cases c40 : v3 = 36
    · have hf := mm_if_t c40 hf
      refine me_tabIn (q := 1663) C dL_law_33 (by rw [c40]; decide) (by rw [c40]; decide) (by rw [c40]; rfl) (by decide) ?_
      exact hkc 36 _ hf
    have hf := mm_if_f c40 hf
    by_cases c41 : v3 = 37
    · have hf := mm_if_t c41 hf
      refine me_tabIn (q := 1696) C dL_law_33 (by rw [c41]; decide) (by rw [c41]; decide) (by rw [c41]; rfl) (by decide) ?_
      exact hkc 37 _ hf
    have hf := mm_if_f c41 hf
    by_cases c42 : v3 = 38
    · have hf := mm_if_t c42 hf
      refine me_tabIn (q := 1710) C dL_law_33 (by rw [c42]; decide) (by rw [c42]; decide) (by rw [c42]; rfl) (by decide) ?_
      exact hkc 38 _ hf
    have hf := mm_if_f c42 hf
    by_cases c43 : v3 = 39
    · have hf := mm_if_t c43 hf
      refine me_tabIn (q := 1743) C dL_law_33 (by rw [c43]; decide) (by rw [c43]; decide) (by rw [c43]; rfl) (by decide) ?_
      exact hkc 39 _ hf
    have hf := mm_if_f c43 hf
    by_cases c44 : v3 = 40
    · have hf := mm_if_t c44 hf
      refine me_tabIn (q := 1766) C dL_law_33 (by rw [c44]; decide) (by rw [c44]; decide) (by rw [c44]; rfl) (by decide) ?_
      exact hkc 40 _ hf
    have hf := mm_if_f c44 hf
    by_cases c45 : v3 = 41
    · have hf := mm_if_t c45 hf
      refine me_tabIn (q := 1819) C dL_law_33 (by rw [c45]; decide) (by rw [c45]; decide) (by rw [c45]; rfl) (by decide) ?_
      exact hkc 41 _ hf
    have hf := mm_if_f c45 hf
    by_cases c46 : v3 = 42
    · have hf := mm_if_t c46 hf
      refine me_tabIn (q := 1842) C dL_law_33 (by rw [c46]; decide) (by rw [c46]; decide) (by rw [c46]; rfl) (by decide) ?_
      exact hkc 42 _ hf
    have hf := mm_if_f c46 hf
    by_cases c47 : v3 = 43
    · have hf := mm_if_t c47 hf
      refine me_tabIn (q := 1865) C dL_law_33 (by rw [c47]; decide) (by rw [c47]; decide) (by rw [c47]; rfl) (by decide) ?_
      exact hkc 43 _ hf
    have hf := mm_if_f c47 hf
    by_cases c48 : v3 = 44
    · have hf := mm_if_t c48 hf
      refine me_tabIn (q := 1918) C dL_law_33 (by rw [c48]; decide) (by rw [c48]; decide) (by rw [c48]; rfl) (by decide) ?_
      exact hkc 44 _ hf
    have hf := mm_if_f c48 hf
    by_cases c49 : v3 = 45
    · have hf := mm_if_t c49 hf
      refine me_tabIn (q := 1931) C dL_law_33 (by rw [c49]; decide) (by rw [c49]; decide) (by rw [c49]; rfl) (by decide) ?_
      exact hkc 45 _ hf
    have hf := mm_if_f c49 hf
    by_cases c50 : v3 = 46
    · have hf := mm_if_t c50 hf
      refine me_tabIn (q := 1964) C dL_law_33 (by rw [c50]; decide) (by rw [c50]; decide) (by rw [c50]; rfl) (by decide) ?_
      exact hkc 46 _ hf
    have hf := mm_if_f c50 hf
    by_cases c51 : v3 = 47
    · have hf := mm_if_t c51 hf
      refine me_tabIn (q := 1987) C dL_law_33 (by rw [c51]; decide) (by rw [c51]; decide) (by rw [c51]; rfl) (by decide) ?_
      exact hkc 47 _ hf
    have hf := mm_if_f c51 hf
    refine me_tabOut (q := 2011) C dL_law_33 ?_ (by decide) ?_
    · by_cases hz : v3.toInt < 0 ∨ 47 < v3.toInt
      · exact hz
      · exfalso
        have hw : v3.toInt = 0 ∨ v3.toInt = 1 ∨ v3.toInt = 2 ∨ v3.toInt = 3 ∨ v3.toInt = 4 ∨ v3.toInt = 5 ∨ v3.toInt = 6 ∨ v3.toInt = 7 ∨ v3.toInt = 8 ∨ v3.toInt = 9 ∨ v3.toInt = 10 ∨ v3.toInt = 11 ∨ v3.toInt = 12 ∨ v3.toInt = 13 ∨ v3.toInt = 14 ∨ v3.toInt = 15 ∨ v3.toInt = 16 ∨ v3.toInt = 17 ∨ v3.toInt = 18 ∨ v3.toInt = 19 ∨ v3.toInt = 20 ∨ v3.toInt = 21 ∨ v3.toInt = 22 ∨ v3.toInt = 23 ∨ v3.toInt = 24 ∨ v3.toInt = 25 ∨ v3.toInt = 26 ∨ v3.toInt = 27 ∨ v3.toInt = 28 ∨ v3.toInt = 29 ∨ v3.toInt = 30 ∨ v3.toInt = 31 ∨ v3.toInt = 32 ∨ v3.toInt = 33 ∨ v3.toInt = 34 ∨ v3.toInt = 35 ∨ v3.toInt = 36 ∨ v3.toInt = 37 ∨ v3.toInt = 38 ∨ v3.toInt = 39 ∨ v3.toInt = 40 ∨ v3.toInt = 41 ∨ v3.toInt = 42 ∨ v3.toInt = 43 ∨ v3.toInt = 44 ∨ v3.toInt = 45 ∨ v3.toInt = 46 ∨ v3.toInt = 47 := by omega
        rcases hw with hw | hw | hw | hw | hw | hw | hw | hw | hw | hw | hw | hw | hw | hw | hw | hw | hw | hw | hw | hw | hw | hw | hw | hw | hw | hw | hw | hw | hw | hw | hw | hw | hw | hw | hw | hw | hw | hw | hw | hw | hw | hw | hw | hw | hw | hw | hw | hw
        · exact c4 (mm_sw hw)
        · exact c5 (mm_sw hw)
        · exact c6 (mm_sw hw)
        · exact c7 (mm_sw hw)
        · exact c8 (mm_sw hw)
        · exact c9 (mm_sw hw)
        · exact c10 (mm_sw hw)
        · exact c11 (mm_sw hw)
        · exact c12 (mm_sw hw)
        · exact c13 (mm_sw hw)
        · exact c14 (mm_sw hw)
        · exact c15 (mm_sw hw)
        · exact c16 (mm_sw hw)
        · exact c17 (mm_sw hw)
        · exact c18 (mm_sw hw)
        · exact c19 (mm_sw hw)
        · exact c20 (mm_sw hw)
        · exact c21 (mm_sw hw)
        · exact c22 (mm_sw hw)
        · exact c23 (mm_sw hw)
        · exact c24 (mm_sw hw)
        · exact c25 (mm_sw hw)
        · exact c26 (mm_sw hw)
        · exact c27 (mm_sw hw)
        · exact c28 (mm_sw hw)
        · exact c29 (mm_sw hw)
        · exact c30 (mm_sw hw)
        · exact c31 (mm_sw hw)
        · exact c32 (mm_sw hw)
        · exact c33 (mm_sw hw)
        · exact c34 (mm_sw hw)
        · exact c35 (mm_sw hw)
        · exact c36 (mm_sw hw)
        · exact c37 (mm_sw hw)
        · exact c38 (mm_sw hw)
        · exact c39 (mm_sw hw)
        · exact c40 (mm_sw hw)
        · exact c41 (mm_sw hw)
        · exact c42 (mm_sw hw)
        · exact c43 (mm_sw hw)
        · exact c44 (mm_sw hw)
        · exact c45 (mm_sw hw)
        · exact c46 (mm_sw hw)
        · exact c47 (mm_sw hw)
        · exact c48 (mm_sw hw)
        · exact c49 (mm_sw hw)
        · exact c50 (mm_sw hw)
        · exact c51 (mm_sw hw)
    · exact hkn _ hf
