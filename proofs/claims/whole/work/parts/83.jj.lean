/-! judge and weighs -/
section JJ
variable {B : Nat} {h hx hy hx' hy' : mm_H} {ow ow' : Nat → Nat × Nat} {n nm nl nb nw td tn ta np : Nat} {am al : Nat → Nat} {A U V Z G E : Nat → Nat → Nat} {T : Nat → Int32}
theorem prF_cg {g : mm_H} {m c : Nat} {t k d : Int32} (e1 : ∀ i, mm_i g (B + 121) i = mm_i h (B + 121) i) (e2 : ∀ i, mm_i g (B + 122) i = mm_i h (B + 122) i) (e5 : ∀ i, mm_i g (B + 125) i = mm_i h (B + 125) i) (ec : ∀ i, mm_i g (B + c) i = mm_i h (B + c) i) : prF g B m c t k d = prF h B m c t k d := by
  have : yNe g B t k d = yNe h B t k d := by
    funext i
    unfold yNe
    rw [e1, e2, e5]
  unfold prF
  rw [this]
  cases lastF (yNe h B t k d) m with
  | none => rfl
  | some i => exact ec i
theorem J_judge {ms : List Nat} (S : mS B h) (y : mY B ow ms h hy) (m1 : 111 ∉ ms) (m2 : 112 ∉ ms) (m3 : 101 ∉ ms) (N : RNow B h) (M : RMn B ow h hy nm am) (L : RLt B ow h hy nm nl al) (R : RBg B ow h hy nm nb A U T) (El : REl B ow h hy tn td ta) (Lw : RLw B ow h hy nw V Z G E) (Po : RPo B h) (Pt : RPt B h) (Ne : RNe B h) {s b l : Nat} (hs : s < nm) (hb : b < nm) (hl : l < nl) (am9 pr cr hr : Int32) : ∃ r h1 hy1, fX11_judge B (nI s) (nI b) (nI l) am9 pr cr hr h = some (r, h1) ∧ fX12_weighs (B + 66) (nI s) (nI b) (nI l) am9 pr cr hr hy = some (r, hy1) ∧ (∀ o : Nat → Nat × Nat, mY B o [0, 10] h h1) ∧ (∀ o : Nat → Nat × Nat, mY B o [100, 110] hy hy1) ∧ RTo B h1 hy1 := by
  have Sy := y.S S
  obtain ⟨N1, N2, N3⟩ := id N
  obtain ⟨q, hq31, hq⟩ := nI_of (Int32.not_lt.mpr N2)
  have hq9 : q ≤ 3999 := (nI_leI (b := 3999) hq31 (by omega)).mp (hq ▸ N3)
  have hq' : mm_i hy (B + 66) 1 = nI q := by rw [y.iF (m := 101) (by omega) rfl m3, N1, hq]
  obtain ⟨np, p1, p2, p3, p4⟩ := id Po
  obtain ⟨nn, n1, n2, n3, n4⟩ := id Ne
  obtain ⟨mt, mw, mc, mg⟩ := M.2.2.2 s hs
  obtain ⟨bt, bw, bc, bg⟩ := M.2.2.2 b hb
  obtain ⟨lk, -⟩ := L.2.2.2 l hl
  obtain ⟨F, hF⟩ : ∃ F : Nat → Int64, F = fun k => ([(mm_i h (am s) 0).toInt64, (mm_i h (am b) 0).toInt64, (mm_i h (al l) 0).toInt64, am9.toInt64, pr.toInt64, cr.toInt64, hr.toInt64, (nI q).toInt64, (if ¬ mm_i h (am s) 1 = 0 then (1 : Int64) else if mm_i h (am b) 1 = 0 then 0 else 1), (if elV h am nm ta tn (q / td) td tn 0 = nI s then (1 : Int64) else if ¬ elV h am nm ta tn (q / td) td tn 0 = nI b then 0 else 1), (nI (owS h B A U b 0 nb 0)).toInt64, (nI (owS h B A U b 1 nb 0)).toInt64, (if (if ¬ (if anyF (xShut h B (mm_i h (am s) 0) (nI q) (nI q)) np 0 = true then (1 : Int32) else 0) = 0 then (1 : Int32) else if (if anyF (xShut h B (mm_i h (am b) 0) (nI q) (nI q)) np 0 = true then (1 : Int32) else 0) = 0 then 0 else 1) = 0 then (0 : Int64) else 1), (prF h B nn 123 8 (mm_i h (al l) 0) (nI q)).toInt64] : List Int64).getD k 0 := ⟨_, rfl⟩
  have hX := x_judge S Sy M L R El ⟨p2, p1⟩ hs hb hl am9 pr cr hr hq hq9 F _ _ _ (prF h B nn 123 8 (mm_i h (al l) 0) (nI q)) rfl rfl rfl (fun g xg => by
    have Ng : RNe B g := Ne.up (ow := ow) (ms := [0]) (xg.up fun a k _ z => by subst z; exact wM_F (m := 0) (by omega) rfl (by decide)) (by decide) (by decide)
    have hg : ∀ j i, j < 147 → j ≠ 15 → mm_i g (B + j) i = mm_i h (B + j) i := fun j i hj hj2 => xg.i (by have := S.1; omega) (by omega)
    rw [x_lowPrice (xg.S S) Ng (by rw [hg 66 77 (by omega) (by omega)]; exact n3) n1, prF_cg (fun i => hg 121 i (by omega) (by omega)) (fun i => hg 122 i (by omega) (by omega)) (fun i => hg 125 i (by omega) (by omega)) (fun i => hg 123 i (by omega) (by omega))]) (by rw [hF]; rfl) (by rw [hF]; rfl) (by rw [hF]; rfl) (by rw [hF]; rfl) (by rw [hF]; rfl) (by rw [hF]; rfl) (by rw [hF]; rfl) (by rw [hF]; rfl) (by rw [hF]; rfl) (by rw [hF]; rfl) (by rw [hF]; rfl) (by rw [hF]; rfl) (by rw [hF]; rfl) (by rw [hF]; rfl)
  have hsh : ∀ m, m < nm → ∀ g : mm_H, mX B (fun a _ => a = B + 91) hy g → fX12_isShutTo (B + 66) (nI m) g = some (if anyF (xShut h B (mm_i h (am m) 0) (nI q) (nI q)) np 0 = true then 1 else 0, g) := by
    intro m hm g xg
    have Sg := xg.S Sy
    have hm9 := M.1
    have hqm := fun (β : Type) (z : Option β) => q_ckx (show m < 40 by omega) (by decide) z
    have hcm := nI_clamp (n := m) (by omega)
    have hg : ∀ j i, j < 147 → j ≠ 91 → mm_i g (B + j) i = mm_i hy (B + j) i := fun j i hj hj2 => xg.i (by have := Sy.1; omega) (by omega)
    have tt := (M.2.2.2 m hm).1
    have w67 : mm_i g (B + 67) m = mm_i h (am m) 0 := (hg 67 m (by omega) (by omega)).trans tt.1
    have w1 : mm_i g (B + 66) 1 = nI q := (hg 66 1 (by omega) (by omega)).trans hq'
    have w38 : mm_i g (B + 66) 38 = nI np := by rw [hg 66 38 (by omega) (by omega), y.iF (m := 111) (by omega) rfl m1]; exact p3
    have hys : anyF (yShut g B (mm_i h (am m) 0) (nI q) (nI q)) np 0 = anyF (xShut h B (mm_i h (am m) 0) (nI q) (nI q)) np 0 := by
      rw [← xy_shut Po _ _ (show nI q ≤ 3999 from nI_le (b := 3999) hq9 (by omega)) p3 p1]
      refine anyF_congr fun j _ _ => ?_
      unfold yShut
      rw [hg 92 j (by omega) (by omega), hg 93 j (by omega) (by omega), hg 94 j (by omega) (by omega), hg 95 j (by omega) (by omega), y.iF (j := 92) (m := 111) (by omega) rfl m1, y.iF (j := 93) (m := 111) (by omega) rfl m1, y.iF (j := 94) (m := 111) (by omega) rfl m1, y.iF (j := 95) (m := 111) (by omega) rfl m1]
    have hsu := y_shuts Sg w38 p1 (mm_i h (am m) 0) (nI q) (nI q)
    rw [hys] at hsu
    unfold fX12_isShutTo
    by_cases c8 : (8 : Int32) ≤ mm_i h (am m) 0
    · have e8 : mm_i h (am m) 0 = 8 := Int32.le_antisymm tt.2.2 c8
      have e0 : anyF (xShut h B (mm_i h (am m) 0) (nI q) (nI q)) np 0 = false := by rw [e8]; exact x_closed8 Pt _ _ _
      rw [e0]
      simp only [q_rf, q_lt, q_cl, q_jn, q_b, q_b1, q_ck, kd_I, kd_J, kd_R, n_I, n_J, n_R, r_I, r_J, c_I, c_J, c_R, i_J, i_R, j_I, j_R, y_in, y_isDay, x_within, x_isDay, x_isTown, sb_ymen Sg, hqm, hcm, w67, c8, if_true, Bool.false_eq_true, if_false]
    · simp only [q_rf, q_lt, q_cl, q_jn, q_b, q_b1, q_ck, kd_I, kd_J, kd_R, n_I, n_J, n_R, r_I, r_J, c_I, c_J, c_R, i_J, i_R, j_I, j_R, y_in, y_isDay, x_within, x_isDay, x_isTown, sb_ymen Sg, hqm, hcm, w67, c8, w1, hsu, if_false]
      by_cases c9 : anyF (xShut h B (mm_i h (am m) 0) (nI q) (nI q)) np 0 = true
      · simp only [c9, not_true, if_false, if_true]
      · simp only [c9, Bool.false_eq_true, not_false_iff, if_false, if_true]
  have hY := y_weighs S Sy M L R El hs hb hl am9 pr cr hr hq hq' hq9 F _ _ _ (prF h B nn 123 8 (mm_i h (al l) 0) (nI q)) rfl (hsh s hs) (hsh b hb) (fun g xg => by
    have Sg := xg.S Sy
    have hg : ∀ j i, j < 147 → j ≠ 91 → mm_i g (B + j) i = mm_i hy (B + j) i := fun j i hj hj2 => xg.i (by have := Sy.1; omega) (by omega)
    have hh : ∀ j i, j < 147 → j ≠ 91 → mdo j i = 112 → mm_i g (B + j) i = mm_i h (B + j) i := fun j i hj hj2 e => (hg j i hj hj2).trans (y.iF (m := 112) hj e m2)
    have := y_price Sg (n := nn) (by rw [hh 66 77 (by omega) (by omega) rfl]; exact n3) n1 (t := 8) (g := mm_i hy (B + 74) l) (d := nI q) (w := 0) (by decide) (by rw [lk.1]; exact lk.2) ⟨nI_pos' (by omega), nI_le (b := 3999) hq9 (by omega)⟩ (by decide)
    rw [this, if_pos rfl, lk.1, prF_cg (fun i => hh 121 i (by omega) (by omega) rfl) (fun i => hh 122 i (by omega) (by omega) rfl) (fun i => hh 125 i (by omega) (by omega) rfl) (fun i => hh 123 i (by omega) (by omega) rfl)]) (by rw [hF, mt.1]; rfl) (by rw [hF, bt.1]; rfl) (by rw [hF, lk.1]; rfl) (by rw [hF]; rfl) (by rw [hF]; rfl) (by rw [hF]; rfl) (by rw [hF]; rfl) (by rw [hF]; rfl) (by
      rw [hF, mw.2, bw.2]
      show _ = (if ¬ mm_i h (am s) 1 = 0 then (1 : Int64) else if mm_i h (am b) 1 = 0 then 0 else 1)
      by_cases c1 : mm_i h (am s) 1 = 0 <;> by_cases c2 : mm_i h (am b) 1 = 0 <;> simp [c1, c2]) (by
      rw [hF]
      show _ = (if elV h am nm ta tn (q / td) td tn 0 = nI s then (1 : Int64) else if ¬ elV h am nm ta tn (q / td) td tn 0 = nI b then 0 else 1)
      by_cases c1 : elV h am nm ta tn (q / td) td tn 0 = nI s <;> by_cases c2 : elV h am nm ta tn (q / td) td tn 0 = nI b <;> simp [c1, c2]) (by rw [hF]; rfl) (by rw [hF]; rfl) (by rw [hF]; rfl) (by rw [hF]; rfl)
  -- the verdict
  have X15 : mX B (fun a _ => a = B + 15) h (jS h (B + 15) F 14) := jS_X S.1 14
  have X0 : ∀ o : Nat → Nat × Nat, mY B o [0] h (jS h (B + 15) F 14) := fun o => X15.up fun a j _ z => by
    subst z; exact wM_F (m := 0) (by omega) rfl (by decide)
  have Y91 : mX B (fun a _ => a = B + 91) hy (jS hy (B + 91) F 14) := jS_X Sy.1 14
  have Y0 : ∀ o : Nat → Nat × Nat, mY B o [100, 110] hy (mm_setI (mm_setI (jS hy (B + 91) F 14) (B + 66) 59 (-1)) (B + 66) 60 (-1)) := fun o => ((Y91.up fun a j _ z => by
    subst z; exact wM_F (m := 100) (by omega) rfl (by decide)).IF (m := 110) (by omega) rfl (by decide)).IF (m := 110) (by omega) rfl (by decide)
  have Sx2 := X15.S S
  have Sy2 := (Y0 ow).S Sy
  have Lw2 := Lw.up (X0 ow) mO.rf (Y0 ow) (by decide) (by decide)
  have hn2 : mm_i (mm_setI (mm_setI (jS hy (B + 91) F 14) (B + 66) 59 (-1)) (B + 66) 60 (-1)) (B + 66) 1 = nI q := by
    rw [(Y0 ow).iF (m := 101) (by omega) rfl (by decide)]; exact hq'
  obtain ⟨r, h1, hy1, u1, u2, u3, u4, u5⟩ := J_decide (now := nI q) Sx2 Sy2 Lw2 (fun t ht => by
    rw [jS_j 14 t ht]
    show _ = mm_j (jS hy (B + 91) F 14) (B + 91) t
    rw [jS_j 14 t ht]) hn2 (by simp only [i_I, q_10, q_01, eq_self, i_I, Nat.reduceEqDiff, Nat.add_left_cancel_iff, Nat.add_eq_left, Nat.left_eq_add, and_false, false_and, and_true, true_and, if_true, if_false, and_self, not_true, not_false_iff, reduceCtorEq]) (by simp only [i_I, q_10, q_01, eq_self, i_I, Nat.reduceEqDiff, Nat.add_left_cancel_iff, Nat.add_eq_left, Nat.left_eq_add, and_false, false_and, and_true, true_and, if_true, if_false, and_self, not_true, not_false_iff, reduceCtorEq])
  refine ⟨r, h1, hy1, ?_, ?_, fun o => (wM_le (X0 o) (by simp)).tr (u3 o), fun o => (Y0 o).tr (u4 o), u5⟩
  · rw [hX, u1, q_cl]
  · rw [hY, u2]
end JJ
