/-! the first payment of a bargain: the class -/
section PN
variable {B : Nat} {h hx hy hx' hy' : mm_H} {ow ow' : Nat → Nat × Nat} {n nm nl nb nw td tn ta np : Nat} {am al : Nat → Nat} {A A' U V Z G E : Nat → Nat → Nat} {T : Nat → Int32} {P : Nat → Nat}
theorem x_payNew (S : mS B hx) (L : mL B ow hx (B + 1) 0 8 nm am) (hnm : nm ≤ 40) {a k s b o c : Nat} (La : Lv B ow hx 3 k a) (ka : mm_kd hx a = 1) (a0 : mm_i hx a 0 = nI s) (a1 : mm_i hx a 1 = nI b) (a6 : mm_i hx a 6 = nI o) (a8 : mm_i hx a 8 = nI s) (hs : s < nm) (hb : b < nm) (hsb : s ≠ b) (hco : c ≤ o) (hcb : c ≤ P b) (ho : o ≤ 1000000) (hP : ∀ j, j < nm → mm_i hx (am j) 3 = nI (P j) ∧ P j ≤ 100000000) (h12 : mm_j hx B 12 = 0) : fX11_payOwed B a (nI c) hx = some (nI c, mm_setJ (mm_setI (mm_setI (mm_setI hx (am b) 3 (nI (P b - c))) a 6 (nI (o - c))) (am s) 3 (nI (P s + c))) B 12 0) := by
  obtain ⟨Lb, kdb⟩ := L.2.2.2 _ hb
  obtain ⟨Ls, kds⟩ := L.2.2.2 _ hs
  have hB := S.1
  have hgb := x_get (sk1 S) L hb
  obtain ⟨pb, pb9⟩ := hP b hb
  obtain ⟨ps, ps9⟩ := hP s hs
  obtain ⟨h1, e1⟩ : ∃ h1, h1 = mm_setI hx (am b) 3 (nI (P b - c)) := ⟨_, rfl⟩
  obtain ⟨h2, e2⟩ : ∃ h2, h2 = mm_setI h1 a 6 (nI (o - c)) := ⟨_, rfl⟩
  have x1 : mY B ow [2] hx h1 := by rw [e1]; exact (mX.rf hB).IL (m := 2) Lb rfl (by decide)
  have S1 := x1.S S
  have x2 : mY B ow [27] h1 h2 := by rw [e2]; exact (mX.rf S1.1).IL (m := 27) La rfl (by decide)
  have S2 := x2.S S1
  have L1 : mL B ow h1 (B + 1) 0 8 nm am := L.up2 rfl (by omega) x1 mO.rf (m := 4) rfl rfl (fun _ => rfl) (by decide)
  have L2 : mL B ow h2 (B + 1) 0 8 nm am := L1.up2 rfl (by omega) x2 mO.rf (m := 4) rfl rfl (fun _ => rfl) (by decide)
  have hsp : fX7_spend (am b) (nI c) hx = some (nI c, h1) := by
    rw [x_spend kdb pb (by omega) (by omega), Nat.min_eq_left hcb, e1]
  have ka1 : mm_kd h1 a = 1 := (x1.kd La.2.1).trans ka
  have ka2 : mm_kd h2 a = 1 := (x2.kd (La.up x1 mO.rf).2.1).trans ka1
  have i6 : mm_i h1 a 6 = nI o := (x1.iL (m := 27) La rfl (by decide)).trans a6
  have i0 : mm_i h2 a 0 = nI s := by rw [x2.iL (m := 7) (La.up x1 mO.rf) rfl (by decide), x1.iL (m := 7) La rfl (by decide)]; exact a0
  have i8 : mm_i h2 a 8 = nI s := by rw [x2.iL (m := 28) (La.up x1 mO.rf) rfl (by decide), x1.iL (m := 28) La rfl (by decide)]; exact a8
  have is3 : mm_i h2 (am s) 3 = nI (P s) := by
    rw [x2.iL (m := 2) (Ls.up x1 mO.rf) rfl (by decide), e1, i_I_ne (am_ne L hs hb hsb)]; exact ps
  have j12 : mm_j h2 B 12 = 0 := by rw [e2, e1]; exact h12
  have hgs := x_get (sk1 S2) L2 hs
  have kds2 : mm_kd h2 (am s) = 8 := (L2.2.2.2 s hs).2
  have sub1 : nI o - nI c = nI (o - c) := nI_sub hco
  have hmin : (if nI o < nI c then nI o else nI c) = nI c := by rw [nI_min2 (by omega) (by omega), Nat.min_eq_left hco]
  have hne : ¬ nI s = -1 := nI_neg1 (by omega)
  have e3 : (2000000000 : Int32) - nI (P s) = nI (2000000000 - P s) := by
    rw [show (2000000000 : Int32) = nI 2000000000 by decide +kernel, nI_sub (by omega)]
  have e4 : ¬ nI (2000000000 - P s) < nI c := nI_nlt (by omega) (by omega)
  have e5 : nI c - nI c = 0 := Int32.sub_self _
  have e6 : (0 : Int64) + Int32.toInt64 0 = 0 := by decide +kernel
  have hgive : ∀ t, fX11_give B (nI s) t (nI c) h2 = some ((), mm_setJ (mm_setI h2 (am s) 3 (nI (P s + c))) B 12 0) := fun t => by
    unfold fX11_give fX7_receive
    simp only [q_rf, q_lt, q_cl, q_jn, q_b, q_b1, q_ck, kd_I, kd_J, kd_R, n_I, n_J, n_R, r_I, r_J, c_I, c_J, c_R, i_J, i_R, j_I, j_R, y_in, y_isDay, x_within, x_isDay, x_isTown, sb_xbase S2, hgs, kds2, is3, e3, e4, e5, e6, j12, hne, nI_add, not_false_iff, if_true, if_false]
  unfold fX11_payOwed
  simp only [q_rf, q_lt, q_cl, q_jn, q_b, q_b1, q_ck, kd_I, kd_J, kd_R, n_I, n_J, n_R, r_I, r_J, c_I, c_J, c_R, i_J, i_R, j_I, j_R, y_in, y_isDay, x_within, x_isDay, x_isTown, sb_xbase S, ka, a1, hgb, kdb, a6, hmin, hsp, ka1, i6, sub1, ← e2]
  simp only [q_rf, q_lt, q_cl, q_jn, q_b, q_b1, q_ck, kd_I, kd_J, kd_R, n_I, n_J, n_R, r_I, r_J, c_I, c_J, c_R, i_J, i_R, j_I, j_R, y_in, y_isDay, x_within, x_isDay, x_isTown, sb_xbase S1, sb_xbase S2, i0, hgs, kds2, i8, hgive]
  rw [e2, e1]
end PN
