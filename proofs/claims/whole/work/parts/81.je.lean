/-! the facts of a deal: the class -/
section JE
variable {B : Nat} {h hx hy hx' hy' : mm_H} {ow ow' : Nat → Nat × Nat} {n nm nl nb td tn ta np : Nat} {am al : Nat → Nat} {A U : Nat → Nat → Nat} {T : Nat → Int32}
theorem x_judge (S : mS B hx) (Sy : mS B hy) (M : RMn B ow hx hy nm am) (L : RLt B ow hx hy nm nl al) (R : RBg B ow hx hy nm nb A U T) (El : REl B ow hx hy tn td ta) (Po : mm_i hx (B + 23) 15 = nI np ∧ np ≤ 20) {s b l : Nat} (hs : s < nm) (hb : b < nm) (hl : l < nl) (am9 pr cr hr : Int32) {q : Nat} (hq : mm_i hx B 11 = nI q) (hq9 : q ≤ 3999) (F : Nat → Int64) (ev c1 c2 pv : Int32)
    (hev : ev = elV hx am nm ta tn (q / td) td tn 0) (hc1 : c1 = if anyF (xShut hx B (mm_i hx (am s) 0) (nI q) (nI q)) np 0 then 1 else 0) (hc2 : c2 = if anyF (xShut hx B (mm_i hx (am b) 0) (nI q) (nI q)) np 0 then 1 else 0)
    (hpv : ∀ g : mm_H, mX B (fun a _ => a = B + 15) hx g → fX10_lowPrice (B + 23) 8 (mm_i hx (al l) 0) (nI q) g = some (pv, g))
    (f0 : (mm_i hx (am s) 0).toInt64 = F 0) (f1 : (mm_i hx (am b) 0).toInt64 = F 1) (f2 : (mm_i hx (al l) 0).toInt64 = F 2) (f3 : am9.toInt64 = F 3) (f4 : pr.toInt64 = F 4) (f5 : cr.toInt64 = F 5) (f6 : hr.toInt64 = F 6) (f7 : (nI q).toInt64 = F 7)
    (f8 : (if ¬ mm_i hx (am s) 1 = 0 then (1 : Int64) else if mm_i hx (am b) 1 = 0 then 0 else 1) = F 8) (f9 : (if ev = nI s then (1 : Int64) else if ¬ ev = nI b then 0 else 1) = F 9) (f10 : (nI (owS hx B A U b 0 nb 0)).toInt64 = F 10) (f11 : (nI (owS hx B A U b 1 nb 0)).toInt64 = F 11)
    (f12 : (if (if ¬ c1 = 0 then (1 : Int32) else if c2 = 0 then 0 else 1) = 0 then (0 : Int64) else 1) = F 12) (f13 : pv.toInt64 = F 13) : fX11_judge B (nI s) (nI b) (nI l) am9 pr cr hr hx = mm_cl (fX2_decide (B + 13) (nI q) (jS hx (B + 15) F 14)) fun v g => some (v, g) := by
  have hB := S.1
  have hgs := x_get (sk1 S) M.2.1 hs
  have hgb := x_get (sk1 S) M.2.1 hb
  have hgl := x_get (sk2 S) L.2.1 hl
  have ks := (M.2.1.2.2.2 s hs).2
  have kb := (M.2.1.2.2.2 b hb).2
  have kl := (L.2.1.2.2.2 l hl).2
  have hel := x_elderOn S M.2.1 El hq9
  rw [← hev] at hel
  have hcl1 := x_closedBy S Po.1 Po.2 (mm_i hx (am s) 0) (nI q) (nI q)
  have hcl2 := x_closedBy S Po.1 Po.2 (mm_i hx (am b) 0) (nI q) (nI q)
  rw [← hc1] at hcl1
  rw [← hc2] at hcl2
  have hm9 := M.1
  have X15 : ∀ k, mX B (fun a _ => a = B + 15) hx (jS hx (B + 15) F k) := fun k => jS_X hB k
  have X0 : ∀ k, mY B ow [0] hx (jS hx (B + 15) F k) := fun k => (X15 k).up fun a j _ z => by
    subst z; exact wM_F (m := 0) (by omega) rfl (by decide)
  have ho : ∀ (k : Nat) (lt : Int32), fX11_owedBy B (nI b) lt (jS hx (B + 15) F k) = some (nI (owS hx B A U b lt nb 0), jS hx (B + 15) F k) := fun k lt => by
    have Rk := R.up (ms' := []) (X0 k) mO.rf (mX.rf (W := wM B ow []) Sy.1) (by decide) (by decide) (by decide)
    rw [x_owedBy ((X15 k).S S) Rk hm9 (by omega) lt, owS_i (jS_i k)]
  have hp := hpv _ (X15 13)
  have s0 : mm_setJ hx (B + 15) 0 (F 0) = jS hx (B + 15) F 1 := Eq.trans rfl rfl
  have s1 : mm_setJ (jS hx (B + 15) F 1) (B + 15) 1 (F 1) = jS hx (B + 15) F 2 := Eq.trans rfl rfl
  have s2 : mm_setJ (jS hx (B + 15) F 2) (B + 15) 2 (F 2) = jS hx (B + 15) F 3 := Eq.trans rfl rfl
  have s3 : mm_setJ (jS hx (B + 15) F 3) (B + 15) 3 (F 3) = jS hx (B + 15) F 4 := Eq.trans rfl rfl
  have s4 : mm_setJ (jS hx (B + 15) F 4) (B + 15) 4 (F 4) = jS hx (B + 15) F 5 := Eq.trans rfl rfl
  have s5 : mm_setJ (jS hx (B + 15) F 5) (B + 15) 5 (F 5) = jS hx (B + 15) F 6 := Eq.trans rfl rfl
  have s6 : mm_setJ (jS hx (B + 15) F 6) (B + 15) 6 (F 6) = jS hx (B + 15) F 7 := Eq.trans rfl rfl
  have s7 : mm_setJ (jS hx (B + 15) F 7) (B + 15) 7 (F 7) = jS hx (B + 15) F 8 := Eq.trans rfl rfl
  have s8 : mm_setJ (jS hx (B + 15) F 8) (B + 15) 8 (F 8) = jS hx (B + 15) F 9 := Eq.trans rfl rfl
  have s9 : mm_setJ (jS hx (B + 15) F 9) (B + 15) 9 (F 9) = jS hx (B + 15) F 10 := Eq.trans rfl rfl
  have s10 : mm_setJ (jS hx (B + 15) F 10) (B + 15) 10 (F 10) = jS hx (B + 15) F 11 := Eq.trans rfl rfl
  have s11 : mm_setJ (jS hx (B + 15) F 11) (B + 15) 11 (F 11) = jS hx (B + 15) F 12 := Eq.trans rfl rfl
  have s12 : mm_setJ (jS hx (B + 15) F 12) (B + 15) 12 (F 12) = jS hx (B + 15) F 13 := Eq.trans rfl rfl
  have s13 : mm_setJ (jS hx (B + 15) F 13) (B + 15) 13 (F 13) = jS hx (B + 15) F 14 := Eq.trans rfl rfl
  have z0 : (0 : Int32).toNatClampNeg = 0 := by decide +kernel
  have i0 : mm_ix (0 : Int32) 14 := by decide +kernel
  have z1 : (1 : Int32).toNatClampNeg = 1 := by decide +kernel
  have i1 : mm_ix (1 : Int32) 14 := by decide +kernel
  have z2 : (2 : Int32).toNatClampNeg = 2 := by decide +kernel
  have i2 : mm_ix (2 : Int32) 14 := by decide +kernel
  have z3 : (3 : Int32).toNatClampNeg = 3 := by decide +kernel
  have i3 : mm_ix (3 : Int32) 14 := by decide +kernel
  have z4 : (4 : Int32).toNatClampNeg = 4 := by decide +kernel
  have i4 : mm_ix (4 : Int32) 14 := by decide +kernel
  have z5 : (5 : Int32).toNatClampNeg = 5 := by decide +kernel
  have i5 : mm_ix (5 : Int32) 14 := by decide +kernel
  have z6 : (6 : Int32).toNatClampNeg = 6 := by decide +kernel
  have i6 : mm_ix (6 : Int32) 14 := by decide +kernel
  have z7 : (7 : Int32).toNatClampNeg = 7 := by decide +kernel
  have i7 : mm_ix (7 : Int32) 14 := by decide +kernel
  have z8 : (8 : Int32).toNatClampNeg = 8 := by decide +kernel
  have i8 : mm_ix (8 : Int32) 14 := by decide +kernel
  have z9 : (9 : Int32).toNatClampNeg = 9 := by decide +kernel
  have i9 : mm_ix (9 : Int32) 14 := by decide +kernel
  have z10 : (10 : Int32).toNatClampNeg = 10 := by decide +kernel
  have i10 : mm_ix (10 : Int32) 14 := by decide +kernel
  have z11 : (11 : Int32).toNatClampNeg = 11 := by decide +kernel
  have i11 : mm_ix (11 : Int32) 14 := by decide +kernel
  have z12 : (12 : Int32).toNatClampNeg = 12 := by decide +kernel
  have i12 : mm_ix (12 : Int32) 14 := by decide +kernel
  have z13 : (13 : Int32).toNatClampNeg = 13 := by decide +kernel
  have i13 : mm_ix (13 : Int32) 14 := by decide +kernel
  unfold fX11_judge

  simp only [p_lt, p_rf, p_cl, jn_or, jn_or2, jn_if, q_ck, sb_xbase S, sb_xcourt S, sk23 S, sr0_7 S, hgs, hgb, hgl, ks, kb, kl, hq, hel, hcl1, hcl2, jS_i, jS_r, jS_kd, jS_n, s0, s1, s2, s3, s4, s5, s6, s7, s8, s9, s10, s11, s12, s13, z0, i0, z1, i1, z2, i2, z3, i3, z4, i4, z5, i5, z6, i6, z7, i7, z8, i8, z9, i9, z10, i10, z11, i11, z12, i12, z13, i13, f0, f1, f2, f3, f4, f5, f6, f7, f8, f9, f10, f11, f12, f13, ho, hp]
  rw [q_ck i0, q_ck i1, q_ck i2, q_ck i3, q_ck i4, q_ck i5, q_ck i6, q_ck i7, q_ck i8, q_ck i9, q_ck i10, q_ck i11, q_ck i12, q_ck i13]
end JE
