/-! the facts of a deal: the reference -/
section JF
variable {B : Nat} {h hx hy hx' hy' : mm_H} {ow ow' : Nat → Nat × Nat} {n nm nl nb td tn ta np : Nat} {am al : Nat → Nat} {A U : Nat → Nat → Nat} {T : Nat → Int32}
theorem y_truth (v : Int32) : fX12_truth v h = some (if v = 0 then 0 else 1, h) := by
  unfold fX12_truth
  by_cases c : v = 0 <;> simp [c]
theorem y_weighs (S : mS B hx) (Sy : mS B hy) (M : RMn B ow hx hy nm am) (L : RLt B ow hx hy nm nl al) (R : RBg B ow hx hy nm nb A U T) (El : REl B ow hx hy tn td ta) {s b l : Nat} (hs : s < nm) (hb : b < nm) (hl : l < nl) (am9 pr cr hr : Int32) {q : Nat} (hq : mm_i hx B 11 = nI q) (hq' : mm_i hy (B + 66) 1 = nI q) (hq9 : q ≤ 3999) (F : Nat → Int64) (ev c1 c2 pv : Int32)
    (hev : ev = elV hx am nm ta tn (q / td) td tn 0)
    (hc1 : ∀ g : mm_H, mX B (fun a _ => a = B + 91) hy g → fX12_isShutTo (B + 66) (nI s) g = some (c1, g)) (hc2 : ∀ g : mm_H, mX B (fun a _ => a = B + 91) hy g → fX12_isShutTo (B + 66) (nI b) g = some (c2, g))
    (hpv : ∀ g : mm_H, mX B (fun a _ => a = B + 91) hy g → fX12_price (B + 66) 8 (mm_i hy (B + 74) l) (nI q) 0 g = some (pv, g))
    (f0 : (mm_i hy (B + 67) s).toInt64 = F 0) (f1 : (mm_i hy (B + 67) b).toInt64 = F 1) (f2 : (mm_i hy (B + 74) l).toInt64 = F 2) (f3 : am9.toInt64 = F 3) (f4 : pr.toInt64 = F 4) (f5 : cr.toInt64 = F 5) (f6 : hr.toInt64 = F 6) (f7 : (nI q).toInt64 = F 7)
    (f8 : (if (if ¬ mm_i hy (B + 73) s = 0 then (1 : Int32) else if mm_i hy (B + 73) b = 0 then 0 else 1) = 0 then (0 : Int64) else 1) = F 8) (f9 : (if (if ev = nI s then (1 : Int32) else if ¬ ev = nI b then 0 else 1) = 0 then (0 : Int64) else 1) = F 9) (f10 : (nI (owS hx B A U b 0 nb 0)).toInt64 = F 10) (f11 : (nI (owS hx B A U b 1 nb 0)).toInt64 = F 11)
    (f12 : (if (if ¬ c1 = 0 then (1 : Int32) else if c2 = 0 then 0 else 1) = 0 then (0 : Int64) else 1) = F 12) (f13 : pv.toInt64 = F 13) : fX12_weighs (B + 66) (nI s) (nI b) (nI l) am9 pr cr hr hy = fX12_weighs_L255 (B + 66) (fun g137 => some ((0 : Int32), g137)) mm_F 2 (mm_setI (mm_setI (jS hy (B + 91) F 14) (B + 66) 59 (-1)) (B + 66) 60 (-1)) := by
  have hB := Sy.1
  have hm9 := M.1
  have hl9 := L.1
  have hel := y_elder Sy M (by rw [hq]; exact nI_le (b := 3999) hq9 (by omega)) El hq9
  rw [← hev] at hel
  have hqs := fun (β : Type) (z : Option β) => q_ckx (show s < 40 by omega) (by decide) z
  have hqb := fun (β : Type) (z : Option β) => q_ckx (show b < 40 by omega) (by decide) z
  have hql := fun (β : Type) (z : Option β) => q_ckx (show l < 200 by omega) (by decide) z
  have hcs := nI_clamp (n := s) (by omega)
  have hcb := nI_clamp (n := b) (by omega)
  have hcl := nI_clamp (n := l) (by omega)
  have X15 : ∀ k, mX B (fun a _ => a = B + 91) hy (jS hy (B + 91) F k) := fun k => jS_X hB k
  have X0 : ∀ k, mY B ow [100] hy (jS hy (B + 91) F k) := fun k => (X15 k).up fun a j _ z => by
    subst z; exact wM_F (m := 100) (by omega) rfl (by decide)
  have ho : ∀ (k : Nat) (lt : Int32), fX12_owes (B + 66) (nI b) lt (jS hy (B + 91) F k) = some (nI (owS hx B A U b lt nb 0), jS hy (B + 91) F k) := fun k lt => by
    have Rk := R.up (ms := []) (mX.rf S.1) mO.rf (X0 k) (by decide) (by decide) (by decide)
    exact y_owes ((X15 k).S Sy) Rk (by rw [jS_i, hq', hq]) hm9 (by omega) lt
  have hs1 := hc1 _ (X15 12)
  have hs2 := hc2 _ (X15 12)
  have hp := hpv _ (X15 13)
  have s0 : mm_setJ hy (B + 91) 0 (F 0) = jS hy (B + 91) F 1 := Eq.trans rfl rfl
  have s1 : mm_setJ (jS hy (B + 91) F 1) (B + 91) 1 (F 1) = jS hy (B + 91) F 2 := Eq.trans rfl rfl
  have s2 : mm_setJ (jS hy (B + 91) F 2) (B + 91) 2 (F 2) = jS hy (B + 91) F 3 := Eq.trans rfl rfl
  have s3 : mm_setJ (jS hy (B + 91) F 3) (B + 91) 3 (F 3) = jS hy (B + 91) F 4 := Eq.trans rfl rfl
  have s4 : mm_setJ (jS hy (B + 91) F 4) (B + 91) 4 (F 4) = jS hy (B + 91) F 5 := Eq.trans rfl rfl
  have s5 : mm_setJ (jS hy (B + 91) F 5) (B + 91) 5 (F 5) = jS hy (B + 91) F 6 := Eq.trans rfl rfl
  have s6 : mm_setJ (jS hy (B + 91) F 6) (B + 91) 6 (F 6) = jS hy (B + 91) F 7 := Eq.trans rfl rfl
  have s7 : mm_setJ (jS hy (B + 91) F 7) (B + 91) 7 (F 7) = jS hy (B + 91) F 8 := Eq.trans rfl rfl
  have s8 : mm_setJ (jS hy (B + 91) F 8) (B + 91) 8 (F 8) = jS hy (B + 91) F 9 := Eq.trans rfl rfl
  have s9 : mm_setJ (jS hy (B + 91) F 9) (B + 91) 9 (F 9) = jS hy (B + 91) F 10 := Eq.trans rfl rfl
  have s10 : mm_setJ (jS hy (B + 91) F 10) (B + 91) 10 (F 10) = jS hy (B + 91) F 11 := Eq.trans rfl rfl
  have s11 : mm_setJ (jS hy (B + 91) F 11) (B + 91) 11 (F 11) = jS hy (B + 91) F 12 := Eq.trans rfl rfl
  have s12 : mm_setJ (jS hy (B + 91) F 12) (B + 91) 12 (F 12) = jS hy (B + 91) F 13 := Eq.trans rfl rfl
  have s13 : mm_setJ (jS hy (B + 91) F 13) (B + 91) 13 (F 13) = jS hy (B + 91) F 14 := Eq.trans rfl rfl
  have z0 : (0 : Int32).toNatClampNeg = 0 := by decide +kernel
  have i0 : mm_ix (0 : Int32) 14 := by decide +kernel
  have z1 : (1 : Int32).toNatClampNeg = 1 := by decide +kernel
  have i1 : mm_ix (1 : Int32) 14 := by decide +kernel
  have z2 : (2 : Int32).toNatClampNeg = 2 := by decide +kernel
  have i2 : mm_ix (2 : Int32) 14 := by decide +kernel
  have z3 : (3 : Int32).toNatClampNeg = 3 := by decide +kernel
  have i3 : mm_ix (3 : Int32) 14 := by decide +kernel
  have z4 : (4 : Int32).toNatClampNeg = 4 := by decide +kernel
  have i4 : mm_ix (4 : Int32) 14 := by decide +kernel
  have z5 : (5 : Int32).toNatClampNeg = 5 := by decide +kernel
  have i5 : mm_ix (5 : Int32) 14 := by decide +kernel
  have z6 : (6 : Int32).toNatClampNeg = 6 := by decide +kernel
  have i6 : mm_ix (6 : Int32) 14 := by decide +kernel
  have z7 : (7 : Int32).toNatClampNeg = 7 := by decide +kernel
  have i7 : mm_ix (7 : Int32) 14 := by decide +kernel
  have z8 : (8 : Int32).toNatClampNeg = 8 := by decide +kernel
  have i8 : mm_ix (8 : Int32) 14 := by decide +kernel
  have z9 : (9 : Int32).toNatClampNeg = 9 := by decide +kernel
  have i9 : mm_ix (9 : Int32) 14 := by decide +kernel
  have z10 : (10 : Int32).toNatClampNeg = 10 := by decide +kernel
  have i10 : mm_ix (10 : Int32) 14 := by decide +kernel
  have z11 : (11 : Int32).toNatClampNeg = 11 := by decide +kernel
  have i11 : mm_ix (11 : Int32) 14 := by decide +kernel
  have z12 : (12 : Int32).toNatClampNeg = 12 := by decide +kernel
  have i12 : mm_ix (12 : Int32) 14 := by decide +kernel
  have z13 : (13 : Int32).toNatClampNeg = 13 := by decide +kernel
  have i13 : mm_ix (13 : Int32) 14 := by decide +kernel
  unfold fX12_weighs
  simp only [p_lt, p_rf, p_cl, jn_or, jn_or2, jn_if, q_ck, sb_ymen Sy, sb_ylots Sy, sk91 Sy, sn91 Sy, sr66_37 Sy, hq', hel, hqs, hqb, hql, hcs, hcb, hcl, jS_i, jS_r, jS_kd, jS_n, s0, s1, s2, s3, s4, s5, s6, s7, s8, s9, s10, s11, s12, s13, z0, z1, z2, z3, z4, z5, z6, z7, z8, z9, z10, z11, z12, z13, y_truth, f0, f1, f2, f3, f4, f5, f6, f7, f8, f9, f10, f11, f12, f13, ho, hs1, hs2, hp]
  rw [q_ck i0, q_ck i1, q_ck i2, q_ck i3, q_ck i4, q_ck i5, q_ck i6, q_ck i7, q_ck i8, q_ck i9, q_ck i10, q_ck i11, q_ck i12, q_ck i13]
end JF
