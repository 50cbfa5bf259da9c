/-! a fine: the class -/
section PF
variable {B : Nat} {h hx hy hx' hy' : mm_H} {ow ow' : Nat → Nat × Nat} {n nm nl nb nw td tn ta np : Nat} {am al : Nat → Nat} {A A' U V Z G E : Nat → Nat → Nat} {T : Nat → Int32} {P C : Nat → Nat}
theorem x_payFine (S : mS B hx) (L : mL B ow hx (B + 1) 0 8 nm am) {s f t : Nat} (hs : s < nm) (hf : f < 2 ^ 31) (ps : mm_i hx (am s) 3 = nI (P s)) (ps9 : P s ≤ 100000000) (ht : mm_i hx (am s) 0 = nI t) (ht8 : t ≤ 8) (c9 : mm_i hx (B + 4) 9 = nI (C 9)) (ct : mm_i hx (B + 4) t = nI (C t)) : fX11_payFine B (am s) (nI f) hx = some (nI (min f (P s)), mm_setI (mm_setI (mm_setI hx (am s) 3 (nI (P s - min f (P s)))) (B + 4) 9 (nI (C 9 + (min f (P s) + 1) / 2))) (B + 4) t (nI (C t + min f (P s) / 2))) := by
  obtain ⟨Ls, kds⟩ := L.2.2.2 _ hs
  have hB := S.1
  have hn3 := L.1
  obtain ⟨p, hp⟩ : ∃ p, p = min f (P s) := ⟨_, rfl⟩
  have hsp := x_spend kds ps (show P s < 2 ^ 31 by omega) hf
  rw [← hp] at hsp ⊢
  have p9 : p ≤ 100000000 := by omega
  obtain ⟨h1, e1⟩ : ∃ h1, h1 = mm_setI hx (am s) 3 (nI (P s - p)) := ⟨_, rfl⟩
  rw [← e1] at hsp ⊢
  have x1 : mY B ow [2] hx h1 := by rw [e1]; exact (mX.rf hB).IL (m := 2) Ls rfl (by decide)
  have S1 := x1.S S
  obtain ⟨h2, e2⟩ : ∃ h2, h2 = mm_setI h1 (B + 4) 9 (nI (C 9 + (p + 1) / 2)) := ⟨_, rfl⟩
  rw [← e2]
  have x2 : mY B ow [2] h1 h2 := by rw [e2]; exact (mX.rf S1.1).IF (m := 2) (by omega) rfl (by decide)
  have S2 := x2.S S1
  have kd1 : mm_kd h1 (am s) = 8 := (x1.kd Ls.2.1).trans kds
  have kd2 : mm_kd h2 (am s) = 8 := (x2.kd (Ls.up x1 mO.rf).2.1).trans kd1
  have i9 : mm_i h1 (B + 4) 9 = nI (C 9) := by rw [e1, i_I_ne (by have := Ls.1; omega)]; exact c9
  have it : mm_i h2 (B + 4) t = nI (C t) := by rw [e2, i_I, if_neg (fun z => by omega), e1, i_I_ne (by have := Ls.1; omega)]; exact ct
  have i0 : mm_i h2 (am s) 0 = nI t := by rw [x2.iL (m := 4) (Ls.up x1 mO.rf) rfl (by decide), x1.iL (m := 4) Ls rfl (by decide)]; exact ht
  have d2 : (nI p + 1) / 2 = nI ((p + 1) / 2) := by
    rw [nI_1, show (2 : Int32) = nI 2 by decide +kernel, nI_div (by omega) (by omega)]
  have d3 : nI p - nI ((p + 1) / 2) = nI (p / 2) := by
    rw [nI_sub (by omega)]
    congr 1; omega
  have z9 : (9 : Int32).toNatClampNeg = 9 := by decide
  have q9 : mm_ix (9 : Int32) 10 := by decide +kernel
  have hqt := fun (β : Type) (z : Option β) => q_ckx (show t < 10 by omega) (by decide) z
  have hct := nI_clamp (n := t) (by omega)
  have hq9 := fun (β : Type) (z : Option β) => q_ck (k := z) q9
  unfold fX11_payFine
  rw [q_ck kds, hsp, q_cl, d2, q_lt, q_ck (sk0 S1), sr0_3 S1, q_rf, q_ck (sk4 S1), sn4 S1, hq9, hq9, z9, i9, nI_add, ← e2, q_lt, q_ck kd2, sr0_3 S2, q_rf, q_ck (sk4 S2), sn4 S2, i0, hqt, hqt, hct, it, d3, nI_add, q_lt]
end PF
