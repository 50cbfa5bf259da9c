/-! law, in the law's order -/
section LA
variable {B : Nat} {h : mm_H} {ow : Nat → Nat × Nat} {n : Nat} {V Z G E : Nat → Nat → Nat}
theorem T_law (S : mS B h) (M : mT h) (N : RNow B h) (T : RTp B h h) (R : RLw B ow h h n V Z G E) (h12 : mm_i h (B + 12) 0 = 0) (a b : Int32) : ∃ r h1 h2 ow2 n2 V2 Z2 G2 E2, fX11_law B a b h = some (r, h1) ∧ fX12_law (B + 66) a b h1 = some (r, h2) ∧ mY B ow [0, 8, 9, 100, 108, 109, 131] h h2 ∧ mO ow ow2 h ∧ RLw B ow2 h2 h2 n2 V2 Z2 G2 E2 ∧ RTp B h2 h2 ∧ mm_i h2 (B + 12) 0 = 0 := by
  obtain ⟨r, h1, k1, k2, k3, k4, k5, k6, k7, p1, -, p3, -⟩ := J_law S S M M T R N.1 N.2.1 h12 a b
  have S1 := p3.S S
  have rf : mY B ow [] h h := mX.rf S.1
  obtain ⟨r', h1', h2, ow2, n2, V2, Z2, G2, E2, q1, q2, q3, q4, q5, q6, q7, q8⟩ := J_law S S1 M (M.up p3) (T.up rf p3 (by decide) (by decide)) (R.up rf mO.rf p3 (by decide) (by decide)) ((p3.iF (j := 66) (m := 101) (by omega) rfl (by decide)).trans N.1) N.2.1 h12 a b
  obtain ⟨e1, e2⟩ := Prod.mk.inj (Option.some.inj (p1.symm.trans q1))
  subst e1
  subst e2
  have rf2 : ∀ o, mY B o [] h2 h2 := fun o => mX.rf ((q4 o).S S1).1
  refine ⟨r, h1, h2, ow2, n2, V2, Z2, G2, E2, q1, q2, (wM_le q3 (by decide)).tr (wM_le (q4 ow) (by decide)), q5, q6.up (q4 ow2) mO.rf (rf2 ow2) (by decide) (by decide), q7.up (q4 ow) (rf2 ow) (by decide) (by decide), ?_⟩
  rw [(q4 ow).iF (j := 12) (k := 0) (m := 8) (by omega) rfl (by decide)]; exact q8
end LA
