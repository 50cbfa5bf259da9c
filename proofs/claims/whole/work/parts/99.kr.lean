/-! a clause alike, the whole -/
def clA (B : Nat) (t : Nat → Int32) (n m : Nat) (rx : Option (Int32 × mm_H)) (ry : Option (Unit × mm_H)) (hx hy : mm_H) (L i : Nat) (g : List (List (Nat × Nat))) : Prop := ∃ hx' hy' i' c' sg, rx = some (1, hx') ∧ ry = some ((), hy') ∧ mX B (wC B) hx hx' ∧ mX B (wQy B L) hy hy' ∧ JC B hx' hy' t n m L i' c' (sg :: g) ∧ mm_i hy' (B + 66) 18 = nI (plF t n i') ∧ (tkF t n (plF t n i') = 35 ∨ tkF t n (plF t n i') = 26)
section KU
variable {B : Nat} {h h' g7 hx hy hx' hy' : mm_H} {t : Nat → Int32} {n m L i j c cl p : Nat} {cs : List (Nat × Nat)} {g : List (List (Nat × Nat))}
theorem J_fin (J : JC B hx hy t n m L i c g) (hcl : g.length < 10) {g17 : mm_H} (X : xS B g17 t n m j c g.flatten) (hij : i < j) (x : mX B (wC B) hx g17) (h13 : mm_i g17 (B + 5) 13 = nI g.length) (k12 : ∀ k, mm_i g17 (B + 12) k = mm_i hx (B + 12) k) (k11 : ∀ k, k < g.length → mm_i g17 (B + 11) k = mm_i hx (B + 11) k) {w : Int32} (hw : mm_i g17 (B + 11) g.length = w) (hv : fX12_verb (B + 66) hy = some (w, g7)) (y : mX B (wV B) hy g7) (Y7 : yV B g7 t n L p 0) (e7 : skF t n p = plF t n j) : clA B t n m (xTl B g17) (fX12_clause (B + 66) hy) hx hy L i g ∨ clB B t n m (xTl B g17) (fX12_clause (B + 66) hy) hx hy L ∨ clC B (xTl B g17) (fX12_clause (B + 66) hy) hx hy L := by
  obtain ⟨⟨X0, a13, a10⟩, ⟨p0, Y0, e0⟩, ⟨a22, hc⟩, a33, acd, a83, acl, aok, alen⟩ := J
  have S := Y0.1.2.2.1
  have hL := Y0.1.2.2.2
  obtain ⟨Z1, Z2⟩ := z_clause1 (c := c) (cs := g.flatten) S hL a83 hcl hv y Y7 e7
  have hjm := X.2.1.2
  have hpl : tkF t n (plF t n j) = 17 → ∀ k, k < j + 1 → plF t n k < n := fun z k hk => X.1.2.2.2.2.2.1 k (by have := X.lt (by omega); omega)
  have rr := J_tail (ry := fX12_clause (B + 66) hy) (hy := hy) (L := L) (P := fun h' r' => (r'.1 = 4 → r'.2.2.2.2.2 = 0 → mm_i h' (B + 66) 18 = nI (plF t n r'.2.1)) ∧ mm_i h' (B + 84) (10 * L + g.length) = w ∧ mm_i h' (B + 85) (10 * L + g.length) = nI g.flatten.length ∧ mm_i h' (B + 86) (10 * L + g.length) = nI r'.2.2.2.2.1.length ∧ mm_i h' (B + 83) L = nI (g.length + 1) ∧ ∀ k, k < g.length → mm_i h' (B + 84) (10 * L + k) = mm_i hy (B + 84) (10 * L + k) ∧ mm_i h' (B + 85) (10 * L + k) = mm_i hy (B + 85) (10 * L + k) ∧ mm_i h' (B + 86) (10 * L + k) = mm_i hy (B + 86) (10 * L + k)) X hc h13 hcl (by omega) Z1 (fun z r' hr => Z2 z a22 a33 acd (by omega) (hpl z) hc r' hr)
  rcases rr with ⟨hx', hy', i', c', new, r1, r2, r3, r4, X', r5, r6, r7, r8, r9, r10, r11, r12, ⟨s1, s2, s3, s4, s5, s6⟩, r14⟩ | ⟨hx', hy', i', c', cs', r1, r2, r3, r4⟩ | ⟨hx', hy', f, r1, r2, r3, r4⟩
  · obtain ⟨⟨p', Y', e'⟩, -⟩ := r12
    refine Or.inl ⟨hx', hy', i', c', new, r1, r2, x.tr r3, r4, ⟨⟨X', r6, by rw [List.length_cons]; omega⟩, ⟨p', ⟨Y'.1, Y'.2.1, Y'.2.2.1⟩, e'⟩, ⟨Y'.2.2.2.2.1, r5⟩, Y'.2.2.2.2.2.1, Y'.2.2.2.2.2.2.2.2.1, s5, ⟨⟨?_, r7, s3, s4, ?_⟩, clD_cg (fun k hk => ⟨⟨?_, ?_⟩, s6 k hk⟩) acl⟩, fun x hx => ?_, r11⟩, s1 rfl rfl, r14⟩
    · rw [s2, r9]; exact hw.symm
    · have := r10.1 [] [] rfl (Nat.zero_le _)
      rwa [List.append_nil] at this
    · rw [r9, k11 k hk]
    · rw [r8 _ (by omega), k12]
    · have hx2 : x ∈ new ++ g.flatten := hx
      rcases List.mem_append.mp hx2 with z | z
      · exact r10.2.1 x z
      · exact aok x z
  · exact Or.inr (Or.inl ⟨hx', hy', i', c', cs', r1, r2, x.tr r3, r4⟩)
  · exact Or.inr (Or.inr ⟨hx', hy', f, r1, r2, x.tr r3, r4⟩)
theorem J_clause (J : JC B hx hy t n m L i c g) : clA B t n m (fX5_readClause (B + 5) hx) (fX12_clause (B + 66) hy) hx hy L i g ∨ clB B t n m (fX5_readClause (B + 5) hx) (fX12_clause (B + 66) hy) hx hy L ∨ clC B (fX5_readClause (B + 5) hx) (fX12_clause (B + 66) hy) hx hy L := by
  obtain ⟨⟨X, a13, a10⟩, ⟨p0, Y0, e0⟩, ⟨a22, hc⟩, a33, acd, a83, acl, aok, alen⟩ := id J
  have Sy := Y0.1.2.2.1
  have hL := Y0.1.2.2.2
  have S := X.1.1
  have hm9 := X.1.2.2.2.1
  have him := X.2.1.2
  have hk := tk_b (t := t) (n := n) (p := plF t n i)
  have hq := fun (β : Type) (z : Option β) => q_ckx (show i < 401 by omega) (by decide) z
  have hci := nI_clamp (n := i) (by omega)
  have htok := (X.1.2.1 i (by omega)).1
  obtain ⟨V1, V2, V3, V4, V5⟩ := z_verb Y0 e0 a83 a10
  unfold fX5_readClause
  rw [q_ck (sk5 S), sr5_2 S, p_rf, q_ck (sk7 S), X.2.1.1, sn7 S, hq]
  simp only [hci]
  rw [htok, p_lt]
  have i14 : nI (tkF t n (plF t n i)) = (14 : Int32) ↔ tkF t n (plF t n i) = 14 := nI_eq (b := 14) (by omega) (by omega)
  have i15 : nI (tkF t n (plF t n i)) = (15 : Int32) ↔ tkF t n (plF t n i) = 15 := nI_eq (b := 15) (by omega) (by omega)
  have i16 : nI (tkF t n (plF t n i)) = (16 : Int32) ↔ tkF t n (plF t n i) = 16 := nI_eq (b := 16) (by omega) (by omega)
  by_cases cv : 14 ≤ tkF t n (plF t n i) ∧ tkF t n (plF t n i) ≤ 16
  case neg =>
    obtain ⟨g1, q1, q2, q3, q4⟩ := x_fail X 0
    rw [nI_0] at q1
    obtain ⟨hy', w, z1, z2, z3⟩ := V1 cv
    obtain ⟨f1, f2⟩ := fl0_b X (k := 0) (j := i) (by omega)
    refine Or.inr (Or.inr ⟨g1, hy', fl 0 0 (plF t n i), ?_, z_clause0 Sy hL z1 z2 f1 f2 z3, q2.up fun a k _ z => wPx_C z, z2.up fun a k _ z => wV_Q z, f1, f2, q3, z3⟩)
    rw [p_jn, if_neg (fun z => cv (by have := i14.mp z; omega)), if_neg (fun z => cv (by have := i15.mp z; omega)), if_neg (fun z => cv (by have := i16.mp z; omega)), q1, p_cl, q_ck (Or.inl rfl)]
  have hj : ∀ q : Unit → Option (Int32 × mm_H), (if nI (tkF t n (plF t n i)) = (14 : Int32) then (q ()) else (if nI (tkF t n (plF t n i)) = (15 : Int32) then (q ()) else (if nI (tkF t n (plF t n i)) = (16 : Int32) then (q ()) else (mm_cl (fX5_fail (B + 5) (0 : Int32) hx) fun v48 g49 => mm_ck (v48 = 0 ∨ v48 = 1) <| some (v48, g49))))) = q () := fun q => by
    by_cases e1 : tkF t n (plF t n i) = 14
    · rw [if_pos (i14.mpr e1)]
    · rw [if_neg (fun z => e1 (i14.mp z))]
      by_cases e2 : tkF t n (plF t n i) = 15
      · rw [if_pos (i15.mpr e2)]
      · rw [if_neg (fun z => e2 (i15.mp z)), if_pos (i16.mpr (by omega))]
  rw [jn_eq () hj, a13]
  by_cases ccl : g.length = 10
  · obtain ⟨g1, q1, q2, q3, q4⟩ := x_fail X 4
    obtain ⟨hy', w, z1, z2, z3⟩ := V2 cv ccl
    obtain ⟨f1, f2⟩ := fl0_b X (k := 4) (j := i) (by omega)
    refine Or.inr (Or.inr ⟨g1, hy', fl 0 4 (plF t n i), ?_, z_clause0 Sy hL z1 z2 f1 f2 z3, q2.up fun a k _ z => wPx_C z, z2.up fun a k _ z => wV_Q z, f1, f2, q3, z3⟩)
    rw [if_neg (show ¬ nI g.length < (10 : Int32) from nI_nlt (b := 10) (by omega) (by omega)), show (4 : Int32) = nI 4 by decide +kernel, q1, p_cl, q_ck (Or.inl rfl)]
  have hcl : g.length < 10 := by omega
  obtain ⟨g8, q1, q2, X8⟩ := x_goOn X (X.lt (by omega))
  have S8 := X8.1.1
  have hB8 := q2.1.2.2
  have b13 : mm_i g8 (B + 5) 13 = nI g.length := by rw [q2.i (by omega) (by unfold wPx; omega)]; exact a13
  have hqc := fun (β : Type) (z : Option β) => q_ckx hcl (by decide) z
  obtain ⟨v11, hv11⟩ : ∃ v : Int32, v = (if tkF t n (plF t n i) = 15 then 1 else 0) := ⟨_, rfl⟩
  have hj2 : ∀ q : Int32 → Option (Int32 × mm_H), (if ¬ nI (tkF t n (plF t n i)) = (15 : Int32) then (q (0 : Int32)) else (q (1 : Int32))) = q v11 := fun q => by
    rw [hv11]
    by_cases e : tkF t n (plF t n i) = 15
    · rw [if_neg (not_not_intro (i15.mpr e)), if_pos e]
    · rw [if_pos (fun z => e (i15.mp z)), if_neg e]
  rw [if_pos (show nI g.length < (10 : Int32) from nI_lt (b := 10) hcl (by omega)), q1, p_cl, q_ck (sk5 S8), jn_eq v11 hj2]
  obtain ⟨g16, e16⟩ : ∃ g16, g16 = mm_setI g8 (B + 11) g.length v11 := ⟨_, rfl⟩
  have x16 : mX B (fun a _ => a = B + 11) g8 g16 := by rw [e16]; exact (mX.rf (W := fun a _ => a = B + 11) S8.1).I (Or.inl rfl)
  have X16 : xS B g16 t n m (i + 1) c g.flatten := X8.fr x16 (fun a k h z => by have z : a = B + 11 := z; omega)
  have xx16 : mX B (wC B) hx g16 := (q2.up fun a k _ z => wPx_C z).tr (x16.up fun a k _ z => by have z : a = B + 11 := z; unfold wC; omega)
  have d13 : mm_i g16 (B + 5) 13 = nI g.length := by rw [e16, i_I_ne (by omega)]; exact b13
  have d12 : ∀ k, mm_i g16 (B + 12) k = mm_i hx (B + 12) k := fun k => by rw [e16, i_I_ne (by omega), q2.i (by omega) (by unfold wPx; omega)]
  have d11 : ∀ k, k < g.length → mm_i g16 (B + 11) k = mm_i hx (B + 11) k := fun k hk => by rw [e16, i_I, if_neg (fun z => by omega), q2.i (by omega) (by unfold wPx; omega)]
  rw [sr5_11 S8, p_rf, q_ck (sk11 S8), b13, sn11 S8, hqc, nI_clamp (by omega), ← e16, p_lt]
  by_cases c16 : tkF t n (plF t n i) = 16
  · -- a fine
    obtain ⟨F1, F2, F3⟩ := x_fine X16 d13 hcl
    rw [p_jn, if_neg (not_not_intro (i16.mpr c16))]
    by_cases c21 : tkF t n (plF t n (i + 1)) = 21
    case neg =>
      obtain ⟨g1, r1, r2, r3⟩ := F1 c21
      obtain ⟨hy', w, z1, z2, z3⟩ := V4 c16 hcl c21
      obtain ⟨f1, f2⟩ := fl0_b X (k := 0) (j := i + 1) (by omega)
      refine Or.inr (Or.inr ⟨g1, hy', fl 0 0 (plF t n (i + 1)), ?_, z_clause0 Sy hL z1 z2 f1 f2 z3, xx16.tr r2, z2.up fun a k _ z => wV_Q z, f1, f2, r3, z3⟩)
      rw [r1, p_cl, if_neg (not_not_intro rfl)]
    obtain ⟨hy', z1, z2, z3⟩ := V5 c16 hcl c21
    by_cases cr : rV2 t n (i + 1) = 0
    · obtain ⟨g1, r1, r2, X1, r4, r5, r6⟩ := F3 c21 cr
      rw [r1, p_cl, if_pos (show ¬ (1 : Int32) = 0 by decide)]
      rw [cr] at z3
      have hh := J_fin J hcl X1 (by omega) (xx16.tr r2) r4 (fun k => (r5 k).trans (d12 k)) (fun k hk => by rw [r6, if_neg (by omega)]; exact d11 k hk) (w := nI (10 + nvA t (plF t n (i + 1)) (deF t n (plF t n (i + 1))))) (by rw [r6, if_pos rfl]) z1 z2 z3 rfl
      exact hh
    · obtain ⟨g1, r1, r2, r3⟩ := F2 c21 cr
      refine Or.inr (Or.inr ⟨g1, hy', rV2 t n (i + 1), ?_, z_clause0 Sy hL z1 z2 cr (rV2_b X.1.2.2.2.2.2.2) z3.2.2, xx16.tr r2, z2.up fun a k _ z => wV_Q z, cr, rV2_b X.1.2.2.2.2.2.2, r3, z3.2.2⟩)
      rw [r1, p_cl, if_neg (not_not_intro rfl)]
  · rw [p_jn, if_pos (fun z => c16 (i16.mp z))]
    obtain ⟨hy', z1, z2, z3⟩ := V3 (by omega) hcl
    have hh := J_fin J hcl X16 (by omega) xx16 d13 d12 d11 (w := nI (tkF t n (plF t n i) - 14)) (by
      rw [e16, i_I_eq, hv11]
      have : tkF t n (plF t n i) = 14 ∨ tkF t n (plF t n i) = 15 := by omega
      rcases this with e | e
      · rw [e]; rfl
      · rw [e]; rfl) z1 z2 z3 rfl
    exact hh
end KU
