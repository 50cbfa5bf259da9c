/-! a clause, a law's clauses -/
section IW
variable {B : Nat} {h hx hy hx' hy' : mm_H} {ow ow' : Nat → Nat × Nat} {n d nm nl nb nw a : Nat} {V Z G E : Nat → Nat → Nat}
def wSx (B : Nat) : Nat → Nat → Prop := fun a _ => a = B + 16
def wSy (B : Nat) : Nat → Nat → Prop := fun a _ => a = B + 90
theorem wSx_0 {ms : List Nat} (x : mX B (wSx B) h hx) (hm : 0 ∈ ms) (o : Nat → Nat × Nat) : mY B o ms h hx := x.up fun a k _ z => by
  rw [show a = B + 16 from z]; exact wM_F (m := 0) (by omega) rfl hm
theorem wSy_0 {ms : List Nat} (x : mX B (wSy B) h hx) (hm : 100 ∈ ms) (o : Nat → Nat × Nat) : mY B o ms h hx := x.up fun a k _ z => by
  rw [show a = B + 90 from z]; exact wM_F (m := 100) (by omega) rfl hm
/-- the facts, alike on both sides -/
def evF (B : Nat) (hx hy : mm_H) : Prop := ∀ t, t < 14 → mm_j hx (B + 15) t = mm_j hy (B + 91) t
theorem evF.up (R : evF B hx hy) (x : mX B (wSx B) hx hx') (y : mX B (wSy B) hy hy') : evF B hx' hy' := fun t ht => by
  have hB := x.1.2.2
  have hB' := y.1.2.2
  rw [x.j (by omega) (fun z => by have : B + 15 = B + 16 := z; omega), y.j (by omega) (fun z => by have : B + 91 = B + 90 := z; omega)]
  exact R t ht
theorem J_isTrue_L {b1 b2 : Int32} {k c L : Nat} (R0 : RLw B ow hx hy n V Z G E) (hk : k < n) (hc : c < Z 0 k) (hb1 : b1 = nI c) (hb2 : b2 = nI (10 * k + c)) (eL : L = Z (11 + c) k) : ∀ (e j : Nat) (hx1 hy1 : mm_H) (s : List Bool) (f f' : Nat), j + e = L → e < f → e < f' → mS B hx1 → mS B hy1 → mX B (wSx B) hx hx1 → mX B (wSy B) hy hy1 → evF B hx1 hy1 → tyRun (G k) e j s = some [true] → s.length ≤ 80 → evL (mm_j hx1 (B + 16)) (mm_j hy1 (B + 90)) s → ∃ hx2 hy2, (∀ K, fX4_isTrue_L11 (V 0 k) b1 (B + 15) (B + 16) K f (nI s.length) (nI j) hx1 = K 1 hx2) ∧ (∀ K, fX12_isTrue_L15 (B + 66) b2 (nI k) K f' (nI s.length) (nI j) hy1 = K hy2) ∧ mX B (wSx B) hx hx2 ∧ mX B (wSy B) hy hy2 ∧ evL (mm_j hx2 (B + 16)) (mm_j hy2 (B + 90)) [true] := by
  intro e
  induction e with
  | zero =>
    intro j hx1 hy1 s f f' hj hf hf' S S' x y F ht hs hev
    obtain ⟨g, rfl⟩ : ∃ g, f = g + 1 := ⟨f - 1, by omega⟩
    obtain ⟨g', rfl⟩ : ∃ g, f' = g + 1 := ⟨f' - 1, by omega⟩
    have R := R0.up (wSx_0 (ms := [0]) x (by simp) ow) mO.rf (wSy_0 (ms := [100]) y (by simp) ow) (by decide) (by decide)
    obtain ⟨m1, m2, m3, m4, m5, m6, m7⟩ := (R.2.2.2 k hk).1
    obtain ⟨⟨r1, r2, r3⟩, -, ⟨k1, k2, k3⟩, n1, n2, n3⟩ := (R.2.2.2 k hk).2
    have kd := (R.2.1.2.2.2 k hk).2
    have n9 := R.1
    obtain rfl : s = [true] := Option.some.inj ht
    have hqc := fun (β : Type) (z : Option β) => q_ckx (show c + 1 < Z 0 k + 1 by omega) (by omega) z
    have hcc := nI_clamp (n := c + 1) (by omega)
    have e1 := (m5 (c + 1) (by omega)).1
    have e2 := (m6 c hc).2.2.1
    rw [show 10 + (c + 1) = 11 + c by omega, ← eL] at e1
    rw [← eL] at e2
    have hle : nI L ≤ nI j := nI_le (by omega) (by have := (m5 (c + 1) (by omega)).2; rw [show 10 + (c + 1) = 11 + c by omega, ← eL] at this; omega)
    have hqc2 := fun (β : Type) (z : Option β) => q_ckx (show 10 * k + c < 300 by omega) (by omega) z
    have hcc2 := nI_clamp (n := 10 * k + c) (by omega)
    refine ⟨hx1, hy1, fun K => ?_, fun K => ?_, x, y, hev⟩
    · show fX4_isTrue_L11_b _ _ _ _ _ _ _ _ _ = _
      unfold fX4_isTrue_L11_b
      rw [hb1, nI_1, q_ck kd, r2, q_rf, q_ck k2, n2, hqc, hcc, e1, if_pos hle]
      rfl
    · show fX12_isTrue_L15_b _ _ _ _ _ _ _ _ = _
      unfold fX12_isTrue_L15_b
      rw [hb2, q_ck (sk66 S'), sr66_30 S', q_rf, q_ck (sk86 S'), sn86 S', hqc2, hcc2, e2, if_pos hle]
  | succ e ih =>
    intro j hx1 hy1 s f f' hj hf hf' S S' x y F ht hs hev
    obtain ⟨g, rfl⟩ : ∃ g, f = g + 1 := ⟨f - 1, by omega⟩
    obtain ⟨g', rfl⟩ : ∃ g, f' = g + 1 := ⟨f' - 1, by omega⟩
    have R := R0.up (wSx_0 (ms := [0]) x (by simp) ow) mO.rf (wSy_0 (ms := [100]) y (by simp) ow) (by decide) (by decide)
    obtain ⟨m1, m2, m3, ⟨m4, m4', m4''⟩, m5, m6, m7⟩ := (R.2.2.2 k hk).1
    have F0 := (R.2.2.2 k hk).2
    have kd := (R.2.1.2.2.2 k hk).2
    have n9 := R.1
    have e1 := (m5 (c + 1) (by omega)).1
    have hL := (m5 (c + 1) (by omega)).2
    have e2 := (m6 c hc).2.2.1
    rw [show 10 + (c + 1) = 11 + c by omega, ← eL] at e1 hL
    rw [← eL] at e2
    obtain ⟨p1, p2, p3, p4, p5⟩ := m7 j (by omega)
    obtain ⟨s', hs', ht'⟩ : ∃ s', tyStep (G k j) s = some s' ∧ tyRun (G k) e (j + 1) s' = some [true] := by
      have h9 : (match tyStep (G k j) s with
        | none => none
        | some s' => tyRun (G k) e (j + 1) s') = some [true] := ht
      cases hq : tyStep (G k j) s with
      | none => rw [hq] at h9; cases h9
      | some s' => rw [hq] at h9; exact ⟨s', rfl, h9⟩
    obtain ⟨p, v, q1, q2, q3, q4⟩ := x_step S kd F0 hb1 hc m4' e1 (by omega) hL m4'' p1 p4 p5 hs' hs
    obtain ⟨p', v', t1, t2, t3⟩ := y_step S' (by omega) (by omega) hb2 e2 (by omega) (by omega) p2 p3 p4 p5 hs' hs
    obtain rfl : p' = p := by omega
    have hcl : (G k j ≤ 1 ∨ G k j = 14 ∨ isOp (G k j)) := by
      rcases tyStep_inv hs' with ⟨o1, -⟩ | ⟨o1, -⟩ | ⟨o1, -⟩
      · exact Or.inl o1
      · exact Or.inr (Or.inl o1)
      · exact Or.inr (Or.inr o1)
    have hfin : v = v' ∧ evL (fun b => if b = p' then v else mm_j hx1 (B + 16) b) (fun b => if b = p' then v' else mm_j hy1 (B + 90) b) s' := by
      rcases tyStep_inv hs' with ⟨o1, o2, rfl⟩ | ⟨o1, r, rfl, rfl⟩ | ⟨o1, a9, b9, q, c9, rfl, rfl, o2⟩
      · have ep : p' = s.length := by simp at q3; omega
        have ev : v = v' := q4.unique t3 hcl (fun z => F _ (p5 z)) (fun z => by
          rcases z with z | z
          · omega
          · have := (tok_rng z).2.2.2.2.2.1; omega) (fun z => by have := (tok_rng z).2.2.2.2.2.1; omega)
        refine ⟨ev, ⟨?_, fun z => by cases z⟩, evL_cg (fun b hb => ?_) hev⟩
        · show (if s.length = p' then v else _) = if s.length = p' then v' else _
          rw [if_pos ep.symm, if_pos ep.symm]; exact ev
        · show (if b = p' then v else _) = _ ∧ (if b = p' then v' else _) = _
          rw [if_neg (by omega), if_neg (by omega)]; exact ⟨rfl, rfl⟩
      · obtain ⟨⟨h1, h2⟩, h3⟩ := hev
        have ep : p' = r.length := by simp at q3; omega
        have ev : v = v' := q4.unique t3 hcl (fun z => by omega) (fun _ => by rw [ep]; exact h1) (fun z => by have := (tok_rng z).2.2.2.2.2.2.1; omega)
        have e01 := h2 rfl
        have hv : v = 0 ∨ v = 1 := by
          rw [q4.2.2.1 o1, ep]
          rcases e01 with z | z <;> rw [z] <;> decide
        refine ⟨ev, ⟨?_, fun _ => ?_⟩, evL_cg (fun b hb => ?_) h3⟩
        · show (if r.length = p' then v else _) = if r.length = p' then v' else _
          rw [if_pos ep.symm, if_pos ep.symm]; exact ev
        · show (if r.length = p' then v else _) = 0 ∨ (if r.length = p' then v else _) = 1
          rw [if_pos ep.symm]; exact hv
        · show (if b = p' then v else _) = _ ∧ (if b = p' then v' else _) = _
          rw [if_neg (by omega), if_neg (by omega)]; exact ⟨rfl, rfl⟩
      · obtain ⟨⟨h1, h2⟩, ⟨h4, h5⟩, h3⟩ := hev
        have ep : p' = q.length := by simp at q3; omega
        have l1 : (b9 :: q).length = q.length + 1 := rfl
        rw [l1] at h1 h2
        have ev : v = v' := q4.unique t3 hcl (fun z => by have := (tok_rng o1).2.2.2.2.2.1; omega) (fun _ => by rw [ep]; exact h4) (fun _ => by rw [ep]; exact h1)
        have hv : c9 = true → v = 0 ∨ v = 1 := by
          intro hc9
          have e9 := q4.2.2.2 o1
          rcases o2 with ⟨o2, o3⟩ | ⟨o2, o3⟩ | ⟨o2, o3, o4, o5⟩
          · rw [o3] at hc9; cases hc9
          · rw [e9]; exact cm_01 o2 _ _
          · rw [e9, ep]
            have b1 := h2 o3
            have b2 := h5 o4
            have bb := bb_01 b2 b1
            rcases o2 with o2 | o2
            · rw [o2]; exact bb.1
            · rw [o2]; exact bb.2
        refine ⟨ev, ⟨?_, fun z => ?_⟩, evL_cg (fun b hb => ?_) h3⟩
        · show (if q.length = p' then v else _) = if q.length = p' then v' else _
          rw [if_pos ep.symm, if_pos ep.symm]; exact ev
        · show (if q.length = p' then v else _) = 0 ∨ (if q.length = p' then v else _) = 1
          rw [if_pos ep.symm]; exact hv z
        · show (if b = p' then v else _) = _ ∧ (if b = p' then v' else _) = _
          rw [if_neg (by omega), if_neg (by omega)]; exact ⟨rfl, rfl⟩
    have x1 : mX B (wSx B) hx1 (mm_setJ hx1 (B + 16) p' v) := (mX.rf S.1).J (Or.inl rfl)
    have y1 : mX B (wSy B) hy1 (mm_setJ hy1 (B + 90) p' v') := (mX.rf S'.1).J (Or.inl rfl)
    obtain ⟨hx2, hy2, u1, u2, u3, u4, u5⟩ := ih (j + 1) (mm_setJ hx1 (B + 16) p' v) (mm_setJ hy1 (B + 90) p' v') s' g g' (by omega) (by omega) (by omega) (x1.S S) (y1.S S') (x.tr x1) (y.tr y1) (F.up x1 y1) ht' q2 (evL_cg (fun b _ => ⟨by rw [j_J]; simp, by rw [j_J]; simp⟩) hfin.2)
    refine ⟨hx2, hy2, fun K => ?_, fun K => ?_, u3, u4, u5⟩
    · rw [q1, u1]
    · rw [t1, u2]
theorem J_isTrue (S : mS B hx) (S' : mS B hy) (R : RLw B ow hx hy n V Z G E) (F : evF B hx hy) {k c : Nat} (hk : k < n) (hc : c < Z 0 k) : ∃ r hx' hy', (r = 0 ∨ r = 1) ∧ fX4_isTrue (V 0 k) (nI c) (B + 15) (B + 16) hx = some (r, hx') ∧ fX12_isTrue (B + 66) (nI (10 * k + c)) hy = some (r, hy') ∧ mX B (wSx B) hx hx' ∧ mX B (wSy B) hy hy' := by
  obtain ⟨m1, m2, m3, ⟨m4, m4', m4''⟩, m5, m6, m7⟩ := (R.2.2.2 k hk).1
  obtain ⟨⟨r1, r2, r3⟩, -, ⟨k1, k2, k3⟩, n1, n2, n3⟩ := (R.2.2.2 k hk).2
  have kd := (R.2.1.2.2.2 k hk).2
  have n9 := R.1
  obtain ⟨w1, w2, w3, w4, w5⟩ := m6 c hc
  obtain ⟨f1, f2⟩ := m5 c (by omega)
  have hL := (m5 (c + 1) (by omega)).2
  rw [show 10 + (c + 1) = 11 + c by omega] at hL
  obtain ⟨hx', hy', p1, p2, p3, p4, p5⟩ := J_isTrue_L (b1 := nI c) (b2 := nI (10 * k + c)) (L := Z (11 + c) k) R hk hc rfl rfl rfl (Z (11 + c) k - Z (10 + c) k) (Z (10 + c) k) hx hy [] mm_F mm_F (by omega) (by unfold mm_F; omega) (by unfold mm_F; omega) S S' (mX.rf S.1) (mX.rf S'.1) F w5 (by simp) trivial
  obtain ⟨⟨p6, p7⟩, -⟩ := p5
  rw [List.length_nil] at p6 p7
  have hqc := fun (β : Type) (z : Option β) => q_ckx (show c < Z 0 k + 1 by omega) (by omega) z
  have hcc := nI_clamp (n := c) (by omega)
  have hqc2 := fun (β : Type) (z : Option β) => q_ckx (show 10 * k + c < 300 by omega) (by omega) z
  have hcc2 := nI_clamp (n := 10 * k + c) (by omega)
  have e10 : nI (10 * k + c) / 10 = nI k := by
    rw [show (10 : Int32) = nI 10 by decide +kernel, nI_div (by omega) (by omega)]
    congr 1; omega
  have S1 := p3.S S
  have S1' := p4.S S'
  have z0 : (0 : Int32).toNatClampNeg = 0 := by decide
  have q0 := fun (β : Type) (z : Option β) => q_ckx (show 0 < 80 by omega) (by omega) z
  have q0' := fun (β : Type) (z : Option β) => q_ckx (show 0 < 400 by omega) (by omega) z
  simp only [nI_0] at q0 q0'
  have hx1 : fX4_isTrue (V 0 k) (nI c) (B + 15) (B + 16) hx = some (if lg_cmp (mm_j hx' (B + 16) 0) 0 = 0 then 0 else 1, hx') := by
    unfold fX4_isTrue
    rw [q_ck kd, r2, q_rf, q_ck k2, n2, hqc, hcc, f1, q_lt]
    have := p1 (fun z52 g53 => if ¬ z52 = (1 : Int32) then (some ((0 : Int32), g53)) else (mm_ck (mm_kd g53 (B + 16) = 15) <| mm_ck (mm_ix (0 : Int32) (mm_n g53 (B + 16))) <| if (lg_cmp (mm_j g53 (B + 16) (0 : Int32).toNatClampNeg) (0 : Int64)) = 0 then (some ((0 : Int32), g53)) else (some ((1 : Int32), g53))))
    rw [List.length_nil, nI_0] at this
    rw [this, if_neg (by simp), q_ck (sk16 S1), sn16 S1, q0, z0, q_ifs]
  have hy1 : fX12_isTrue (B + 66) (nI (10 * k + c)) hy = some (if ¬ lg_cmp (mm_j hy' (B + 90) 0) 1 = 0 then 0 else 1, hy') := by
    unfold fX12_isTrue
    rw [e10, q_lt, q_ck (sk66 S'), sr66_29 S', q_rf, q_ck (sk85 S'), sn85 S', hqc2, hcc2, w2, q_lt]
    have := p2 (fun g55 => mm_ck (mm_kd g55 (B + 66) = 13) <| mm_rf (mm_r g55 (B + 66) 36) fun u57 => mm_ck (mm_kd g55 u57 = 15) <| mm_ck (mm_ix (0 : Int32) (mm_n g55 u57)) <| if ¬ (lg_cmp (mm_j g55 u57 (0 : Int32).toNatClampNeg) (1 : Int64)) = 0 then (some ((0 : Int32), g55)) else (some ((1 : Int32), g55)))
    rw [List.length_nil, nI_0] at this
    rw [this, q_ck (sk66 S1'), sr66_36 S1', q_rf, q_ck (sk90 S1'), sn90 S1', q0', z0, q_ifs]
  rcases p7 rfl with z | z
  · refine ⟨0, hx', hy', Or.inl rfl, ?_, ?_, p3, p4⟩
    · rw [hx1, z, if_pos (by decide)]
    · rw [hy1, ← p6, z, if_pos (by decide)]
  · refine ⟨1, hx', hy', Or.inr rfl, ?_, ?_, p3, p4⟩
    · rw [hx1, z, if_neg (by decide)]
    · rw [hy1, ← p6, z, if_neg (by decide)]
end IW
