/-! the relation holds at the start -/
def st_rs : List (Nat × Nat × Nat) := [(66, 116, 146), (66, 113, 145), (66, 112, 144), (66, 111, 143), (66, 110, 142), (66, 109, 141), (66, 107, 140), (66, 106, 139), (66, 105, 138), (66, 104, 137), (66, 101, 136), (66, 100, 135), (66, 99, 134), (66, 98, 133), (66, 97, 132), (66, 96, 131), (66, 95, 130), (66, 94, 129), (66, 93, 128), (66, 92, 127), (66, 87, 126), (66, 86, 125), (66, 85, 124), (66, 84, 123), (66, 83, 122), (66, 82, 121), (66, 81, 120), (66, 80, 119), (66, 79, 118), (66, 78, 117), (66, 75, 116), (66, 66, 115), (66, 65, 114), (66, 64, 113), (66, 63, 112), (66, 62, 111), (66, 58, 110), (66, 57, 109), (66, 56, 108), (66, 55, 107), (66, 54, 106), (66, 53, 105), (66, 52, 104), (66, 51, 103), (66, 50, 102), (66, 49, 101), (66, 48, 100), (66, 47, 99), (66, 46, 98), (66, 45, 97), (66, 44, 96), (66, 42, 95), (66, 41, 94), (66, 40, 93), (66, 39, 92), (66, 37, 91), (66, 36, 90), (66, 35, 89), (66, 32, 88), (66, 31, 87), (66, 30, 86), (66, 29, 85), (66, 28, 84), (66, 27, 83), (66, 26, 82), (66, 25, 81), (66, 24, 80), (66, 16, 79), (66, 15, 78), (66, 14, 77), (66, 13, 76), (66, 12, 75), (66, 11, 74), (66, 9, 73), (66, 8, 72), (66, 7, 71), (66, 6, 70), (66, 5, 69), (66, 4, 68), (66, 3, 67), (0, 13, 65), (0, 10, 52), (52, 8, 64), (52, 4, 63), (52, 3, 60), (60, 1, 62), (60, 0, 61), (52, 2, 57), (57, 1, 59), (57, 0, 58), (52, 1, 54), (54, 1, 56), (54, 0, 55), (52, 0, 53), (0, 9, 47), (47, 4, 51), (47, 2, 50), (47, 1, 49), (47, 0, 48), (0, 8, 37), (37, 10, 46), (37, 9, 45), (37, 8, 44), (37, 7, 43), (37, 6, 42), (37, 4, 41), (37, 3, 40), (37, 1, 39), (37, 0, 38), (0, 7, 23), (23, 14, 36), (23, 13, 35), (23, 12, 34), (23, 11, 33), (23, 9, 32), (23, 8, 31), (23, 7, 30), (23, 6, 29), (23, 5, 28), (23, 3, 27), (23, 2, 26), (23, 1, 25), (23, 0, 24), (0, 6, 17), (17, 4, 22), (17, 3, 21), (17, 2, 20), (17, 1, 19), (17, 0, 18), (0, 5, 13), (13, 2, 16), (13, 1, 15), (13, 0, 14), (14, 1, 999), (0, 4, 5), (5, 12, 12), (5, 11, 11), (5, 9, 10), (5, 4, 9), (5, 3, 8), (5, 2, 7), (5, 0, 6), (0, 3, 4), (0, 2, 3), (3, 1, 999), (0, 1, 2), (2, 1, 999), (0, 0, 1), (1, 1, 999)]
def st_iz : List (Nat × Nat × Int32) := [(66, 74, (90 : Int32)), (66, 73, (1 : Int32)), (66, 60, (-1 : Int32)), (66, 59, (-1 : Int32)), (0, 14, (90 : Int32)), (0, 11, (0 : Int32)), (13, 4, (-1 : Int32)), (13, 3, (-1 : Int32)), (14, 0, (0 : Int32)), (3, 0, (0 : Int32)), (2, 0, (0 : Int32)), (1, 0, (0 : Int32))]
section RE
variable {B : Nat} {h0 h : mm_H}
theorem zi_v {j k : Nat} {v : Int32} (Z : zS h0 B 147 st_rs st_iz h) (hj : j < 147) (e : zi st_iz j k = v) : mm_i h (B + j) k = v := ((Z.2.2.2.2.1 j k hj).1).trans e
theorem zi_0 {j : Nat} (Z : zS h0 B 147 st_rs st_iz h) (hj : j < 147) (e : ∀ p, p ∈ st_iz → ¬ p.1 = j) (k : Nat) : mm_i h (B + j) k = 0 := zi_v Z hj (zi_n e)
theorem z_mS (Z : zS h0 B 147 st_rs st_iz h) : mS B h := by
  refine ⟨Nat.le_of_eq Z.1.1.symm, fun j hj => Z.2.2.1 j hj, fun j hj => ?_⟩
  have e : ∀ j, j < 144 → (st_r.getD j (0, 0, 0)).1 < 147 ∧ zl st_rs (st_r.getD j (0, 0, 0)).1 (st_r.getD j (0, 0, 0)).2.1 = some (st_r.getD j (0, 0, 0)).2.2 ∧ ¬ (st_r.getD j (0, 0, 0)).2.2 = 999 := by decide +kernel
  obtain ⟨e1, e2, e3⟩ := e j hj
  rw [Z.2.2.2.1 _ _ e1, e2]
  exact congrArg some (if_neg e3)
theorem z_mL (Z : zS h0 B 147 st_rs st_iz h) (I : mI h0) (hB : mm_sz h0 = B) {ow : Nat → Nat × Nat} {l q kd : Nat} {ad : Nat → Nat} (hl : l < 147) (e1 : zl st_rs l 1 = some 999) (e2 : zi st_iz l 2 = 0) : mL B ow h (B + l) q kd 0 ad := by
  obtain ⟨⟨k1, k2, k3⟩, _⟩ := I
  have k4 : mm_c h0 0 < B := by omega
  refine ⟨by omega, zi_v Z hl e2, ⟨mm_c h0 0, 0, ?_, ?_, ?_, Nat.le_refl _, by unfold rm; simp, Or.inl ⟨rfl, (congrFun Z.1.2 0).symm, k4⟩, fun k hk => absurd hk (Nat.not_lt_zero k)⟩, fun k hk => absurd hk (Nat.not_lt_zero k)⟩
  · rw [Z.2.2.2.1 _ _ hl, e1]; exact congrArg some (if_pos rfl)
  · exact (Z.2.1 _ k4).1.trans k1
  · exact (Z.2.1 _ k4).2.trans k2
theorem z_mT (Z : zS h0 B 147 st_rs st_iz h) (I : mI h0) (hB : mm_sz h0 = B) : mT h := by
  obtain ⟨_, k1, k2⟩ := I
  refine ⟨fun i hi => ?_, fun i hi => ?_⟩
  · rw [Z.1.2, Z.1.1]
    have := (k1 i hi).2
    exact ⟨(Z.2.1 _ (by omega)).1.trans (k1 i hi).1, by omega⟩
  · have e := k2 i hi
    unfold mm_fb at *
    rw [Z.1.2]; exact e
theorem pure_rl (Z : zS h0 B 147 st_rs st_iz h) (I : mI h0) (hB : mm_sz h0 = B) : Rl B h := by
  have no : ∀ {p : Nat → Prop} (k : Nat), k < 0 → p k := fun k hk => absurd hk (Nat.not_lt_zero k)
  have i : ∀ j k v, j < 147 → zi st_iz j k = v → mm_i h (B + j) k = v := fun j k v hj e => zi_v Z hj e
  have z : ∀ j, j < 147 → (∀ p, p ∈ st_iz → ¬ p.1 = j) → ∀ k, mm_i h (B + j) k = 0 := fun j hj e => zi_0 Z hj e
  have d11 : mm_i h B 11 = 0 := i 0 11 0 (by omega) (by decide)
  have S := z_mS Z
  refine ⟨fun _ => (0, 0), 0, fun _ => 0, fun _ => 0, fun _ => 0, 0, fun _ => 0, 0, fun _ _ => 0, fun _ _ => 0, fun _ => 0, 1, 90, B + 65, 0, fun _ _ => 0, fun _ _ => 0, fun _ _ => 0, fun _ _ => 0, S, z_mT Z I hB, ?_, ?_, ?_, ?_, ?_, ?_, ?_, ?_, ?_, ?_, ?_, ?_, ?_, ?_, ?_, ?_, ?_, ?_, ?_, ?_, ?_, ?_⟩
  · exact ⟨(i 66 1 0 (by omega) (by decide)).trans d11.symm, by rw [d11]; decide, by rw [d11]; decide⟩
  · exact ⟨0, by omega, i 23 15 0 (by omega) (by decide), i 66 38 0 (by omega) (by decide), no⟩
  · intro k
    rw [z 33 (by omega) (by decide) k]; decide
  · intro k _
    rw [z 36 (by omega) (by decide) k, d11]; decide
  · exact ⟨0, by omega, i 23 4 0 (by omega) (by decide), i 66 76 0 (by omega) (by decide), no⟩
  · exact ⟨0, by omega, i 23 10 0 (by omega) (by decide), i 66 77 0 (by omega) (by decide), no⟩
  · exact ⟨0, by omega, i 17 5 0 (by omega) (by decide), i 66 61 0 (by omega) (by decide), no⟩
  · exact ⟨⟨0, by omega, i 47 3 0 (by omega) (by decide), i 66 102 0 (by omega) (by decide), no⟩, 0, by omega, i 47 5 0 (by omega) (by decide), i 66 103 0 (by omega) (by decide), no⟩
  · have e1 : mm_i h (B + 37) 13 = 0 := i 37 13 0 (by omega) (by decide)
    have e2 : mm_i h (B + 66) 88 = 0 := i 66 88 0 (by omega) (by decide)
    exact ⟨⟨⟨fun _ => e2, fun _ => e1⟩, fun n => absurd e1 n⟩, fun n => absurd e1 n⟩
  · exact ⟨0, 0, ⟨⟨by omega, i 53 0 0 (by omega) (by decide), i 141 0 0 (by omega) (by decide), no⟩, by omega, i 53 1 0 (by omega) (by decide), i 141 1 0 (by omega) (by decide), no⟩, Or.inl ⟨i 52 7 0 (by omega) (by decide), i 66 108 0 (by omega) (by decide)⟩⟩
  · refine Or.inl ?_
    rw [Z.2.2.2.1 52 9 (by omega)]
    have e : zl st_rs 52 9 = none := by decide
    rw [e]; rfl
  · exact ⟨(i 66 59 (-1) (by omega) (by decide)).trans (i 13 3 (-1) (by omega) (by decide)).symm, (i 66 60 (-1) (by omega) (by decide)).trans (i 13 4 (-1) (by omega) (by decide)).symm⟩
  · exact ⟨0, by omega, i 5 1 0 (by omega) (by decide), i 66 17 0 (by omega) (by decide), no⟩
  · exact i 12 0 0 (by omega) (by decide)
  · exact ⟨by omega, z_mL Z I hB (by omega) (by decide) (by decide), i 66 2 0 (by omega) (by decide), no⟩
  · exact ⟨no, fun k _ hk => ⟨z 71 (by omega) (by decide) k, fun s _ => z 126 (by omega) (by decide) _⟩⟩
  · exact ⟨(Z.2.2.2.2.1 0 12 (by omega)).2, no, fun c hc => ⟨z 4 (by omega) (by decide) c, z 72 (by omega) (by decide) c⟩, by decide⟩
  · exact ⟨by omega, z_mL Z I hB (by omega) (by decide) (by decide), i 66 10 0 (by omega) (by decide), no⟩
  · exact ⟨by omega, z_mL Z I hB (by omega) (by decide) (by decide), i 66 43 0 (by omega) (by decide), no, no⟩
  · exact fun k _ _ => z 106 (by omega) (by decide) k
  · refine ⟨⟨?_, (S.2.1 65 (by omega)).1, (S.2.1 65 (by omega)).2⟩, ⟨by omega, by omega⟩, Or.inl rfl, i 66 73 1 (by omega) (by decide), ⟨i 0 14 90 (by omega) (by decide), i 66 74 90 (by omega) (by decide), by omega, by omega⟩, fun t ht => ?_⟩
    · have e : zl st_rs 0 13 = some 65 := by decide
      have := Z.2.2.2.1 0 13 (by omega)
      rw [e] at this
      exact this
    · rw [z 65 (by omega) (by decide) t, z 116 (by omega) (by decide) t]
      exact ⟨rfl, by decide, by decide⟩
  · exact ⟨by omega, z_mL Z I hB (by omega) (by decide) (by decide), i 66 23 0 (by omega) (by decide), no⟩
theorem pure_start (h0 : mm_H) (I : mI h0) : ∃ h1 : mm_H, (∀ K : Nat → Nat → Int32 → mm_H → Option (Int32 × mm_H), fL_s K h0 = K (mm_sz h0) (mm_sz h0 + 66) 0 h1) ∧ Rl (mm_sz h0) h1 := by
  obtain ⟨B, hB⟩ : ∃ B, mm_sz h0 = B := ⟨_, rfl⟩
  have Z0 : zS h0 B 0 [] [] h0 := ⟨⟨hB, rfl⟩, fun _ _ => ⟨rfl, rfl⟩, fun j hj => absurd hj (Nat.not_lt_zero j), fun j k hj => absurd hj (Nat.not_lt_zero j), fun j k hj => absurd hj (Nat.not_lt_zero j), fun p hp => absurd hp (List.not_mem_nil), fun p hp => absurd hp (List.not_mem_nil)⟩
  have Z1 := zN Z0 (kd := 12) (n := 0) (m' := 1) (by decide) (by decide) rfl
  obtain ⟨g1, f1, Z2⟩ := zc_X11 Z1
  have Z3 := zN Z2 (kd := 13) (n := 0) (m' := 67) (by decide) (by decide) rfl
  obtain ⟨g2, f2, Z4⟩ := zc_X12 Z3
  refine ⟨g2, fun K => ?_, ?_⟩
  · unfold fL_s
    have f1' : fX11_init (mm_sz h0) (mm_new h0 12 0) = some ((), g1) := by rw [hB]; exact f1
    have f2' : fX12_init (mm_sz g1) (mm_new g1 13 0) = some ((), g2) := by rw [Z2.1.1]; exact f2
    simp only [p_lt, f1', p_cl, f2']
    rw [Z2.1.1, hB]
  · rw [hB]
    exact pure_rl Z4 I hB
end RE
