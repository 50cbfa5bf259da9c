theorem in_0 : Cond.instantiable RJx4a65c 3 ∈ mm_tb := (mm_in1 36 (by decide +kernel) (by decide +kernel))
theorem in_1 : Cond.instantiable RX0 13 ∈ mm_tb := (mm_in4 218 (by decide +kernel) (by decide +kernel))
theorem in_2 : Cond.instantiable RX1 10 ∈ mm_tb := (mm_in2 74 (by decide +kernel) (by decide +kernel))
theorem in_3 : Cond.instantiable RX2 5 ∈ mm_tb := (mm_in1 114 (by decide +kernel) (by decide +kernel))
theorem in_4 : Cond.instantiable RX3 6 ∈ mm_tb := (mm_in2 46 (by decide +kernel) (by decide +kernel))
theorem in_5 : Cond.instantiable RX4 6 ∈ mm_tb := (mm_in4 74 (by decide +kernel) (by decide +kernel))
theorem in_6 : Cond.instantiable RX5 14 ∈ mm_tb := (mm_in1 62 (by decide +kernel) (by decide +kernel))
theorem in_7 : Cond.instantiable RX6 5 ∈ mm_tb := (mm_in3 125 (by decide +kernel) (by decide +kernel))
theorem in_8 : Cond.instantiable RX7 7 ∈ mm_tb := (mm_in2 180 (by decide +kernel) (by decide +kernel))
theorem in_9 : Cond.instantiable RX8 6 ∈ mm_tb := (mm_in1 143 (by decide +kernel) (by decide +kernel))
theorem in_10 : Cond.instantiable RX9 14 ∈ mm_tb := (mm_in1 230 (by decide +kernel) (by decide +kernel))
theorem in_11 : Cond.instantiable RX10 16 ∈ mm_tb := (mm_in1 169 (by decide +kernel) (by decide +kernel))
theorem in_12 : Cond.instantiable RX11 15 ∈ mm_tb := (mm_in1 28 (by decide +kernel) (by decide +kernel))
theorem in_13 : Cond.instantiable RX12 117 ∈ mm_tb := (mm_in6 154 (by decide +kernel) (by decide +kernel))
theorem ao_O : Cond.arrayOver (.object "java/lang/Object") ∈ lw_tbl := by decide +kernel
theorem ao_I : Cond.arrayOver (.array .int) ∈ lw_tbl := by decide +kernel
theorem st_K {s : State} {args : Array Value} (hts : ∀ w ∈ lw_tbl, w.before args s = true) : ∃ (D : va_G) (cy : Nat → ClassId), va_K D vwCl (mm_tys cy) s := by
  have ht : ∀ w ∈ mm_tb, w.before args s = true := fun w h => hts w (List.mem_filter.mp h).1
  have hc : ∀ k : Nat, ∃ p : ClassId × (Nat → Nat), ∀ q : vw_C, vwCl[k]? = some q → u_Kn s q.1 q.2.1 q.2.2 p.1 p.2 := by
    intro k
    match k with
    | 0 => obtain ⟨c, i, h⟩ := u_known (C := RJx4a65c) (T := TJx4a65c) (N := 3) (n := 3) ht mi0 (ht _ in_0); exact ⟨(c, i), fun q hq => by cases hq; exact h⟩
    | 1 => obtain ⟨c, i, h⟩ := u_known (C := RX0) (T := TX0) (N := 13) (n := 13) ht mi1 (ht _ in_1); exact ⟨(c, i), fun q hq => by cases hq; exact h⟩
    | 2 => obtain ⟨c, i, h⟩ := u_known (C := RX1) (T := TX1) (N := 10) (n := 10) ht mi2 (ht _ in_2); exact ⟨(c, i), fun q hq => by cases hq; exact h⟩
    | 3 => obtain ⟨c, i, h⟩ := u_known (C := RX2) (T := TX2) (N := 5) (n := 5) ht mi3 (ht _ in_3); exact ⟨(c, i), fun q hq => by cases hq; exact h⟩
    | 4 => obtain ⟨c, i, h⟩ := u_known (C := RX3) (T := TX3) (N := 6) (n := 6) ht mi4 (ht _ in_4); exact ⟨(c, i), fun q hq => by cases hq; exact h⟩
    | 5 => obtain ⟨c, i, h⟩ := u_known (C := RX4) (T := TX4) (N := 6) (n := 6) ht mi5 (ht _ in_5); exact ⟨(c, i), fun q hq => by cases hq; exact h⟩
    | 6 => obtain ⟨c, i, h⟩ := u_known (C := RX5) (T := TX5) (N := 14) (n := 14) ht mi6 (ht _ in_6); exact ⟨(c, i), fun q hq => by cases hq; exact h⟩
    | 7 => obtain ⟨c, i, h⟩ := u_known (C := RX6) (T := TX6) (N := 5) (n := 5) ht mi7 (ht _ in_7); exact ⟨(c, i), fun q hq => by cases hq; exact h⟩
    | 8 => obtain ⟨c, i, h⟩ := u_known (C := RX7) (T := TX7) (N := 7) (n := 7) ht mi8 (ht _ in_8); exact ⟨(c, i), fun q hq => by cases hq; exact h⟩
    | 9 => obtain ⟨c, i, h⟩ := u_known (C := RX8) (T := TX8) (N := 6) (n := 6) ht mi9 (ht _ in_9); exact ⟨(c, i), fun q hq => by cases hq; exact h⟩
    | 10 => obtain ⟨c, i, h⟩ := u_known (C := RX9) (T := TX9) (N := 14) (n := 14) ht mi10 (ht _ in_10); exact ⟨(c, i), fun q hq => by cases hq; exact h⟩
    | 11 => obtain ⟨c, i, h⟩ := u_known (C := RX10) (T := TX10) (N := 16) (n := 16) ht mi11 (ht _ in_11); exact ⟨(c, i), fun q hq => by cases hq; exact h⟩
    | 12 => obtain ⟨c, i, h⟩ := u_known (C := RX11) (T := TX11) (N := 15) (n := 15) ht mi12 (ht _ in_12); exact ⟨(c, i), fun q hq => by cases hq; exact h⟩
    | 13 => obtain ⟨c, i, h⟩ := u_known (C := RX12) (T := TX12) (N := 117) (n := 117) ht mi13 (ht _ in_13); exact ⟨(c, i), fun q hq => by cases hq; exact h⟩
    | k + 14 => exact ⟨(0, fun _ => 0), fun q hq => by simp [vwCl] at hq⟩
  obtain ⟨f, hf⟩ := Classical.axiomOfChoice hc
  obtain ⟨c14, k14, p14, a1, a2, a3⟩ := Cond.arrayClass_spec (ht _ ma_int)
  obtain ⟨c15, k15, p15, b1, b2, b3⟩ := Cond.arrayClass_spec (ht _ ma_long)
  obtain ⟨c16, k16, p16, d1, d2, d3⟩ := Cond.arrayClass_spec (ht _ ma_byte)
  obtain ⟨c17, k17, p17, e1, e2, e3⟩ := Cond.arrayClass_spec (ht _ ma_boolean)
  obtain ⟨p18, c18, k18, g1, -, g2, g3, g4⟩ := Cond.arrayOver_spec (hts _ ao_O)
  obtain ⟨p19, c19, k19, h1, -, h2, h3, h4⟩ := arrayOverA_spec (hts _ ao_I)
  refine ⟨(fun k => (f k).1, fun k => (f k).2), fun k => match k with | 14 => c14 | 15 => c15 | 16 => c16 | 17 => c17 | 18 => c18 | _ => c19, hf, fun k q hq => ?_⟩
  match k, hq with
  | 0, hq => cases hq; exact ⟨fun n z => ⟨(fun x h => by cases h), k14, a2, p14, a3⟩, a1⟩
  | 1, hq => cases hq; exact ⟨fun n z => ⟨(fun x h => by cases h), k15, b2, p15, b3⟩, b1⟩
  | 2, hq => cases hq; exact ⟨fun n z => ⟨(fun x h => by cases h), k16, d2, p16, d3⟩, d1⟩
  | 3, hq => cases hq; exact ⟨fun n z => ⟨(fun x h => by cases h), k17, e2, p17, e3⟩, e1⟩
  | 4, hq => cases hq; exact ⟨fun n z => ⟨(fun x h => by cases h), k18, g2, p18, g3⟩, k18, p18, g2, g3, g1, g4⟩
  | 5, hq => cases hq; exact ⟨fun n z => ⟨(fun x h => by cases h), k19, h2, p19, h3⟩, h4⟩
  | k + 6, hq => simp [mm_tys] at hq
abbrev st_F : List Cond := flatC (Jvm.Cond.and given_1 narrow_1)
abbrev st_D : Term := Term.static "java/util/ArrayList" "DEFAULTCAPACITY_EMPTY_ELEMENTDATA" "[Ljava/lang/Object;"
def st_tm (i : Nat) : Term := Term.string (mm_lit.getD i ("", 0, "")).1 (mm_lit.getD i ("", 0, "")).2.1
theorem st_f1 : Cond.exactly st_D "[Ljava/lang/Object;" ∈ st_F := by decide +kernel
theorem st_f2 : Cond.arrayOf st_D (.object "java/lang/Object") ∈ st_F := by decide +kernel
theorem st_f3 : Cond.eq (.length st_D) (.int 0) ∈ st_F := by decide +kernel
theorem st_f4 : Cond.eq (.static "java/lang/String" "COMPACT_STRINGS" "Z") (.int 1) ∈ st_F := by decide +kernel
theorem st_f5 : Cond.isRef (.static "jdk/internal/util/Preconditions" "SIOOBE_FORMATTER" "Ljava/util/function/BiFunction;") ∈ st_F := by decide +kernel
theorem st_f6 : Cond.isRef (.mirror "[Ljava/lang/Object;") ∈ st_F := by decide +kernel
theorem st_s1 : ∀ i, i < 22 → Cond.exactly (st_tm i) "java/lang/String" ∈ st_F := by decide +kernel
theorem st_s2 : ∀ i, i < 22 → Cond.eq (.field (st_tm i) "java/lang/String" "coder" "B") (.int 0) ∈ st_F := by decide +kernel
theorem st_s3 : ∀ i, i < 22 → Cond.arrayOf (.field (st_tm i) "java/lang/String" "value" "[B") .byte ∈ st_F := by decide +kernel
theorem st_s4 : ∀ i, i < 22 → Cond.eq (.length (.field (st_tm i) "java/lang/String" "value" "[B")) (.int (Int32.ofNat (mm_len.getD i 0))) ∈ st_F := by decide +kernel
def st_el : Cond → Bool
  | .eq (.elem _ _) _ => true
  | _ => false
def st_nt : Cond → Bool
  | .not _ => true
  | _ => false
def st_eC (i j : Nat) : Cond := Cond.eq (.elem (.field (st_tm i) "java/lang/String" "value" "[B") (.int (Int32.ofNat j))) (.int ((mm_byt.getD i []).getD j 0))
def st_nC (i j : Nat) : Cond := Cond.not (Cond.eq (st_tm i) (st_tm j))
theorem st_E : st_F.filter st_el = (List.range 22).flatMap fun i => (List.range (mm_len.getD i 0)).map fun j => st_eC i j := by decide +kernel
theorem st_N : st_F.filter st_nt = (List.range 22).flatMap fun i => (List.range i).map fun j => st_nC j i := by decide +kernel
theorem st_s5 : ∀ i, i < 22 → ∀ j, j < mm_len.getD i 0 → st_eC i j ∈ st_F := fun i hi j hj => (List.mem_filter.mp (st_E ▸ List.mem_flatMap.mpr ⟨i, List.mem_range.mpr hi, List.mem_map.mpr ⟨j, List.mem_range.mpr hj, rfl⟩⟩ : st_eC i j ∈ st_F.filter st_el)).1
theorem st_s6a : ∀ i, i < 22 → ∀ j, j < i → st_nC j i ∈ st_F := fun i hi j hj => (List.mem_filter.mp (st_N ▸ List.mem_flatMap.mpr ⟨i, List.mem_range.mpr hi, List.mem_map.mpr ⟨j, List.mem_range.mpr hj, rfl⟩⟩ : st_nC j i ∈ st_F.filter st_nt)).1
theorem st_s6 : ∀ i, i < 22 → ∀ j, j < 22 → i ≠ j → (st_nC i j ∈ st_F ∨ st_nC j i ∈ st_F) := fun i hi j hj e => by
  by_cases q : i < j
  · exact Or.inl (st_s6a j hj i q)
  · exact Or.inr (st_s6a i hi j (by omega))
theorem st_s7 : ∀ i, i < 22 → mm_len.getD i 0 < 2 ^ 31 := by decide +kernel
theorem st_s8 : ∀ i, i < 22 → ∀ j, j < 22 → i ≠ j → (mm_len.getD i 0 ≠ mm_len.getD j 0 ∨ ∃ k, k < mm_len.getD i 0 ∧ (mm_byt.getD i []).getD k 0 ≠ (mm_byt.getD j []).getD k 0) := by decide +kernel
theorem st_s9 : ∀ i, i < 22 → Cond.stringRef (mm_lit.getD i ("", 0, "")).1 (mm_lit.getD i ("", 0, "")).2.1 (mm_lit.getD i ("", 0, "")).2.2 ∈ lw_tbl := by decide +kernel
theorem st_w1 : Cond.laysStatic "java/util/ArrayList" "DEFAULTCAPACITY_EMPTY_ELEMENTDATA" "[Ljava/lang/Object;" ∈ lw_tbl ∧ Cond.initialized "java/util/ArrayList" ∈ lw_tbl := by decide +kernel
theorem st_w2 : Cond.laysStatic "java/lang/String" "COMPACT_STRINGS" "Z" ∈ lw_tbl ∧ Cond.initialized "java/lang/String" ∈ lw_tbl := by decide +kernel
theorem st_w3 : Cond.laysStatic "jdk/internal/util/Preconditions" "SIOOBE_FORMATTER" "Ljava/util/function/BiFunction;" ∈ lw_tbl ∧ Cond.initialized "jdk/internal/util/Preconditions" ∈ lw_tbl := by decide +kernel
theorem st_w4 : Cond.declares ⟨"java/lang/Object", "getClass", "()Ljava/lang/Class;"⟩ ∈ lw_tbl := by decide +kernel
theorem st_w5 : ∀ i, i < 14 → Cond.castable (vwCl.getD i ("", fun _ => ("", "", "", false), 0)).1 "java/lang/Object" ∈ lw_tbl := by decide +kernel
/-- the first pure heap: the constants alone -/
def mm_h0 (sz aD : Nat) (cy : Nat → Nat) : mm_H := (sz, fun a => if a = aD then 18 else match (List.range 22).find? (fun i => cy (110 + i) == a) with
  | some i => 20 + i
  | none => 99, fun _ _ => 0, fun _ _ => 0, fun _ _ => none, fun _ => 0, fun i => cy (100 + i))
/-- what the pure part needs of it -/
def mI (h : mm_H) : Prop := (mm_kd h (mm_c h 0) = 18 ∧ mm_n h (mm_c h 0) = 0 ∧ mm_c h 0 < mm_sz h) ∧ (∀ i, i < 22 → mm_kd h (mm_c h (10 + i)) = 20 + i ∧ mm_c h (10 + i) < mm_sz h) ∧ ∀ i, i < 22 → mm_fb h (mm_c h (40 + i)) = some i
theorem st_G {s : State} {args : Array Value} (hts : ∀ w ∈ lw_tbl, w.before args s = true) (hs : ∀ c ∈ st_F, c.before args s = true) : ∃ (D : va_G) (cy : Nat → ClassId), mm_K D cy s ∧ mm_G cy s.heap s ∧ mm_R D cy s.heap (mm_h0 s.heap.size (cy 100) cy) s.heap ∧ mI (mm_h0 s.heap.size (cy 100) cy) := by
  obtain ⟨D, cy0, hK⟩ := st_K hts
  have hA : ∀ a : Nat, a < s.heap.size → ¬ mm_A s.heap a := fun a ha => Nat.not_le.mpr ha
  obtain ⟨aD, cD, cellD, kD, e1, e2, e3, e4, e5, e6, -⟩ := Cond.exactly_spec (hs _ st_f1)
  obtain ⟨tD, f1, cell, f2, f3, f4, f5, f6, f7, f8⟩ := va_Tof (N := 0) (f := fun _ => .null) (A := mm_A s.heap) (by decide) (hs _ st_f2) (va_eqt (hs _ st_f3)) (fun j hj => absurd hj (Nat.not_lt_zero j)) hA
  have et : tD = aD := by
    have := f1.symm.trans e1
    simpa using this
  subst et
  cases f2.symm.trans e3
  obtain ⟨mi, hM⟩ := va_Mi.of (hs _ st_f6)
  obtain ⟨adK, adV, hE, hev⟩ := vk_Sof (N := 22) (tm := st_tm) (len := mm_len) (byt := mm_byt) (A := mm_A s.heap) st_s7 (fun i hi => hs _ (st_s1 i hi)) (fun i hi => hs _ (st_s2 i hi)) (fun i hi => hs _ (st_s3 i hi)) (fun i hi => hs _ (st_s4 i hi)) (fun i hi j hj => hs _ (st_s5 i hi j hj)) (fun i j hi hj hij => by
    rcases st_s6 i hi j hj hij with h | h
    · exact Or.inl (hs _ h)
    · exact Or.inr (hs _ h)) hA
  have cyk : ∀ i, i < 22 → (fun k => if k < 100 then cy0 k else if k = 100 then tD else if k = 101 then mi else if k < 132 then adK (k - 110) else adV (k - 140)) (110 + i) = adK i := fun i hi => by
    show (if 110 + i < 100 then _ else if 110 + i = 100 then _ else if 110 + i = 101 then _ else if 110 + i < 132 then adK (110 + i - 110) else _) = _
    rw [if_neg (by omega), if_neg (by omega), if_neg (by omega), if_pos (by omega), show 110 + i - 110 = i by omega]
  have cyv : ∀ i, i < 22 → (fun k => if k < 100 then cy0 k else if k = 100 then tD else if k = 101 then mi else if k < 132 then adK (k - 110) else adV (k - 140)) (140 + i) = adV i := fun i hi => by
    show (if 140 + i < 100 then _ else if 140 + i = 100 then _ else if 140 + i = 101 then _ else if 140 + i < 132 then _ else adV (140 + i - 140)) = _
    rw [if_neg (by omega), if_neg (by omega), if_neg (by omega), if_neg (by omega), show 140 + i - 140 = i by omega]
  generalize hcy : (fun k => if k < 100 then cy0 k else if k = 100 then tD else if k = 101 then mi else if k < 132 then adK (k - 110) else adV (k - 140)) = cy at cyk cyv
  have c100 : cy 100 = tD := by rw [← hcy]; rfl
  have c101 : cy 101 = mi := by rw [← hcy]; rfl
  have hK2 : mm_K D cy s := by
    have : mm_tys cy = mm_tys cy0 := by
      unfold mm_tys
      rw [← hcy]; rfl
    unfold mm_K
    rw [this]
    exact hK
  have c18 : cD = cy 18 := by
    have h1 := (hK2.2 4 _ rfl).2
    obtain ⟨-, -, -, -, -, h2⟩ := h1
    exact Option.some.inj (e2.symm.trans h2)
  have hE2 : vk_S 22 mm_len mm_byt (fun i => cy (110 + i)) (fun i => cy (140 + i)) (mm_A s.heap) s s.heap := by
    refine ⟨fun i hi => ?_, fun i j hi hj e => hE.2 i j hi hj ?_⟩
    · have := hE.1 i hi
      show va_O _ (cy (110 + i)) _ _ _ ∧ va_OF _ _ _ _ (cy (110 + i)) _ _ _ ∧ va_OF _ _ _ (.ref (cy (140 + i))) (cy (110 + i)) _ _ _ ∧ va_T _ (cy (140 + i)) _ _ _ _ _
      rw [cyk i hi, cyv i hi]
      exact this
    · have e' : cy (110 + i) = cy (110 + j) := e
      rw [cyk i hi, cyk j hj] at e'
      exact e'
  have hDlt : tD < s.heap.size := (Array.getElem?_eq_some_iff.mp e3).1
  have hKlt : ∀ i, i < 22 → adK i < s.heap.size := fun i hi => by
    obtain ⟨cell, h1, -⟩ := (hE.1 i hi).1
    exact (Array.getElem?_eq_some_iff.mp h1).1
  have hKD : ∀ i, i < 22 → adK i ≠ tD := fun i hi e => by
    obtain ⟨cell, h1, h2, h3, -⟩ := (hE.1 i hi).1
    rw [e] at h1
    cases h1.symm.trans e3
    rw [e6] at h3
    obtain ⟨k1, q1, q2⟩ := Vm.findClass_spec e2
    obtain ⟨k2, q3, q4⟩ := Vm.findClass_spec h3
    cases q1.symm.trans q3
    exact absurd (q2.symm.trans q4) (by decide)
  have hVV : ∀ i j, i < 22 → j < 22 → adV i = adV j → i = j := fun i j hi hj e => by
    by_cases hij : i = j
    · exact hij
    · obtain ⟨c1, a1, -, -, a4, a5, a6, -⟩ := (hE.1 i hi).2.2.2
      obtain ⟨c2, b1, -, -, b4, b5, b6, -⟩ := (hE.1 j hj).2.2.2
      rw [e] at a1
      cases a1.symm.trans b1
      have hl : mm_len.getD i 0 = mm_len.getD j 0 := (nI_eq (by have := st_s7 i hi; omega) (by have := st_s7 j hj; omega)).mp (a5.symm.trans b5)
      rcases st_s8 i hi j hj hij with h | ⟨k, h1, h2⟩
      · exact absurd hl h
      · have := (a6 k h1).symm.trans (b6 k (by omega))
        exact absurd (by simpa using this) h2
  refine ⟨D, cy, hK2, ⟨?_, ?_, ?_, ?_, ?_, ?_, ?_, ?_, hE2, ?_⟩, ⟨rfl, Nat.le_refl _, fun _ _ => rfl, fun a ha => Or.inr ?_, fun i => rfl, fun a h1 h2 => ?_, fun a h1 h2 => ?_⟩, ⟨?_, ?_, ?_⟩, fun i hi => ?_, fun i hi => ?_⟩
  · rw [c100]
    exact va_Zof (hts _ st_w1.1) (hts _ st_w1.2) e1 hA
  · exact va_Zof (hts _ st_w2.1) (hts _ st_w2.2) (va_eqi (hs _ st_f4)) hA
  · exact va_Zqof (hts _ st_w3.1) (hts _ st_w3.2) (hs _ st_f5) hA
  · rw [c101]; exact hM
  · exact va_Dc.of (hts _ st_w4)
  · exact va_AO.of (hts _ ao_O)
  · exact hts _ ao_I
  · intro i r hr
    have hi : i < 14 := (List.getElem?_eq_some_iff.mp hr).1
    have h1 := hts _ (st_w5 i hi)
    have h2 : vwCl.getD i ("", fun _ => ("", "", "", false), 0) = r := by
      rw [List.getD_eq_getElem?_getD, hr]; rfl
    rw [h2] at h1
    exact va_Nw.of rfl h1
  · intro i q hq
    have hi : i < 22 := (List.getElem?_eq_some_iff.mp hq).1
    have h2 : mm_lit.getD i ("", 0, "") = q := by
      rw [List.getD_eq_getElem?_getD, hq]; rfl
    have h1 := hts _ (st_s9 i hi)
    have h3 := hev i hi
    unfold st_tm at h3
    rw [h2] at h1 h3
    rw [cyk i hi]
    exact vk_R.of h1 h3
  · have hd : a = cy 100 := by
      by_cases e : a = cy 100
      · exact e
      · exfalso
        have : mm_kd (mm_h0 s.heap.size (cy 100) cy) a = match (List.range 22).find? (fun i => cy (110 + i) == a) with
          | some i => 20 + i
          | none => 99 := if_neg e
        rw [this] at ha
        split at ha
        · exact absurd ha (Nat.not_lt.mpr (Nat.le_add_right 20 _))
        · exact absurd ha (by decide)
    subst hd
    rw [c100]
    exact ⟨if_pos rfl, rfl, hDlt, cellD, e3, e6.trans c18, f4, e5, f6⟩
  · have hd : a ≠ cy 100 := fun e => by
      have : mm_kd (mm_h0 s.heap.size (cy 100) cy) a = 18 := if_pos e
      omega
    have e0 : mm_kd (mm_h0 s.heap.size (cy 100) cy) a = match (List.range 22).find? (fun i => cy (110 + i) == a) with
      | some i => 20 + i
      | none => 99 := if_neg hd
    rw [e0] at h1 h2 ⊢
    cases hf : (List.range 22).find? (fun i => cy (110 + i) == a) with
    | none => rw [hf] at h2; exact absurd h2 (by decide)
    | some i =>
      have := List.find?_some hf
      show a = cy (100 + (10 + (20 + i - 20)))
      rw [show 100 + (10 + (20 + i - 20)) = 110 + i by omega]
      simpa using (beq_iff_eq.mp this).symm
  · exfalso
    by_cases hd : a = cy 100
    · have : mm_kd (mm_h0 s.heap.size (cy 100) cy) a = 18 := if_pos hd
      omega
    · have e0 : mm_kd (mm_h0 s.heap.size (cy 100) cy) a = match (List.range 22).find? (fun i => cy (110 + i) == a) with
        | some i => 20 + i
        | none => 99 := if_neg hd
      rw [e0] at h1 h2
      cases hf : (List.range 22).find? (fun i => cy (110 + i) == a) with
      | none => rw [hf] at h2; exact absurd h2 (by decide)
      | some i =>
        rw [hf] at h1
        have := List.mem_range.mp (List.mem_of_find?_eq_some hf)
        have h1 : 60 ≤ 20 + i := h1
        omega
  · exact if_pos rfl
  · rfl
  · show cy 100 < s.heap.size
    rw [c100]; exact hDlt
  · have e9 : cy (100 + (10 + i)) = adK i := by rw [show 100 + (10 + i) = 110 + i by omega]; exact cyk i hi
    have hfi : (List.range 22).find? (fun j => cy (110 + j) == adK i) = some i := by
      cases hf : (List.range 22).find? (fun j => cy (110 + j) == adK i) with
      | none =>
        have := List.find?_eq_none.mp hf i (List.mem_range.mpr hi)
        simp [cyk i hi] at this
      | some j =>
        have h1 := List.mem_range.mp (List.mem_of_find?_eq_some hf)
        have h2 := List.find?_some hf
        have h3 : cy (110 + j) = adK i := by simpa using h2
        rw [cyk j h1] at h3
        rw [hE.2 j i h1 hi h3]
    refine ⟨?_, ?_⟩
    · show (if cy (100 + (10 + i)) = cy 100 then 18 else match (List.range 22).find? (fun j => cy (110 + j) == cy (100 + (10 + i))) with
        | some j => 20 + j
        | none => 99) = 20 + i
      rw [e9, if_neg (by rw [c100]; exact hKD i hi), hfi]
    · show cy (100 + (10 + i)) < s.heap.size
      rw [e9]; exact hKlt i hi
  · have e9 : ∀ j, j < 22 → cy (100 + (40 + j)) = adV j := fun j hj => by rw [show 100 + (40 + j) = 140 + j by omega]; exact cyv j hj
    show (List.range 22).find? (fun j => cy (100 + (40 + j)) == cy (100 + (40 + i))) = some i
    cases hf : (List.range 22).find? (fun j => cy (100 + (40 + j)) == cy (100 + (40 + i))) with
    | none =>
      have := List.find?_eq_none.mp hf i (List.mem_range.mpr hi)
      simp at this
    | some j =>
      have h1 := List.mem_range.mp (List.mem_of_find?_eq_some hf)
      have h2 := List.find?_some hf
      have h3 : cy (100 + (40 + j)) = cy (100 + (40 + i)) := by simpa using h2
      rw [e9 j h1, e9 i hi] at h3
      rw [hVV j i h1 hi h3]
