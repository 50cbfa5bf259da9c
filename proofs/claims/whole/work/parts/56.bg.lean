/-! the bargains. A 0 k the object, A 1 k, A 2 k, A 3 k its rows of sureties, claims, claimants; U 0 k seller, 1 buyer, 2 owed, 3 how many sureties, 4, 5, 6 the sureties, 7, 8, 9 the claims; T a man's town -/
def mSur (B : Nat) (hx hy : mm_H) (nm : Nat) (A U : Nat → Nat → Nat) (T : Nat → Int32) (k i : Nat) : Prop := (mm_i hx (A 1 k) i = nI (U (4 + i) k) ∧ mm_i hy (B + 107) (3 * k + i) = nI (U (4 + i) k) ∧ U (4 + i) k < nm) ∧ (mm_i hx (A 2 k) i = nI (U (7 + i) k) ∧ mm_i hy (B + 108) (3 * k + i) = nI (U (7 + i) k)) ∧ mm_i hy (B + 109) (3 * k + i) = mm_i hx (A 3 k) i ∧ (mm_i hx (A 3 k) i = -1 ∨ ∃ c, c < nm ∧ mm_i hx (A 3 k) i = nI c ∧ T c = T (U (4 + i) k)) ∧ mm_i hy (B + 110) (3 * k + i) = T (U (4 + i) k)
def mBar (B : Nat) (hx hy : mm_H) (nm : Nat) (A U : Nat → Nat → Nat) (T : Nat → Int32) (k : Nat) : Prop := (mm_i hx (A 0 k) 0 = nI (U 0 k) ∧ mm_i hy (B + 96) k = nI (U 0 k) ∧ U 0 k < nm) ∧ (mm_i hx (A 0 k) 1 = nI (U 1 k) ∧ mm_i hy (B + 97) k = nI (U 1 k) ∧ U 1 k < nm) ∧ (mm_i hx (A 0 k) 6 = nI (U 2 k) ∧ mm_i hy (B + 100) k = nI (U 2 k)) ∧ (mm_i hx (A 0 k) 9 = nI (U 3 k) ∧ mm_i hy (B + 106) k = nI (U 3 k) ∧ U 3 k ≤ 3) ∧ (mm_i hy (B + 98) k = mm_i hx (A 0 k) 2 ∧ mm_i hy (B + 99) k = mm_i hx (A 0 k) 3 ∧ mm_i hy (B + 101) k = mm_i hx (A 0 k) 4 ∧ mm_i hy (B + 103) k = mm_i hx (A 0 k) 5 ∧ mm_i hy (B + 102) k = mm_i hx (A 0 k) 7 ∧ mm_i hy (B + 104) k = mm_i hx (A 0 k) 8) ∧ ((mm_i hx (A 0 k) 4 = -1 ∧ U 2 k = 0) ∨ 0 ≤ mm_i hx (A 0 k) 4) ∧ ((mm_i hx (A 0 k) 8 = -1 ∨ ∃ c, c < nm ∧ mm_i hx (A 0 k) 8 = nI c ∧ T c = T (U 0 k)) ∧ mm_i hy (B + 105) k = T (U 0 k)) ∧ (∀ i, i < U 3 k → mSur B hx hy nm A U T k i) ∧ (∀ i, U 3 k ≤ i → i < 3 → mm_i hx (A 2 k) i = 0 ∧ U (7 + i) k = 0) ∧ U 2 k + U 7 k + U 8 k + U 9 k ≤ 1000000
def mBrf (B : Nat) (ow : Nat → Nat × Nat) (hx : mm_H) (A : Nat → Nat → Nat) (k : Nat) : Prop := (mm_r hx (A 0 k) 10 = some (A 1 k) ∧ mm_r hx (A 0 k) 11 = some (A 2 k) ∧ mm_r hx (A 0 k) 12 = some (A 3 k)) ∧ (Lv B ow hx 5 k (A 1 k) ∧ Lv B ow hx 6 k (A 2 k) ∧ Lv B ow hx 7 k (A 3 k)) ∧ (mm_kd hx (A 1 k) = 14 ∧ mm_kd hx (A 2 k) = 14 ∧ mm_kd hx (A 3 k) = 14) ∧ mm_n hx (A 1 k) = 3 ∧ mm_n hx (A 2 k) = 3 ∧ mm_n hx (A 3 k) = 3
def RBg (B : Nat) (ow : Nat → Nat × Nat) (hx hy : mm_H) (nm n : Nat) (A U : Nat → Nat → Nat) (T : Nat → Int32) : Prop := n ≤ 300 ∧ mL B ow hx (B + 3) 2 1 n (A 0) ∧ mm_i hy (B + 66) 43 = nI n ∧ (∀ k, k < n → mBar B hx hy nm A U T k ∧ mBrf B ow hx A k) ∧ ∀ c, c < nm → mm_i hy (B + 67) c = T c ∧ 0 ≤ T c ∧ T c ≤ 8
section BG
variable {B : Nat} {h hx hy hx' hy' : mm_H} {ow ow' : Nat → Nat × Nat} {n nm nl nb : Nat} {am al : Nat → Nat} {P C : Nat → Nat} {A U : Nat → Nat → Nat} {T : Nat → Int32}
/-- the modules of the bargains -/
abbrev nBg (ms : List Nat) : Prop := 7 ∉ ms ∧ 27 ∉ ms ∧ 28 ∉ ms ∧ 29 ∉ ms ∧ 30 ∉ ms
abbrev nBh (ms : List Nat) : Prop := 107 ∉ ms ∧ 127 ∉ ms ∧ 128 ∉ ms ∧ 129 ∉ ms ∧ 130 ∉ ms
theorem mBrf.up {k : Nat} (M : mBrf B ow hx A k) {ms : List Nat} (L0 : Lv B ow hx 3 k (A 0 k)) (x : mY B ow ms hx hx') (o : mO ow ow' hx) (h1 : 7 ∉ ms) : mBrf B ow' hx' A k := by
  obtain ⟨⟨a1, a2, a3⟩, ⟨b1, b2, b3⟩, ⟨c1, c2, c3⟩, d1, d2, d3⟩ := M
  exact ⟨⟨(x.rL (m := 7) L0 rfl h1).trans a1, (x.rL (m := 7) L0 rfl h1).trans a2, (x.rL (m := 7) L0 rfl h1).trans a3⟩, ⟨b1.up x o, b2.up x o, b3.up x o⟩, ⟨(x.kd b1.2.1).trans c1, (x.kd b2.2.1).trans c2, (x.kd b3.2.1).trans c3⟩, (x.n b1.2.1).trans d1, (x.n b2.2.1).trans d2, (x.n b3.2.1).trans d3⟩
theorem mBar.up {k : Nat} (M : mBar B hx hy nm A U T k) (F : mBrf B ow hx A k) {ms : List Nat} (L0 : Lv B ow hx 3 k (A 0 k)) (x : mY B ow ms hx hx') {ms' : List Nat} (y : mY B ow ms' hy hy') (h1 : nBg ms) (h2 : nBh ms') : mBar B hx' hy' nm A U T k := by
  obtain ⟨p1, p2, p3, p4, p5⟩ := h1
  obtain ⟨q1, q2, q3, q4, q5⟩ := h2
  have e0 : mm_i hx' (A 0 k) 0 = mm_i hx (A 0 k) 0 := x.iL (m := 7) L0 rfl p1
  have e1 : mm_i hx' (A 0 k) 1 = mm_i hx (A 0 k) 1 := x.iL (m := 7) L0 rfl p1
  have e2 : mm_i hx' (A 0 k) 2 = mm_i hx (A 0 k) 2 := x.iL (m := 7) L0 rfl p1
  have e3 : mm_i hx' (A 0 k) 3 = mm_i hx (A 0 k) 3 := x.iL (m := 7) L0 rfl p1
  have e4 : mm_i hx' (A 0 k) 4 = mm_i hx (A 0 k) 4 := x.iL (m := 7) L0 rfl p1
  have e5 : mm_i hx' (A 0 k) 5 = mm_i hx (A 0 k) 5 := x.iL (m := 7) L0 rfl p1
  have e6 : mm_i hx' (A 0 k) 6 = mm_i hx (A 0 k) 6 := x.iL (m := 27) L0 rfl p2
  have e7 : mm_i hx' (A 0 k) 7 = mm_i hx (A 0 k) 7 := x.iL (m := 30) L0 rfl p5
  have e8 : mm_i hx' (A 0 k) 8 = mm_i hx (A 0 k) 8 := x.iL (m := 28) L0 rfl p3
  have e9 : mm_i hx' (A 0 k) 9 = mm_i hx (A 0 k) 9 := x.iL (m := 29) L0 rfl p4
  have v1 : ∀ i, mm_i hx' (A 1 k) i = mm_i hx (A 1 k) i := fun i => x.iL (m := 29) F.2.1.1 rfl p4
  have v2 : ∀ i, mm_i hx' (A 2 k) i = mm_i hx (A 2 k) i := fun i => x.iL (m := 27) F.2.1.2.1 rfl p2
  have v3 : ∀ i, mm_i hx' (A 3 k) i = mm_i hx (A 3 k) i := fun i => x.iL (m := 28) F.2.1.2.2 rfl p3
  have f96 : ∀ i, mm_i hy' (B + 96) i = mm_i hy (B + 96) i := fun i => y.iF (m := 107) (by omega) rfl q1
  have f97 : ∀ i, mm_i hy' (B + 97) i = mm_i hy (B + 97) i := fun i => y.iF (m := 107) (by omega) rfl q1
  have f98 : ∀ i, mm_i hy' (B + 98) i = mm_i hy (B + 98) i := fun i => y.iF (m := 107) (by omega) rfl q1
  have f99 : ∀ i, mm_i hy' (B + 99) i = mm_i hy (B + 99) i := fun i => y.iF (m := 107) (by omega) rfl q1
  have f100 : ∀ i, mm_i hy' (B + 100) i = mm_i hy (B + 100) i := fun i => y.iF (m := 127) (by omega) rfl q2
  have f101 : ∀ i, mm_i hy' (B + 101) i = mm_i hy (B + 101) i := fun i => y.iF (m := 107) (by omega) rfl q1
  have f102 : ∀ i, mm_i hy' (B + 102) i = mm_i hy (B + 102) i := fun i => y.iF (m := 130) (by omega) rfl q5
  have f103 : ∀ i, mm_i hy' (B + 103) i = mm_i hy (B + 103) i := fun i => y.iF (m := 107) (by omega) rfl q1
  have f104 : ∀ i, mm_i hy' (B + 104) i = mm_i hy (B + 104) i := fun i => y.iF (m := 128) (by omega) rfl q3
  have f105 : ∀ i, mm_i hy' (B + 105) i = mm_i hy (B + 105) i := fun i => y.iF (m := 128) (by omega) rfl q3
  have f106 : ∀ i, mm_i hy' (B + 106) i = mm_i hy (B + 106) i := fun i => y.iF (m := 129) (by omega) rfl q4
  have f107 : ∀ i, mm_i hy' (B + 107) i = mm_i hy (B + 107) i := fun i => y.iF (m := 129) (by omega) rfl q4
  have f108 : ∀ i, mm_i hy' (B + 108) i = mm_i hy (B + 108) i := fun i => y.iF (m := 127) (by omega) rfl q2
  have f109 : ∀ i, mm_i hy' (B + 109) i = mm_i hy (B + 109) i := fun i => y.iF (m := 128) (by omega) rfl q3
  have f110 : ∀ i, mm_i hy' (B + 110) i = mm_i hy (B + 110) i := fun i => y.iF (m := 128) (by omega) rfl q3
  unfold mBar mSur at *
  simp only [e0, e1, e2, e3, e4, e5, e6, e7, e8, e9, v1, v2, v3, f96, f97, f98, f99, f100, f101, f102, f103, f104, f105, f106, f107, f108, f109, f110]
  exact M
theorem mBar.tw {k : Nat} (M : mBar B hx hy nm A U T k) {T' : Nat → Int32} {nm' : Nat} (e : nm ≤ nm') (eT : ∀ c, c < nm → T' c = T c) : mBar B hx hy nm' A U T' k := by
  obtain ⟨⟨a1, a2, a3⟩, ⟨b1, b2, b3⟩, c1, d1, g1, i1, ⟨j1, j2⟩, k1, l1, m1⟩ := M
  refine ⟨⟨a1, a2, by omega⟩, ⟨b1, b2, by omega⟩, c1, d1, g1, i1, ⟨?_, by rw [eT _ a3]; exact j2⟩, fun i hi => ?_, l1, m1⟩
  · rcases j1 with j1 | ⟨c, y1, y2, y3⟩
    · exact Or.inl j1
    · exact Or.inr ⟨c, by omega, y2, by rw [eT _ y1, eT _ a3]; exact y3⟩
  · obtain ⟨⟨z1, z2, z3⟩, z4, z5, z6, z7⟩ := k1 i hi
    refine ⟨⟨z1, z2, by omega⟩, z4, z5, ?_, by rw [eT _ z3]; exact z7⟩
    rcases z6 with z6 | ⟨c, y1, y2, y3⟩
    · exact Or.inl z6
    · exact Or.inr ⟨c, by omega, y2, by rw [eT _ y1, eT _ z3]; exact y3⟩
theorem RBg.up (R : RBg B ow hx hy nm n A U T) {ms : List Nat} (x : mY B ow ms hx hx') (o : mO ow ow' hx) {ms' : List Nat} (y : mY B ow ms' hy hy') (h1 : nBg ms) (h2 : nBh ms') (h3 : 104 ∉ ms') : RBg B ow' hx' hy' nm n A U T := by
  obtain ⟨a1, a2, a3, a4, a5⟩ := R
  refine ⟨a1, a2.up2 rfl (by omega) x o (m := 7) rfl rfl (fun _ => rfl) h1.1, (y.iF (m := 107) (by omega) rfl h2.1).trans a3, fun k hk => ⟨(a4 k hk).1.up (a4 k hk).2 (a2.2.2.2 k hk).1 x y h1 h2, (a4 k hk).2.up (a2.2.2.2 k hk).1 x o h1.1⟩, fun c hc => ?_⟩
  rw [y.iF (m := 104) (by omega) rfl h3]; exact a5 c hc
end BG
