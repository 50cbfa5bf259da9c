/-! modules: which cell belongs to which. those of the reference by 100 more; 0 scratch, 1 the day, 2 coins, 3 elders, 4 men, 5 sailing, 6 lots, 7 bargains, 8 laws, 9 tape, 10 told, 11 ports, 12 news, 13 weighings, 14 ships, 15 hands, 16 books, 18 plan, 24 who is gone, 26 amounts and owners, 27 what is owed, 28 to whom, 29 sureties, 30 fines, 31 since when a law binds -/
def mdY : List Nat := [100, 101, 104, 100, 100, 100, 100, 100, 100, 100, 106, 100, 100, 100, 100, 100, 100, 109, 100, 100, 100, 100, 100, 108, 100, 100, 100, 100, 100, 100, 100, 100, 100, 100, 100, 100, 100, 100, 111, 100, 100, 100, 100, 107, 100, 100, 100, 100, 100, 100, 100, 100, 100, 100, 100, 100, 100, 100, 100, 110, 110, 113, 100, 100, 100, 100, 100, 100, 100, 100, 100, 100, 100, 103, 103, 100, 114, 112, 100, 100, 100, 100, 100, 100, 100, 100, 100, 100, 118, 118, 118, 118, 100, 100, 100, 100, 100, 100, 100, 100, 100, 100, 115, 115, 100, 100, 100, 100, 116, 100, 100, 100, 100, 100, 116, 116, 100]
def mdA : List Nat := [0, 4, 6, 7, 2, 0, 9, 0, 0, 0, 0, 0, 0, 0, 8, 0, 0, 13, 13, 13, 13, 13, 13, 0, 14, 14, 14, 14, 12, 12, 12, 12, 12, 11, 11, 11, 11, 18, 18, 18, 18, 18, 18, 18, 18, 18, 18, 15, 15, 15, 15, 15, 16, 16, 16, 16, 16, 16, 16, 16, 16, 16, 16, 16, 16, 3, 100, 104, 102, 104, 124, 105, 102, 104, 106, 126, 126, 106, 106, 109, 108, 131, 108, 108, 108, 108, 108, 108, 108, 100, 100, 100, 111, 111, 111, 111, 107, 107, 107, 107, 127, 107, 130, 107, 128, 128, 129, 129, 127, 128, 128, 113, 113, 113, 113, 113, 103, 114, 114, 114, 114, 112, 112, 112, 112, 112, 105, 118, 118, 100, 100, 100, 100, 100, 100, 100, 100, 115, 115, 115, 115, 116, 116, 116, 116, 116, 116]
def mdo (j k : Nat) : Nat := if j = 0 then (if k = 11 then 1 else if k = 12 then 2 else if k = 13 then 3 else if k = 14 then 3 else 0) else if j = 5 then (if k = 1 then 9 else 0) else if j = 12 then (if k = 0 then 8 else 0) else if j = 13 then (if k = 3 then 10 else if k = 4 then 10 else 0) else if j = 23 then (if k = 4 then 14 else if k = 10 then 12 else if k = 15 then 11 else 0) else if j = 66 then mdY.getD k 0 else mdA.getD j 0
def mdt (t : Nat × Nat) (k : Nat) : Nat := if t.1 = 1 then (if k = 3 then 2 else if k = 4 then 24 else if k = 5 then 5 else if k = 6 then 5 else 4) else if t.1 = 2 then (if k = 3 then 26 else if k = 4 then 26 else 6) else if t.1 = 3 then (if k = 6 then 27 else if k = 7 then 30 else if k = 8 then 28 else if k = 9 then 29 else 7) else if t.1 = 4 then (if k = 2 then 31 else 8) else if t.1 = 5 then 29 else if t.1 = 6 then 27 else if t.1 = 7 then 28 else if t.1 = 8 then 8 else if t.1 = 9 then 8 else if t.1 = 10 then 8 else if t.1 = 11 then 3 else if t.1 = 12 then (if t.2 = 0 then 4 else if t.2 = 1 then 6 else if t.2 = 2 then 7 else 8) else if t.1 = 13 then 16 else 0
def md (B : Nat) (ow : Nat → Nat × Nat) (a k : Nat) : Nat := if a < B then 99 else if a < B + 147 then mdo (a - B) k else mdt (ow a) k
def wM (B : Nat) (ow : Nat → Nat × Nat) (ms : List Nat) : Nat → Nat → Prop := fun a k => md B ow a k ∈ ms
/-- what changes in the modules ms alone -/
abbrev mY (B : Nat) (ow : Nat → Nat × Nat) (ms : List Nat) (h h' : mm_H) : Prop := mX B (wM B ow ms) h h'
section MD
variable {B : Nat} {h h' : mm_H} {ow ow' : Nat → Nat × Nat} {ms : List Nat}
theorem md_f {j k : Nat} (hj : j < 147) : md B ow (B + j) k = mdo j k := by
  unfold md
  rw [if_neg (by omega), if_pos (by omega), Nat.add_sub_cancel_left]
theorem md_0 {k : Nat} : md B ow B k = mdo 0 k := md_f (j := 0) (by omega)
theorem md_l {t i a k : Nat} (L : Lv B ow h t i a) : md B ow a k = mdt (t, i) k := by
  have := L.1
  unfold md
  rw [if_neg (by omega), if_neg (by omega), L.2.2]
theorem wM_f {j k m : Nat} (hj : j < 147) (e : mdo j k = m) (hm : m ∉ ms) : ¬ wM B ow ms (B + j) k := by
  unfold wM; rw [md_f hj, e]; exact hm
theorem wM_0 {k m : Nat} (e : mdo 0 k = m) (hm : m ∉ ms) : ¬ wM B ow ms B k := wM_f (j := 0) (by omega) e hm
theorem wM_l {t i a k m : Nat} (L : Lv B ow h t i a) (e : mdt (t, i) k = m) (hm : m ∉ ms) : ¬ wM B ow ms a k := by
  unfold wM; rw [md_l L, e]; exact hm
theorem wM_F {j k m : Nat} (hj : j < 147) (e : mdo j k = m) (hm : m ∈ ms) : wM B ow ms (B + j) k := by
  unfold wM; rw [md_f hj, e]; exact hm
theorem wM_Z {k m : Nat} (e : mdo 0 k = m) (hm : m ∈ ms) : wM B ow ms B k := wM_F (j := 0) (by omega) e hm
theorem wM_L {t i a k m : Nat} (L : Lv B ow h t i a) (e : mdt (t, i) k = m) (hm : m ∈ ms) : wM B ow ms a k := by
  unfold wM; rw [md_l L, e]; exact hm
/-- cells that are kept -/
theorem mX.iF (x : mY B ow ms h h') {j k m : Nat} (hj : j < 147) (e : mdo j k = m) (hm : m ∉ ms) : mm_i h' (B + j) k = mm_i h (B + j) k := x.i (by have := x.1.2.2; omega) (wM_f hj e hm)
theorem mX.jF (x : mY B ow ms h h') {j k m : Nat} (hj : j < 147) (e : mdo j k = m) (hm : m ∉ ms) : mm_j h' (B + j) k = mm_j h (B + j) k := x.j (by have := x.1.2.2; omega) (wM_f hj e hm)
theorem mX.rF (x : mY B ow ms h h') {j k m : Nat} (hj : j < 147) (e : mdo j k = m) (hm : m ∉ ms) : mm_r h' (B + j) k = mm_r h (B + j) k := x.r (by have := x.1.2.2; omega) (wM_f hj e hm)
theorem mX.i0 (x : mY B ow ms h h') {k m : Nat} (e : mdo 0 k = m) (hm : m ∉ ms) : mm_i h' B k = mm_i h B k := x.iF (j := 0) (by omega) e hm
theorem mX.j0 (x : mY B ow ms h h') {k m : Nat} (e : mdo 0 k = m) (hm : m ∉ ms) : mm_j h' B k = mm_j h B k := x.jF (j := 0) (by omega) e hm
theorem mX.r0 (x : mY B ow ms h h') {k m : Nat} (e : mdo 0 k = m) (hm : m ∉ ms) : mm_r h' B k = mm_r h B k := x.rF (j := 0) (by omega) e hm
theorem mX.iL (x : mY B ow ms h h') {t i a k m : Nat} (L : Lv B ow h t i a) (e : mdt (t, i) k = m) (hm : m ∉ ms) : mm_i h' a k = mm_i h a k := x.i L.2.1 (wM_l L e hm)
theorem mX.rL (x : mY B ow ms h h') {t i a k m : Nat} (L : Lv B ow h t i a) (e : mdt (t, i) k = m) (hm : m ∉ ms) : mm_r h' a k = mm_r h a k := x.r L.2.1 (wM_l L e hm)
/-- the writing of a cell -/
theorem mX.IF (x : mY B ow ms h h') {j k m : Nat} {v : Int32} (hj : j < 147) (e : mdo j k = m) (hm : m ∈ ms) : mY B ow ms h (mm_setI h' (B + j) k v) := x.I (Or.inl (wM_F hj e hm))
theorem mX.JF (x : mY B ow ms h h') {j k m : Nat} {v : Int64} (hj : j < 147) (e : mdo j k = m) (hm : m ∈ ms) : mY B ow ms h (mm_setJ h' (B + j) k v) := x.J (Or.inl (wM_F hj e hm))
theorem mX.I0 (x : mY B ow ms h h') {k m : Nat} {v : Int32} (e : mdo 0 k = m) (hm : m ∈ ms) : mY B ow ms h (mm_setI h' B k v) := x.I (Or.inl (wM_Z e hm))
theorem mX.J0 (x : mY B ow ms h h') {k m : Nat} {v : Int64} (e : mdo 0 k = m) (hm : m ∈ ms) : mY B ow ms h (mm_setJ h' B k v) := x.J (Or.inl (wM_Z e hm))
theorem mX.IL (x : mY B ow ms h h') {t i a k m : Nat} {v : Int32} {g : mm_H} (L : Lv B ow g t i a) (e : mdt (t, i) k = m) (hm : m ∈ ms) : mY B ow ms h (mm_setI h' a k v) := x.I (Or.inl (wM_L L e hm))
theorem mX.INw (x : mY B ow ms h h') {a k : Nat} {v : Int32} (ha : mm_sz h ≤ a) : mY B ow ms h (mm_setI h' a k v) := x.I (Or.inr ha)
theorem mX.owx (x : mY B ow' ms h h') (o : mO ow ow' h) : mY B ow ms h h' := x.up fun a k ha z => by
  unfold wM md at *
  rwa [o a ha] at z
/-- the frame of a second step, told by the owners behind the first -/
theorem mX.tr2 {h2 : mm_H} (x : mY B ow ms h h') (o : mO ow ow' h) (y : mY B ow' ms h' h2) : mY B ow ms h h2 := by
  refine ⟨⟨Nat.le_trans x.1.1 y.1.1, y.1.2.1.trans x.1.2.1, x.1.2.2⟩, fun a ha => ?_, fun a k ha => ?_⟩
  · obtain ⟨p1, p2⟩ := x.2.1 a ha
    obtain ⟨q1, q2⟩ := y.2.1 a (Nat.lt_of_lt_of_le ha x.1.1)
    exact ⟨q1.trans p1, q2.trans p2⟩
  · obtain ⟨p1, p2⟩ := x.2.2 a k ha
    obtain ⟨q1, q2⟩ := y.2.2 a k (Nat.lt_of_lt_of_le ha x.1.1)
    refine ⟨fun w => ?_, fun w => (q2 w).trans (p2 w)⟩
    have w2 : ¬ wM B ow' ms a k := by
      unfold wM md at *
      rwa [o a ha]
    exact ⟨(q1 w2).1.trans (p1 w).1, (q1 w2).2.1.trans (p1 w).2.1, (q1 w2).2.2.trans (p1 w).2.2⟩
theorem wM_le {ms' : List Nat} (x : mY B ow ms h h') (e : ∀ m, m ∈ ms → m ∈ ms') : mY B ow ms' h h' := x.up fun _ _ _ z => e _ z
theorem wM_wL {l q m j : Nat} (x : mX B (wL B ow l q) h h') (hl : l = B + j) (hj : j < 147) (e0 : ∀ k, k ≤ 2 → mdo j k = m) (e : ∀ k, mdt (12, q) k = m) (hm : m ∈ ms) : mY B ow ms h h' := x.up fun a k ha z => by
  rcases z with ⟨z1, z2⟩ | ⟨z1, z2⟩
  · subst z1; subst hl; exact wM_F hj (e0 k z2) hm
  · unfold wM md
    rw [if_neg (by omega), if_neg (by omega), z2, e]; exact hm
theorem mL.up2 {l q kd n j m : Nat} {ad : Nat → Nat} (L : mL B ow h l q kd n ad) (hl : l = B + j) (hj : j < 147) (x : mY B ow ms h h') (o : mO ow ow' h) (e0 : mdo j 1 = m) (e1 : mdo j 2 = m) (e : ∀ k, mdt (12, q) k = m) (hm : m ∉ ms) : mL B ow' h' l q kd n ad := by
  subst hl
  refine L.up (by omega) x o ⟨wM_f hj e0 hm, wM_f hj e1 hm⟩ (fun a k v => wM_l v (e k) hm)
end MD
