/-! heaps that grow: what may change, who owns a cell, the lists -/
def rV (B : Nat) (a k : Nat) : Prop := (a = B ∧ k = 13) ∨ ((a = B + 1 ∨ a = B + 2 ∨ a = B + 3 ∨ a = B + 14) ∧ k = 1) ∨ (a = B + 52 ∧ k = 9) ∨ B + 147 ≤ a
def mX (B : Nat) (W : Nat → Nat → Prop) (h h' : mm_H) : Prop := (mm_sz h ≤ mm_sz h' ∧ mm_c h' = mm_c h ∧ B + 147 ≤ mm_sz h) ∧ (∀ a, a < mm_sz h → mm_kd h' a = mm_kd h a ∧ mm_n h' a = mm_n h a) ∧ ∀ a k, a < mm_sz h → (¬ W a k → mm_i h' a k = mm_i h a k ∧ mm_j h' a k = mm_j h a k ∧ mm_r h' a k = mm_r h a k) ∧ (¬ rV B a k → mm_r h' a k = mm_r h a k)
theorem st_okr : ∀ j, j < 144 → (st_r.getD j (0, 0, 0)).1 < 147 ∧ ¬ ((st_r.getD j (0, 0, 0)).1 = 0 ∧ (st_r.getD j (0, 0, 0)).2.1 = 13) ∧ ¬ (((st_r.getD j (0, 0, 0)).1 = 1 ∨ (st_r.getD j (0, 0, 0)).1 = 2 ∨ (st_r.getD j (0, 0, 0)).1 = 3 ∨ (st_r.getD j (0, 0, 0)).1 = 14) ∧ (st_r.getD j (0, 0, 0)).2.1 = 1) ∧ ¬ ((st_r.getD j (0, 0, 0)).1 = 52 ∧ (st_r.getD j (0, 0, 0)).2.1 = 9) := by decide +kernel
section MX
variable {B : Nat} {W V : Nat → Nat → Prop} {h h' h1 h2 : mm_H}
theorem mX.S (x : mX B W h h') (S : mS B h) : mS B h' := by
  obtain ⟨s1, s2, s3⟩ := S
  refine ⟨Nat.le_trans s1 x.1.1, fun j hj => ?_, fun j hj => ?_⟩
  · rw [(x.2.1 (B + j) (by omega)).1, (x.2.1 (B + j) (by omega)).2]
    exact s2 j hj
  · obtain ⟨o1, o2, o3, o4⟩ := st_okr j hj
    rw [(x.2.2 _ _ (by omega)).2 (fun z => ?_)]
    · exact s3 j hj
    · rcases z with ⟨z1, z2⟩ | ⟨z1, z2⟩ | ⟨z1, z2⟩ | z1
      · exact o2 ⟨by omega, z2⟩
      · exact o3 ⟨by omega, z2⟩
      · exact o4 ⟨by omega, z2⟩
      · omega
theorem mX.rf (hB : B + 147 ≤ mm_sz h) : mX B W h h := ⟨⟨Nat.le_refl _, rfl, hB⟩, fun _ _ => ⟨rfl, rfl⟩, fun _ _ _ => ⟨fun _ => ⟨rfl, rfl, rfl⟩, fun _ => rfl⟩⟩
theorem mX.tr (x : mX B W h h1) (y : mX B W h1 h2) : mX B W h h2 := by
  refine ⟨⟨Nat.le_trans x.1.1 y.1.1, y.1.2.1.trans x.1.2.1, x.1.2.2⟩, fun a ha => ?_, fun a k ha => ?_⟩
  · obtain ⟨p1, p2⟩ := x.2.1 a ha
    obtain ⟨q1, q2⟩ := y.2.1 a (Nat.lt_of_lt_of_le ha x.1.1)
    exact ⟨q1.trans p1, q2.trans p2⟩
  · obtain ⟨p1, p2⟩ := x.2.2 a k ha
    obtain ⟨q1, q2⟩ := y.2.2 a k (Nat.lt_of_lt_of_le ha x.1.1)
    exact ⟨fun w => ⟨(q1 w).1.trans (p1 w).1, (q1 w).2.1.trans (p1 w).2.1, (q1 w).2.2.trans (p1 w).2.2⟩, fun w => (q2 w).trans (p2 w)⟩
theorem mX.up (x : mX B W h h') (e : ∀ a k, a < mm_sz h → W a k → V a k) : mX B V h h' := ⟨x.1, x.2.1, fun a k ha => ⟨fun w => (x.2.2 a k ha).1 fun z => w (e a k ha z), (x.2.2 a k ha).2⟩⟩
theorem mX.ofW (w : mW W h h') (hB : B + 147 ≤ mm_sz h) : mX B W h h' := ⟨⟨Nat.le_of_eq w.1.1.symm, w.1.2.2.2.2, hB⟩, fun a _ => ⟨congrFun w.1.2.1 a, congrFun w.1.2.2.1 a⟩, fun a k _ => ⟨fun z => ⟨w.i z, w.j z, congrFun (congrFun w.1.2.2.2.1 a) k⟩, fun _ => congrFun (congrFun w.1.2.2.2.1 a) k⟩⟩
theorem mX.I {a k : Nat} {v : Int32} (x : mX B W h h') (e : W a k ∨ mm_sz h ≤ a) : mX B W h (mm_setI h' a k v) := ⟨x.1, x.2.1, fun b j hb => ⟨fun w => ⟨by
  rw [i_I, if_neg]
  · exact ((x.2.2 b j hb).1 w).1
  · rintro ⟨rfl, rfl⟩
    rcases e with e | e
    · exact w e
    · omega, ((x.2.2 b j hb).1 w).2⟩, (x.2.2 b j hb).2⟩⟩
theorem mX.J {a k : Nat} {v : Int64} (x : mX B W h h') (e : W a k ∨ mm_sz h ≤ a) : mX B W h (mm_setJ h' a k v) := ⟨x.1, x.2.1, fun b j hb => ⟨fun w => ⟨((x.2.2 b j hb).1 w).1, by
  rw [j_J, if_neg]
  · exact ((x.2.2 b j hb).1 w).2.1
  · rintro ⟨rfl, rfl⟩
    rcases e with e | e
    · exact w e
    · omega, ((x.2.2 b j hb).1 w).2.2⟩, (x.2.2 b j hb).2⟩⟩
theorem mX.R {a k : Nat} {v : Option Nat} (x : mX B W h h') (e : (W a k ∧ rV B a k) ∨ mm_sz h ≤ a) : mX B W h (mm_setR h' a k v) := by
  refine ⟨x.1, x.2.1, fun b j hb => ⟨fun w => ⟨((x.2.2 b j hb).1 w).1, ((x.2.2 b j hb).1 w).2.1, ?_⟩, fun w => ?_⟩⟩
  · rw [r_R, if_neg]
    · exact ((x.2.2 b j hb).1 w).2.2
    · rintro ⟨rfl, rfl⟩
      rcases e with e | e
      · exact w e.1
      · omega
  · rw [r_R, if_neg]
    · exact (x.2.2 b j hb).2 w
    · rintro ⟨rfl, rfl⟩
      rcases e with e | e
      · exact w e.2
      · omega
theorem kd_N {kd n a : Nat} : mm_kd (mm_new h kd n) a = if a = mm_sz h then kd else mm_kd h a := rfl
theorem n_N {kd n a : Nat} : mm_n (mm_new h kd n) a = if a = mm_sz h then n else mm_n h a := rfl
theorem sz_N {kd n : Nat} : mm_sz (mm_new h kd n) = mm_sz h + 1 := rfl
theorem c_N {kd n : Nat} : mm_c (mm_new h kd n) = mm_c h := rfl
theorem i_N {kd n a k : Nat} : mm_i (mm_new h kd n) a k = if a = mm_sz h then 0 else mm_i h a k := by
  by_cases e : a = mm_sz h
  · subst e; rw [if_pos rfl]; show mm_u1 h.2.2.1 h.1 (fun _ => 0) h.1 k = 0; simp [mm_u1]
  · rw [if_neg e]; show mm_u1 h.2.2.1 h.1 (fun _ => 0) a k = _; unfold mm_u1; rw [if_neg (show ¬ a = h.1 from e)]; rfl
theorem j_N {kd n a k : Nat} : mm_j (mm_new h kd n) a k = if a = mm_sz h then 0 else mm_j h a k := by
  by_cases e : a = mm_sz h
  · subst e; rw [if_pos rfl]; show mm_u1 h.2.2.2.1 h.1 (fun _ => 0) h.1 k = 0; simp [mm_u1]
  · rw [if_neg e]; show mm_u1 h.2.2.2.1 h.1 (fun _ => 0) a k = _; unfold mm_u1; rw [if_neg (show ¬ a = h.1 from e)]; rfl
theorem r_N {kd n a k : Nat} : mm_r (mm_new h kd n) a k = if a = mm_sz h then none else mm_r h a k := by
  by_cases e : a = mm_sz h
  · subst e; rw [if_pos rfl]; show mm_u1 h.2.2.2.2.1 h.1 (fun _ => none) h.1 k = none; simp [mm_u1]
  · rw [if_neg e]; show mm_u1 h.2.2.2.2.1 h.1 (fun _ => none) a k = _; unfold mm_u1; rw [if_neg (show ¬ a = h.1 from e)]; rfl
theorem mX.N {kd n : Nat} (x : mX B W h h') : mX B W h (mm_new h' kd n) := by
  have hz : ∀ a, a < mm_sz h → ¬ a = mm_sz h' := fun a ha => by have := x.1.1; omega
  refine ⟨⟨Nat.le_trans x.1.1 (Nat.le_succ _), x.1.2.1, x.1.2.2⟩, fun a ha => ?_, fun a k ha => ?_⟩
  · rw [kd_N, n_N, if_neg (hz a ha), if_neg (hz a ha)]
    exact x.2.1 a ha
  · rw [i_N, j_N, r_N, if_neg (hz a ha), if_neg (hz a ha), if_neg (hz a ha)]
    exact x.2.2 a k ha
theorem mX.i (x : mX B W h h') {a k : Nat} (ha : a < mm_sz h) (e : ¬ W a k) : mm_i h' a k = mm_i h a k := ((x.2.2 a k ha).1 e).1
theorem mX.j (x : mX B W h h') {a k : Nat} (ha : a < mm_sz h) (e : ¬ W a k) : mm_j h' a k = mm_j h a k := ((x.2.2 a k ha).1 e).2.1
theorem mX.r (x : mX B W h h') {a k : Nat} (ha : a < mm_sz h) (e : ¬ W a k) : mm_r h' a k = mm_r h a k := ((x.2.2 a k ha).1 e).2.2
theorem mX.kd (x : mX B W h h') {a : Nat} (ha : a < mm_sz h) : mm_kd h' a = mm_kd h a := (x.2.1 a ha).1
theorem mX.n (x : mX B W h h') {a : Nat} (ha : a < mm_sz h) : mm_n h' a = mm_n h a := (x.2.1 a ha).2
end MX
def Lv (B : Nat) (ow : Nat → Nat × Nat) (h : mm_H) (t k a : Nat) : Prop := B + 147 ≤ a ∧ a < mm_sz h ∧ ow a = (t, k)
def mO (ow ow' : Nat → Nat × Nat) (h : mm_H) : Prop := ∀ a, a < mm_sz h → ow' a = ow a
def rm (c : Nat) : Prop := c = 0 ∨ c = 10 ∨ c = 15 ∨ c = 22 ∨ c = 33 ∨ c = 49 ∨ c = 73 ∨ c = 109 ∨ c = 163 ∨ c = 244 ∨ c = 366
def mE (B : Nat) (ow : Nat → Nat × Nat) (h : mm_H) (l q n : Nat) (ad : Nat → Nat) (e c : Nat) : Prop := mm_r h l 1 = some e ∧ mm_kd h e = 18 ∧ mm_n h e = c ∧ n ≤ c ∧ rm c ∧ ((c = 0 ∧ e = mm_c h 0 ∧ e < B) ∨ (0 < c ∧ Lv B ow h 12 q e)) ∧ ∀ k, k < n → mm_r h e k = some (ad k)
def mL (B : Nat) (ow : Nat → Nat × Nat) (h : mm_H) (l q kd n : Nat) (ad : Nat → Nat) : Prop := n ≤ 300 ∧ mm_i h l 2 = nI n ∧ (∃ e c, mE B ow h l q n ad e c) ∧ ∀ k, k < n → Lv B ow h (q + 1) k (ad k) ∧ mm_kd h (ad k) = kd
def wL (B : Nat) (ow : Nat → Nat × Nat) (l q : Nat) : Nat → Nat → Prop := fun a k => (a = l ∧ k ≤ 2) ∨ (B + 147 ≤ a ∧ ow a = (12, q))
section LL
variable {B : Nat} {W : Nat → Nat → Prop} {h h' h1 h2 : mm_H} {ow ow' : Nat → Nat × Nat}
theorem Lv.up {t k a : Nat} (L : Lv B ow h t k a) (x : mX B W h h') (o : mO ow ow' h) : Lv B ow' h' t k a := ⟨L.1, Nat.lt_of_lt_of_le L.2.1 x.1.1, (o a L.2.1).trans L.2.2⟩
theorem mO.rf : mO ow ow h := fun _ _ => rfl
theorem mO.tr {ow2 : Nat → Nat × Nat} (o : mO ow ow' h) (x : mX B W h h') (o2 : mO ow' ow2 h') : mO ow ow2 h := fun a ha => (o2 a (Nat.lt_of_lt_of_le ha x.1.1)).trans (o a ha)
theorem mL.up {l q kd n : Nat} {ad : Nat → Nat} (L : mL B ow h l q kd n ad) (hl : l < B + 147) (x : mX B W h h') (o : mO ow ow' h) (w : ¬ W l 1 ∧ ¬ W l 2) (w2 : ∀ a k, Lv B ow h 12 q a → ¬ W a k) : mL B ow' h' l q kd n ad := by
  obtain ⟨a0, a1, ⟨e, c, b1, b2, b3, b4, b5, b6, b7⟩, a2⟩ := L
  have hB := x.1.2.2
  have he : e < mm_sz h := by
    rcases b6 with b6 | b6
    · omega
    · exact b6.2.2.1
  refine ⟨a0, (x.i (by omega) w.2).trans a1, ⟨e, c, (x.r (by omega) w.1).trans b1, (x.kd he).trans b2, (x.n he).trans b3, b4, b5, ?_, fun k hk => ?_⟩, fun k hk => ?_⟩
  · rcases b6 with b6 | b6
    · rw [x.1.2.1]; exact Or.inl b6
    · exact Or.inr ⟨b6.1, b6.2.up x o⟩
  · rcases b6 with b6 | b6
    · omega
    · exact (x.r he (w2 e k b6.2)).trans (b7 k hk)
  · obtain ⟨c1, c2⟩ := a2 k hk
    exact ⟨c1.up x o, (x.kd c1.2.1).trans c2⟩
theorem x_nl1 {a b c v : Int32} (e : a + (if b < c then c else b) = v) (e1 : ¬ v ≤ 0) (e2 : ¬ 2147483639 < v) : fJ8_newLength_cabcc a b c h = some (v, h) := by
  unfold fJ8_newLength_cabcc
  simp only [q_lt, e, e1, e2, if_false]
theorem x_nl {c : Nat} (hc : rm c) (h0 : 0 < c) (h3 : c < 300) (h : mm_H) : ∃ c', c < c' ∧ c' ≤ 400 ∧ rm c' ∧ fJ8_newLength_cabcc (nI c) (nI c + 1 - nI c) (nI c >>> ((1 : Int32) &&& 31)) h = some (nI c', h) := by
  rcases hc with rfl | rfl | rfl | rfl | rfl | rfl | rfl | rfl | rfl | rfl | rfl
  · omega
  · exact ⟨15, by omega, by omega, by simp [rm], x_nl1 (by decide +kernel) (by decide +kernel) (by decide +kernel)⟩
  · exact ⟨22, by omega, by omega, by simp [rm], x_nl1 (by decide +kernel) (by decide +kernel) (by decide +kernel)⟩
  · exact ⟨33, by omega, by omega, by simp [rm], x_nl1 (by decide +kernel) (by decide +kernel) (by decide +kernel)⟩
  · exact ⟨49, by omega, by omega, by simp [rm], x_nl1 (by decide +kernel) (by decide +kernel) (by decide +kernel)⟩
  · exact ⟨73, by omega, by omega, by simp [rm], x_nl1 (by decide +kernel) (by decide +kernel) (by decide +kernel)⟩
  · exact ⟨109, by omega, by omega, by simp [rm], x_nl1 (by decide +kernel) (by decide +kernel) (by decide +kernel)⟩
  · exact ⟨163, by omega, by omega, by simp [rm], x_nl1 (by decide +kernel) (by decide +kernel) (by decide +kernel)⟩
  · exact ⟨244, by omega, by omega, by simp [rm], x_nl1 (by decide +kernel) (by decide +kernel) (by decide +kernel)⟩
  · exact ⟨366, by omega, by omega, by simp [rm], x_nl1 (by decide +kernel) (by decide +kernel) (by decide +kernel)⟩
  · omega
/-- a list's element -/
theorem x_get {l q kd n k : Nat} {ad : Nat → Nat} (hk0 : mm_kd h l = 0) (L : mL B ow h l q kd n ad) (hk : k < n) : fJx4a65c_get_915e3 l (nI k) h = some (some (ad k), h) := by
  obtain ⟨a0, a1, ⟨e, c, b1, b2, b3, b4, b5, b6, b7⟩, a2⟩ := L
  have c1 : ¬ nI k < 0 := nI_pos (by omega)
  have c2 : nI k < nI n := nI_lt hk (by omega)
  have hx := fun (β : Type) (z : Option β) => q_ckx (show k < c by omega) (by rcases b5 with rfl | rfl | rfl | rfl | rfl | rfl | rfl | rfl | rfl | rfl | rfl <;> decide) z
  unfold fJx4a65c_get_915e3 fJ15_checkIndex_7cf53 fJ3_checkIndex_8e157 fJx4a65c_elementData_915e3
  simp only [q_rf, q_lt, q_cl, q_jn, q_b, q_b1, q_ck, kd_I, kd_J, kd_R, n_I, n_J, n_R, r_I, r_J, c_I, c_J, c_R, i_J, i_R, j_I, j_R, y_in, y_isDay, x_within, x_isDay, x_isTown, hk0, a1, c1, c2, b1, b2, b3, hx, nI_clamp (show k < 2 ^ 31 by omega), b7 k hk, if_false, if_true]
theorem x_size {l q kd n : Nat} {ad : Nat → Nat} (hk0 : mm_kd h l = 0) (L : mL B ow h l q kd n ad) : fJx4a65c_size_8abf5 l h = some (nI n, h) := by
  unfold fJx4a65c_size_8abf5
  simp only [q_rf, q_lt, q_cl, q_jn, q_b, q_b1, q_ck, kd_I, kd_J, kd_R, n_I, n_J, n_R, r_I, r_J, c_I, c_J, c_R, i_J, i_R, j_I, j_R, y_in, y_isDay, x_within, x_isDay, x_isTown, hk0, L.2.1]
end LL
