/-! the start: what the two constructors lay -/
def zl : List (Nat × Nat × Nat) → Nat → Nat → Option Nat
  | [], _, _ => none
  | p :: t, j, k => if p.1 = j ∧ p.2.1 = k then some p.2.2 else zl t j k
def zi : List (Nat × Nat × Int32) → Nat → Nat → Int32
  | [], _, _ => 0
  | p :: t, j, k => if p.1 = j ∧ p.2.1 = k then p.2.2 else zi t j k
def zv (B c v : Nat) : Nat := if v = 999 then c else B + v
def zS (h0 : mm_H) (B m : Nat) (rs : List (Nat × Nat × Nat)) (iz : List (Nat × Nat × Int32)) (h : mm_H) : Prop := (mm_sz h = B + m ∧ mm_c h = mm_c h0) ∧ (∀ a, a < B → mm_kd h a = mm_kd h0 a ∧ mm_n h a = mm_n h0 a) ∧ (∀ j, j < m → mm_kd h (B + j) = st_kd.getD j 0 ∧ mm_n h (B + j) = st_n.getD j 0) ∧ (∀ j k, j < m → mm_r h (B + j) k = (zl rs j k).map (zv B (mm_c h0 0))) ∧ (∀ j k, j < m → mm_i h (B + j) k = zi iz j k ∧ mm_j h (B + j) k = 0) ∧ (∀ p, p ∈ rs → p.1 < m) ∧ ∀ p, p ∈ iz → p.1 < m
def zW (o : Option (Unit × mm_H)) (Q : mm_H → Prop) : Prop := ∃ g, o = some ((), g) ∧ Q g
section RD
variable {B m : Nat} {h0 h : mm_H} {rs : List (Nat × Nat × Nat)} {iz : List (Nat × Nat × Int32)} {Q Q1 : mm_H → Prop}
theorem zl_n {j k : Nat} : ∀ {rs : List (Nat × Nat × Nat)}, (∀ p, p ∈ rs → ¬ p.1 = j) → zl rs j k = none := by
  intro rs
  induction rs with
  | nil => intro _; rfl
  | cons p t ih =>
    intro e
    unfold zl
    rw [if_neg (fun z => e p (List.mem_cons_self ..) z.1)]
    exact ih fun q hq => e q (List.mem_cons_of_mem _ hq)
theorem zi_n {j k : Nat} : ∀ {iz : List (Nat × Nat × Int32)}, (∀ p, p ∈ iz → ¬ p.1 = j) → zi iz j k = 0 := by
  intro iz
  induction iz with
  | nil => intro _; rfl
  | cons p t ih =>
    intro e
    unfold zi
    rw [if_neg (fun z => e p (List.mem_cons_self ..) z.1)]
    exact ih fun q hq => e q (List.mem_cons_of_mem _ hq)
theorem zN (Z : zS h0 B m rs iz h) {kd n m' : Nat} (e1 : st_kd.getD m 0 = kd) (e2 : st_n.getD m 0 = n) (em : m + 1 = m') : zS h0 B m' rs iz (mm_new h kd n) := by
  subst em e1 e2
  obtain ⟨⟨a1, a2⟩, b, c, d, e, f, g⟩ := Z
  refine ⟨⟨by rw [sz_N, a1]; omega, a2⟩, fun a ha => ?_, fun j hj => ?_, fun j k hj => ?_, fun j k hj => ?_, fun p hp => Nat.lt_succ_of_lt (f p hp), fun p hp => Nat.lt_succ_of_lt (g p hp)⟩
  · rw [kd_N, n_N, if_neg (by omega), if_neg (by omega)]; exact b a ha
  · rw [kd_N, n_N, a1]
    by_cases q : j = m
    · subst q; rw [if_pos rfl, if_pos rfl]; exact ⟨rfl, rfl⟩
    · rw [if_neg (by omega), if_neg (by omega)]; exact c j (by omega)
  · rw [r_N, a1]
    by_cases q : j = m
    · subst q
      rw [if_pos rfl, zl_n fun p hp => by have := f p hp; omega]; rfl
    · rw [if_neg (by omega)]; exact d j k (by omega)
  · rw [i_N, j_N, a1]
    by_cases q : j = m
    · subst q
      rw [if_pos rfl, if_pos rfl, zi_n fun p hp => by have := g p hp; omega]; exact ⟨rfl, rfl⟩
    · rw [if_neg (by omega), if_neg (by omega)]; exact e j k (by omega)
theorem zR {a k v w : Nat} (Z : zS h0 B m rs iz h) (ha : a < m) (hw : zv B (mm_c h0 0) v = w) : zS h0 B m ((a, k, v) :: rs) iz (mm_setR h (B + a) k (some w)) := by
  obtain ⟨a1, b, c, d, e, f, g⟩ := Z
  refine ⟨a1, b, c, fun j i hj => ?_, e, fun p hp => ?_, g⟩
  · rw [r_R]
    unfold zl
    by_cases q : a = j ∧ k = i
    · rw [if_pos q, if_pos ⟨by omega, q.2.symm⟩, ← hw]; rfl
    · rw [if_neg q, if_neg (fun z => q ⟨by omega, z.2.symm⟩)]; exact d j i hj
  · rcases List.mem_cons.mp hp with rfl | hp
    · exact ha
    · exact f p hp
theorem zI {a k : Nat} {v : Int32} (Z : zS h0 B m rs iz h) (ha : a < m) : zS h0 B m rs ((a, k, v) :: iz) (mm_setI h (B + a) k v) := by
  obtain ⟨a1, b, c, d, e, f, g⟩ := Z
  refine ⟨a1, b, c, d, fun j i hj => ⟨?_, (e j i hj).2⟩, f, fun p hp => ?_⟩
  · rw [i_I]
    unfold zi
    by_cases q : a = j ∧ k = i
    · rw [if_pos q, if_pos ⟨by omega, q.2.symm⟩]
    · rw [if_neg q, if_neg (fun z => q ⟨by omega, z.2.symm⟩)]; exact (e j i hj).1
  · rcases List.mem_cons.mp hp with rfl | hp
    · exact ha
    · exact g p hp
theorem zJ {a k : Nat} (Z : zS h0 B m rs iz h) : zS h0 B m rs iz (mm_setJ h (B + a) k 0) := by
  obtain ⟨a1, b, c, d, e, f, g⟩ := Z
  refine ⟨a1, b, c, d, fun j i hj => ⟨(e j i hj).1, ?_⟩, f, g⟩
  rw [j_J]
  by_cases q : B + j = B + a ∧ i = k
  · rw [if_pos q]
  · rw [if_neg q]; exact (e j i hj).2
theorem zwN {k : mm_H → Nat → Option (Unit × mm_H)} {kd n m' : Nat} (Z : zS h0 B m rs iz h) (e1 : st_kd.getD m 0 = kd) (e2 : st_n.getD m 0 = n) (em : m + 1 = m') (f : ∀ g, zS h0 B m' rs iz g → zW (k g (B + m)) Q) : zW (mm_lt (mm_new h kd n) fun g1 => mm_lt (mm_sz h) fun u => k g1 u) Q := by
  show zW (k (mm_new h kd n) (mm_sz h)) Q
  rw [Z.1.1]
  exact f _ (zN Z e1 e2 em)
theorem zwK {a kd : Nat} {k : Option (Unit × mm_H)} (Z : zS h0 B m rs iz h) (ha : a < m) (e1 : st_kd.getD a 0 = kd) (f : zW k Q) : zW (mm_ck (mm_kd h (B + a) = kd) k) Q := by
  rw [q_ck ((Z.2.2.1 a ha).1.trans e1)]
  exact f
theorem zwR {a k v kd : Nat} {K : mm_H → Option (Unit × mm_H)} (Z : zS h0 B m rs iz h) (ha : a < m) (e1 : st_kd.getD a 0 = kd) (hv : ¬ v = 999) (f : ∀ g, zS h0 B m ((a, k, v) :: rs) iz g → zW (K g) Q) : zW (mm_ck (mm_kd h (B + a) = kd) <| mm_lt (mm_setR h (B + a) k (some (B + v))) fun g => K g) Q := zwK Z ha e1 (f _ (zR Z ha (if_neg hv)))
theorem zwI {a k : Nat} {v : Int32} {K : mm_H → Option (Unit × mm_H)} (Z : zS h0 B m rs iz h) (ha : a < m) (f : ∀ g, zS h0 B m rs ((a, k, v) :: iz) g → zW (K g) Q) : zW (mm_lt (mm_setI h (B + a) k v) fun g => K g) Q := f _ (zI Z ha)
theorem zwJ {a k : Nat} {K : mm_H → Option (Unit × mm_H)} (Z : zS h0 B m rs iz h) (ha : a < m) (f : ∀ g, zS h0 B m rs iz g → zW (K g) Q) : zW (mm_lt (mm_setJ h (B + a) k 0) fun g => K g) Q := f _ (zJ Z)
theorem zwC {o : Option (Unit × mm_H)} {K : mm_H → Option (Unit × mm_H)} (z : zW o Q1) (f : ∀ g, Q1 g → zW (K g) Q) : zW (mm_cl o fun _ g => K g) Q := by
  obtain ⟨g, rfl, hg⟩ := z
  exact f g hg
theorem zwM {K : mm_H → Nat → Option (Unit × mm_H)} {m1 m2 m3 : Nat} (Z : zS h0 B m rs iz h) (e1 : m + 1 = m1) (e2 : m1 + 1 = m2) (e3 : m2 + 1 = m3) (t1 : st_kd.getD m 0 = 19 ∧ st_n.getD m 0 = 2) (t2 : st_kd.getD m1 0 = 14 ∧ st_n.getD m1 0 = 10) (t3 : (st_kd.getD m2 0 = 14 ∧ st_n.getD m2 0 = 10) ∧ m3 < 999) (f : ∀ g, zS h0 B m3 ((m, 1, m2) :: (m, 0, m1) :: rs) iz g → zW (K g (B + m)) Q) : zW (mm_lt (mm_mul h) fun g1 => mm_lt (mm_sz h) fun u => K g1 u) Q := by
  show zW (K (mm_mul h) (mm_sz h)) Q
  unfold mm_mul
  have z := Z.1.1
  have q1 : mm_sz h + 1 = B + m1 := by omega
  have q2 : mm_sz h + 2 = B + m2 := by omega
  rw [q1, q2, z]
  have Z1 := zN Z t1.1 t1.2 e1
  have Z2 := zN Z1 t2.1 t2.2 e2
  have Z3 := zR (a := m) (k := 0) (v := m1) Z2 (by omega) (if_neg (by omega))
  have Z4 := zN Z3 t3.1.1 t3.1.2 e3
  exact f _ (zR (a := m) (k := 1) (v := m2) Z4 (by omega) (if_neg (by omega)))
theorem zc_AL {a : Nat} (Z : zS h0 B m rs iz h) (ha : a < m) (e1 : st_kd.getD a 0 = 0) : zW (fJx4a65c_init_da8c8 (B + a) h) (zS h0 B m ((a, 1, 999) :: rs) ((a, 0, 0) :: iz)) := by
  unfold fJx4a65c_init_da8c8 fJxc12de_init_da8c8 fJxa1e45_init_da8c8
  have Z1 := zI (k := 0) (v := 0) Z ha
  simp only [p_cl, q_ck ((Z.2.2.1 a ha).1.trans e1)]
  refine ⟨_, ?_, zR (k := 1) (v := 999) Z1 ha (if_pos rfl)⟩
  show mm_ck (mm_kd (mm_setI h (B + a) 0 0) (B + a) = 0) _ = _
  rw [q_ck ((Z1.2.2.1 a ha).1.trans e1)]
  show some ((), mm_setR (mm_setI h (B + a) 0 0) (B + a) 1 (some (mm_c (mm_setI h (B + a) 0 0) 0))) = _
  rw [Z1.1.2]
set_option maxRecDepth 100000 in
theorem zc_X5 {rs : List (Nat × Nat × Nat)} {iz : List (Nat × Nat × Int32)} (Z : zS h0 B 6 rs iz h) : zW (fX5_init (B + 5) h) (zS h0 B 13 ((5, 12, 12) :: (5, 11, 11) :: (5, 9, 10) :: (5, 4, 9) :: (5, 3, 8) :: (5, 2, 7) :: (5, 0, 6) :: rs) (iz)) := by
  unfold fX5_init
  refine zwN (m' := 7) Z (by decide) (by decide) rfl fun g Z => ?_
  refine zwR (a := 5) (k := 0) (v := 6) Z (by decide) (by decide) (by decide) fun g Z => ?_
  refine zwN (m' := 8) Z (by decide) (by decide) rfl fun g Z => ?_
  refine zwR (a := 5) (k := 2) (v := 7) Z (by decide) (by decide) (by decide) fun g Z => ?_
  refine zwN (m' := 9) Z (by decide) (by decide) rfl fun g Z => ?_
  refine zwR (a := 5) (k := 3) (v := 8) Z (by decide) (by decide) (by decide) fun g Z => ?_
  refine zwN (m' := 10) Z (by decide) (by decide) rfl fun g Z => ?_
  refine zwR (a := 5) (k := 4) (v := 9) Z (by decide) (by decide) (by decide) fun g Z => ?_
  refine zwN (m' := 11) Z (by decide) (by decide) rfl fun g Z => ?_
  refine zwR (a := 5) (k := 9) (v := 10) Z (by decide) (by decide) (by decide) fun g Z => ?_
  refine zwN (m' := 12) Z (by decide) (by decide) rfl fun g Z => ?_
  refine zwR (a := 5) (k := 11) (v := 11) Z (by decide) (by decide) (by decide) fun g Z => ?_
  refine zwN (m' := 13) Z (by decide) (by decide) rfl fun g Z => ?_
  refine zwR (a := 5) (k := 12) (v := 12) Z (by decide) (by decide) (by decide) fun g Z => ?_
  exact ⟨_, rfl, Z⟩
set_option maxRecDepth 100000 in
theorem zc_X2 {rs : List (Nat × Nat × Nat)} {iz : List (Nat × Nat × Int32)} (Z : zS h0 B 14 rs iz h) : zW (fX2_init (B + 13) h) (zS h0 B 17 ((13, 2, 16) :: (13, 1, 15) :: (13, 0, 14) :: (14, 1, 999) :: rs) ((13, 4, (-1 : Int32)) :: (13, 3, (-1 : Int32)) :: (14, 0, (0 : Int32)) :: iz)) := by
  unfold fX2_init
  refine zwN (m' := 15) Z (by decide) (by decide) rfl fun g Z => ?_
  refine zwC (zc_AL (a := 14) Z (by decide) (by decide)) fun g Z => ?_
  refine zwR (a := 13) (k := 0) (v := 14) Z (by decide) (by decide) (by decide) fun g Z => ?_
  refine zwN (m' := 16) Z (by decide) (by decide) rfl fun g Z => ?_
  refine zwR (a := 13) (k := 1) (v := 15) Z (by decide) (by decide) (by decide) fun g Z => ?_
  refine zwN (m' := 17) Z (by decide) (by decide) rfl fun g Z => ?_
  refine zwR (a := 13) (k := 2) (v := 16) Z (by decide) (by decide) (by decide) fun g Z => ?_
  refine zwI (a := 13) (k := 3) Z (by decide) fun g Z => ?_
  refine zwI (a := 13) (k := 4) Z (by decide) fun g Z => ?_
  exact ⟨_, rfl, Z⟩
set_option maxRecDepth 100000 in
theorem zc_X8 {rs : List (Nat × Nat × Nat)} {iz : List (Nat × Nat × Int32)} (Z : zS h0 B 18 rs iz h) : zW (fX8_init (B + 17) h) (zS h0 B 23 ((17, 4, 22) :: (17, 3, 21) :: (17, 2, 20) :: (17, 1, 19) :: (17, 0, 18) :: rs) (iz)) := by
  unfold fX8_init
  refine zwN (m' := 19) Z (by decide) (by decide) rfl fun g Z => ?_
  refine zwR (a := 17) (k := 0) (v := 18) Z (by decide) (by decide) (by decide) fun g Z => ?_
  refine zwN (m' := 20) Z (by decide) (by decide) rfl fun g Z => ?_
  refine zwR (a := 17) (k := 1) (v := 19) Z (by decide) (by decide) (by decide) fun g Z => ?_
  refine zwN (m' := 21) Z (by decide) (by decide) rfl fun g Z => ?_
  refine zwR (a := 17) (k := 2) (v := 20) Z (by decide) (by decide) (by decide) fun g Z => ?_
  refine zwN (m' := 22) Z (by decide) (by decide) rfl fun g Z => ?_
  refine zwR (a := 17) (k := 3) (v := 21) Z (by decide) (by decide) (by decide) fun g Z => ?_
  refine zwN (m' := 23) Z (by decide) (by decide) rfl fun g Z => ?_
  refine zwR (a := 17) (k := 4) (v := 22) Z (by decide) (by decide) (by decide) fun g Z => ?_
  exact ⟨_, rfl, Z⟩
set_option maxRecDepth 100000 in
theorem zc_X10 {rs : List (Nat × Nat × Nat)} {iz : List (Nat × Nat × Int32)} (Z : zS h0 B 24 rs iz h) : zW (fX10_init (B + 23) h) (zS h0 B 37 ((23, 14, 36) :: (23, 13, 35) :: (23, 12, 34) :: (23, 11, 33) :: (23, 9, 32) :: (23, 8, 31) :: (23, 7, 30) :: (23, 6, 29) :: (23, 5, 28) :: (23, 3, 27) :: (23, 2, 26) :: (23, 1, 25) :: (23, 0, 24) :: rs) (iz)) := by
  unfold fX10_init
  refine zwN (m' := 25) Z (by decide) (by decide) rfl fun g Z => ?_
  refine zwR (a := 23) (k := 0) (v := 24) Z (by decide) (by decide) (by decide) fun g Z => ?_
  refine zwN (m' := 26) Z (by decide) (by decide) rfl fun g Z => ?_
  refine zwR (a := 23) (k := 1) (v := 25) Z (by decide) (by decide) (by decide) fun g Z => ?_
  refine zwN (m' := 27) Z (by decide) (by decide) rfl fun g Z => ?_
  refine zwR (a := 23) (k := 2) (v := 26) Z (by decide) (by decide) (by decide) fun g Z => ?_
  refine zwN (m' := 28) Z (by decide) (by decide) rfl fun g Z => ?_
  refine zwR (a := 23) (k := 3) (v := 27) Z (by decide) (by decide) (by decide) fun g Z => ?_
  refine zwN (m' := 29) Z (by decide) (by decide) rfl fun g Z => ?_
  refine zwR (a := 23) (k := 5) (v := 28) Z (by decide) (by decide) (by decide) fun g Z => ?_
  refine zwN (m' := 30) Z (by decide) (by decide) rfl fun g Z => ?_
  refine zwR (a := 23) (k := 6) (v := 29) Z (by decide) (by decide) (by decide) fun g Z => ?_
  refine zwN (m' := 31) Z (by decide) (by decide) rfl fun g Z => ?_
  refine zwR (a := 23) (k := 7) (v := 30) Z (by decide) (by decide) (by decide) fun g Z => ?_
  refine zwN (m' := 32) Z (by decide) (by decide) rfl fun g Z => ?_
  refine zwR (a := 23) (k := 8) (v := 31) Z (by decide) (by decide) (by decide) fun g Z => ?_
  refine zwN (m' := 33) Z (by decide) (by decide) rfl fun g Z => ?_
  refine zwR (a := 23) (k := 9) (v := 32) Z (by decide) (by decide) (by decide) fun g Z => ?_
  refine zwN (m' := 34) Z (by decide) (by decide) rfl fun g Z => ?_
  refine zwR (a := 23) (k := 11) (v := 33) Z (by decide) (by decide) (by decide) fun g Z => ?_
  refine zwN (m' := 35) Z (by decide) (by decide) rfl fun g Z => ?_
  refine zwR (a := 23) (k := 12) (v := 34) Z (by decide) (by decide) (by decide) fun g Z => ?_
  refine zwN (m' := 36) Z (by decide) (by decide) rfl fun g Z => ?_
  refine zwR (a := 23) (k := 13) (v := 35) Z (by decide) (by decide) (by decide) fun g Z => ?_
  refine zwN (m' := 37) Z (by decide) (by decide) rfl fun g Z => ?_
  refine zwR (a := 23) (k := 14) (v := 36) Z (by decide) (by decide) (by decide) fun g Z => ?_
  exact ⟨_, rfl, Z⟩
set_option maxRecDepth 100000 in
theorem zc_X9 {rs : List (Nat × Nat × Nat)} {iz : List (Nat × Nat × Int32)} (Z : zS h0 B 38 rs iz h) : zW (fX9_init (B + 37) h) (zS h0 B 47 ((37, 10, 46) :: (37, 9, 45) :: (37, 8, 44) :: (37, 7, 43) :: (37, 6, 42) :: (37, 4, 41) :: (37, 3, 40) :: (37, 1, 39) :: (37, 0, 38) :: rs) (iz)) := by
  unfold fX9_init
  refine zwN (m' := 39) Z (by decide) (by decide) rfl fun g Z => ?_
  refine zwR (a := 37) (k := 0) (v := 38) Z (by decide) (by decide) (by decide) fun g Z => ?_
  refine zwN (m' := 40) Z (by decide) (by decide) rfl fun g Z => ?_
  refine zwR (a := 37) (k := 1) (v := 39) Z (by decide) (by decide) (by decide) fun g Z => ?_
  refine zwN (m' := 41) Z (by decide) (by decide) rfl fun g Z => ?_
  refine zwR (a := 37) (k := 3) (v := 40) Z (by decide) (by decide) (by decide) fun g Z => ?_
  refine zwN (m' := 42) Z (by decide) (by decide) rfl fun g Z => ?_
  refine zwR (a := 37) (k := 4) (v := 41) Z (by decide) (by decide) (by decide) fun g Z => ?_
  refine zwN (m' := 43) Z (by decide) (by decide) rfl fun g Z => ?_
  refine zwR (a := 37) (k := 6) (v := 42) Z (by decide) (by decide) (by decide) fun g Z => ?_
  refine zwN (m' := 44) Z (by decide) (by decide) rfl fun g Z => ?_
  refine zwR (a := 37) (k := 7) (v := 43) Z (by decide) (by decide) (by decide) fun g Z => ?_
  refine zwN (m' := 45) Z (by decide) (by decide) rfl fun g Z => ?_
  refine zwR (a := 37) (k := 8) (v := 44) Z (by decide) (by decide) (by decide) fun g Z => ?_
  refine zwN (m' := 46) Z (by decide) (by decide) rfl fun g Z => ?_
  refine zwR (a := 37) (k := 9) (v := 45) Z (by decide) (by decide) (by decide) fun g Z => ?_
  refine zwN (m' := 47) Z (by decide) (by decide) rfl fun g Z => ?_
  refine zwR (a := 37) (k := 10) (v := 46) Z (by decide) (by decide) (by decide) fun g Z => ?_
  exact ⟨_, rfl, Z⟩
set_option maxRecDepth 100000 in
theorem zc_X3 {rs : List (Nat × Nat × Nat)} {iz : List (Nat × Nat × Int32)} (Z : zS h0 B 48 rs iz h) : zW (fX3_init (B + 47) h) (zS h0 B 52 ((47, 4, 51) :: (47, 2, 50) :: (47, 1, 49) :: (47, 0, 48) :: rs) (iz)) := by
  unfold fX3_init
  refine zwN (m' := 49) Z (by decide) (by decide) rfl fun g Z => ?_
  refine zwR (a := 47) (k := 0) (v := 48) Z (by decide) (by decide) (by decide) fun g Z => ?_
  refine zwN (m' := 50) Z (by decide) (by decide) rfl fun g Z => ?_
  refine zwR (a := 47) (k := 1) (v := 49) Z (by decide) (by decide) (by decide) fun g Z => ?_
  refine zwN (m' := 51) Z (by decide) (by decide) rfl fun g Z => ?_
  refine zwR (a := 47) (k := 2) (v := 50) Z (by decide) (by decide) (by decide) fun g Z => ?_
  refine zwN (m' := 52) Z (by decide) (by decide) rfl fun g Z => ?_
  refine zwR (a := 47) (k := 4) (v := 51) Z (by decide) (by decide) (by decide) fun g Z => ?_
  exact ⟨_, rfl, Z⟩
set_option maxRecDepth 100000 in
theorem zc_X1 {rs : List (Nat × Nat × Nat)} {iz : List (Nat × Nat × Int32)} (Z : zS h0 B 53 rs iz h) : zW (fX1_init (B + 52) h) (zS h0 B 65 ((52, 8, 64) :: (52, 4, 63) :: (52, 3, 60) :: (60, 1, 62) :: (60, 0, 61) :: (52, 2, 57) :: (57, 1, 59) :: (57, 0, 58) :: (52, 1, 54) :: (54, 1, 56) :: (54, 0, 55) :: (52, 0, 53) :: rs) (iz)) := by
  unfold fX1_init
  refine zwN (m' := 54) Z (by decide) (by decide) rfl fun g Z => ?_
  refine zwR (a := 52) (k := 0) (v := 53) Z (by decide) (by decide) (by decide) fun g Z => ?_
  refine zwM (m := 54) (m1 := 55) (m2 := 56) (m3 := 57) Z rfl rfl rfl (by decide) (by decide) (by decide) fun g Z => ?_
  refine zwR (a := 52) (k := 1) (v := 54) Z (by decide) (by decide) (by decide) fun g Z => ?_
  refine zwM (m := 57) (m1 := 58) (m2 := 59) (m3 := 60) Z rfl rfl rfl (by decide) (by decide) (by decide) fun g Z => ?_
  refine zwR (a := 52) (k := 2) (v := 57) Z (by decide) (by decide) (by decide) fun g Z => ?_
  refine zwM (m := 60) (m1 := 61) (m2 := 62) (m3 := 63) Z rfl rfl rfl (by decide) (by decide) (by decide) fun g Z => ?_
  refine zwR (a := 52) (k := 3) (v := 60) Z (by decide) (by decide) (by decide) fun g Z => ?_
  refine zwN (m' := 64) Z (by decide) (by decide) rfl fun g Z => ?_
  refine zwR (a := 52) (k := 4) (v := 63) Z (by decide) (by decide) (by decide) fun g Z => ?_
  refine zwN (m' := 65) Z (by decide) (by decide) rfl fun g Z => ?_
  refine zwR (a := 52) (k := 8) (v := 64) Z (by decide) (by decide) (by decide) fun g Z => ?_
  exact ⟨_, rfl, Z⟩
set_option maxRecDepth 100000 in
theorem zc_X11 {rs : List (Nat × Nat × Nat)} {iz : List (Nat × Nat × Int32)} (Z : zS h0 B 1 rs iz h) : zW (fX11_init (B + 0) h) (zS h0 B 66 ((0, 13, 65) :: (0, 10, 52) :: (52, 8, 64) :: (52, 4, 63) :: (52, 3, 60) :: (60, 1, 62) :: (60, 0, 61) :: (52, 2, 57) :: (57, 1, 59) :: (57, 0, 58) :: (52, 1, 54) :: (54, 1, 56) :: (54, 0, 55) :: (52, 0, 53) :: (0, 9, 47) :: (47, 4, 51) :: (47, 2, 50) :: (47, 1, 49) :: (47, 0, 48) :: (0, 8, 37) :: (37, 10, 46) :: (37, 9, 45) :: (37, 8, 44) :: (37, 7, 43) :: (37, 6, 42) :: (37, 4, 41) :: (37, 3, 40) :: (37, 1, 39) :: (37, 0, 38) :: (0, 7, 23) :: (23, 14, 36) :: (23, 13, 35) :: (23, 12, 34) :: (23, 11, 33) :: (23, 9, 32) :: (23, 8, 31) :: (23, 7, 30) :: (23, 6, 29) :: (23, 5, 28) :: (23, 3, 27) :: (23, 2, 26) :: (23, 1, 25) :: (23, 0, 24) :: (0, 6, 17) :: (17, 4, 22) :: (17, 3, 21) :: (17, 2, 20) :: (17, 1, 19) :: (17, 0, 18) :: (0, 5, 13) :: (13, 2, 16) :: (13, 1, 15) :: (13, 0, 14) :: (14, 1, 999) :: (0, 4, 5) :: (5, 12, 12) :: (5, 11, 11) :: (5, 9, 10) :: (5, 4, 9) :: (5, 3, 8) :: (5, 2, 7) :: (5, 0, 6) :: (0, 3, 4) :: (0, 2, 3) :: (3, 1, 999) :: (0, 1, 2) :: (2, 1, 999) :: (0, 0, 1) :: (1, 1, 999) :: rs) ((0, 14, (90 : Int32)) :: (0, 11, (0 : Int32)) :: (13, 4, (-1 : Int32)) :: (13, 3, (-1 : Int32)) :: (14, 0, (0 : Int32)) :: (3, 0, (0 : Int32)) :: (2, 0, (0 : Int32)) :: (1, 0, (0 : Int32)) :: iz)) := by
  unfold fX11_init
  refine zwN (m' := 2) Z (by decide) (by decide) rfl fun g Z => ?_
  refine zwC (zc_AL (a := 1) Z (by decide) (by decide)) fun g Z => ?_
  refine zwR (a := 0) (k := 0) (v := 1) Z (by decide) (by decide) (by decide) fun g Z => ?_
  refine zwN (m' := 3) Z (by decide) (by decide) rfl fun g Z => ?_
  refine zwC (zc_AL (a := 2) Z (by decide) (by decide)) fun g Z => ?_
  refine zwR (a := 0) (k := 1) (v := 2) Z (by decide) (by decide) (by decide) fun g Z => ?_
  refine zwN (m' := 4) Z (by decide) (by decide) rfl fun g Z => ?_
  refine zwC (zc_AL (a := 3) Z (by decide) (by decide)) fun g Z => ?_
  refine zwR (a := 0) (k := 2) (v := 3) Z (by decide) (by decide) (by decide) fun g Z => ?_
  refine zwN (m' := 5) Z (by decide) (by decide) rfl fun g Z => ?_
  refine zwR (a := 0) (k := 3) (v := 4) Z (by decide) (by decide) (by decide) fun g Z => ?_
  refine zwN (m' := 6) Z (by decide) (by decide) rfl fun g Z => ?_
  refine zwC (zc_X5 Z) fun g Z => ?_
  refine zwR (a := 0) (k := 4) (v := 5) Z (by decide) (by decide) (by decide) fun g Z => ?_
  refine zwN (m' := 14) Z (by decide) (by decide) rfl fun g Z => ?_
  refine zwC (zc_X2 Z) fun g Z => ?_
  refine zwR (a := 0) (k := 5) (v := 13) Z (by decide) (by decide) (by decide) fun g Z => ?_
  refine zwN (m' := 18) Z (by decide) (by decide) rfl fun g Z => ?_
  refine zwC (zc_X8 Z) fun g Z => ?_
  refine zwR (a := 0) (k := 6) (v := 17) Z (by decide) (by decide) (by decide) fun g Z => ?_
  refine zwN (m' := 24) Z (by decide) (by decide) rfl fun g Z => ?_
  refine zwC (zc_X10 Z) fun g Z => ?_
  refine zwR (a := 0) (k := 7) (v := 23) Z (by decide) (by decide) (by decide) fun g Z => ?_
  refine zwN (m' := 38) Z (by decide) (by decide) rfl fun g Z => ?_
  refine zwC (zc_X9 Z) fun g Z => ?_
  refine zwR (a := 0) (k := 8) (v := 37) Z (by decide) (by decide) (by decide) fun g Z => ?_
  refine zwN (m' := 48) Z (by decide) (by decide) rfl fun g Z => ?_
  refine zwC (zc_X3 Z) fun g Z => ?_
  refine zwR (a := 0) (k := 9) (v := 47) Z (by decide) (by decide) (by decide) fun g Z => ?_
  refine zwN (m' := 53) Z (by decide) (by decide) rfl fun g Z => ?_
  refine zwC (zc_X1 Z) fun g Z => ?_
  refine zwR (a := 0) (k := 10) (v := 52) Z (by decide) (by decide) (by decide) fun g Z => ?_
  refine zwI (a := 0) (k := 11) Z (by decide) fun g Z => ?_
  refine zwJ (a := 0) Z (by decide) fun g Z => ?_
  refine zwN (m' := 66) Z (by decide) (by decide) rfl fun g Z => ?_
  refine zwR (a := 0) (k := 13) (v := 65) Z (by decide) (by decide) (by decide) fun g Z => ?_
  refine zwI (a := 0) (k := 14) Z (by decide) fun g Z => ?_
  exact ⟨_, rfl, Z⟩
set_option maxRecDepth 100000 in
theorem zc_X12 {rs : List (Nat × Nat × Nat)} {iz : List (Nat × Nat × Int32)} (Z : zS h0 B 67 rs iz h) : zW (fX12_init (B + 66) h) (zS h0 B 147 ((66, 116, 146) :: (66, 113, 145) :: (66, 112, 144) :: (66, 111, 143) :: (66, 110, 142) :: (66, 109, 141) :: (66, 107, 140) :: (66, 106, 139) :: (66, 105, 138) :: (66, 104, 137) :: (66, 101, 136) :: (66, 100, 135) :: (66, 99, 134) :: (66, 98, 133) :: (66, 97, 132) :: (66, 96, 131) :: (66, 95, 130) :: (66, 94, 129) :: (66, 93, 128) :: (66, 92, 127) :: (66, 87, 126) :: (66, 86, 125) :: (66, 85, 124) :: (66, 84, 123) :: (66, 83, 122) :: (66, 82, 121) :: (66, 81, 120) :: (66, 80, 119) :: (66, 79, 118) :: (66, 78, 117) :: (66, 75, 116) :: (66, 66, 115) :: (66, 65, 114) :: (66, 64, 113) :: (66, 63, 112) :: (66, 62, 111) :: (66, 58, 110) :: (66, 57, 109) :: (66, 56, 108) :: (66, 55, 107) :: (66, 54, 106) :: (66, 53, 105) :: (66, 52, 104) :: (66, 51, 103) :: (66, 50, 102) :: (66, 49, 101) :: (66, 48, 100) :: (66, 47, 99) :: (66, 46, 98) :: (66, 45, 97) :: (66, 44, 96) :: (66, 42, 95) :: (66, 41, 94) :: (66, 40, 93) :: (66, 39, 92) :: (66, 37, 91) :: (66, 36, 90) :: (66, 35, 89) :: (66, 32, 88) :: (66, 31, 87) :: (66, 30, 86) :: (66, 29, 85) :: (66, 28, 84) :: (66, 27, 83) :: (66, 26, 82) :: (66, 25, 81) :: (66, 24, 80) :: (66, 16, 79) :: (66, 15, 78) :: (66, 14, 77) :: (66, 13, 76) :: (66, 12, 75) :: (66, 11, 74) :: (66, 9, 73) :: (66, 8, 72) :: (66, 7, 71) :: (66, 6, 70) :: (66, 5, 69) :: (66, 4, 68) :: (66, 3, 67) :: rs) ((66, 74, (90 : Int32)) :: (66, 73, (1 : Int32)) :: (66, 60, (-1 : Int32)) :: (66, 59, (-1 : Int32)) :: iz)) := by
  unfold fX12_init
  refine zwN (m' := 68) Z (by decide) (by decide) rfl fun g Z => ?_
  refine zwR (a := 66) (k := 3) (v := 67) Z (by decide) (by decide) (by decide) fun g Z => ?_
  refine zwN (m' := 69) Z (by decide) (by decide) rfl fun g Z => ?_
  refine zwR (a := 66) (k := 4) (v := 68) Z (by decide) (by decide) (by decide) fun g Z => ?_
  refine zwN (m' := 70) Z (by decide) (by decide) rfl fun g Z => ?_
  refine zwR (a := 66) (k := 5) (v := 69) Z (by decide) (by decide) (by decide) fun g Z => ?_
  refine zwN (m' := 71) Z (by decide) (by decide) rfl fun g Z => ?_
  refine zwR (a := 66) (k := 6) (v := 70) Z (by decide) (by decide) (by decide) fun g Z => ?_
  refine zwN (m' := 72) Z (by decide) (by decide) rfl fun g Z => ?_
  refine zwR (a := 66) (k := 7) (v := 71) Z (by decide) (by decide) (by decide) fun g Z => ?_
  refine zwN (m' := 73) Z (by decide) (by decide) rfl fun g Z => ?_
  refine zwR (a := 66) (k := 8) (v := 72) Z (by decide) (by decide) (by decide) fun g Z => ?_
  refine zwN (m' := 74) Z (by decide) (by decide) rfl fun g Z => ?_
  refine zwR (a := 66) (k := 9) (v := 73) Z (by decide) (by decide) (by decide) fun g Z => ?_
  refine zwN (m' := 75) Z (by decide) (by decide) rfl fun g Z => ?_
  refine zwR (a := 66) (k := 11) (v := 74) Z (by decide) (by decide) (by decide) fun g Z => ?_
  refine zwN (m' := 76) Z (by decide) (by decide) rfl fun g Z => ?_
  refine zwR (a := 66) (k := 12) (v := 75) Z (by decide) (by decide) (by decide) fun g Z => ?_
  refine zwN (m' := 77) Z (by decide) (by decide) rfl fun g Z => ?_
  refine zwR (a := 66) (k := 13) (v := 76) Z (by decide) (by decide) (by decide) fun g Z => ?_
  refine zwN (m' := 78) Z (by decide) (by decide) rfl fun g Z => ?_
  refine zwR (a := 66) (k := 14) (v := 77) Z (by decide) (by decide) (by decide) fun g Z => ?_
  refine zwN (m' := 79) Z (by decide) (by decide) rfl fun g Z => ?_
  refine zwR (a := 66) (k := 15) (v := 78) Z (by decide) (by decide) (by decide) fun g Z => ?_
  refine zwN (m' := 80) Z (by decide) (by decide) rfl fun g Z => ?_
  refine zwR (a := 66) (k := 16) (v := 79) Z (by decide) (by decide) (by decide) fun g Z => ?_
  refine zwN (m' := 81) Z (by decide) (by decide) rfl fun g Z => ?_
  refine zwR (a := 66) (k := 24) (v := 80) Z (by decide) (by decide) (by decide) fun g Z => ?_
  refine zwN (m' := 82) Z (by decide) (by decide) rfl fun g Z => ?_
  refine zwR (a := 66) (k := 25) (v := 81) Z (by decide) (by decide) (by decide) fun g Z => ?_
  refine zwN (m' := 83) Z (by decide) (by decide) rfl fun g Z => ?_
  refine zwR (a := 66) (k := 26) (v := 82) Z (by decide) (by decide) (by decide) fun g Z => ?_
  refine zwN (m' := 84) Z (by decide) (by decide) rfl fun g Z => ?_
  refine zwR (a := 66) (k := 27) (v := 83) Z (by decide) (by decide) (by decide) fun g Z => ?_
  refine zwN (m' := 85) Z (by decide) (by decide) rfl fun g Z => ?_
  refine zwR (a := 66) (k := 28) (v := 84) Z (by decide) (by decide) (by decide) fun g Z => ?_
  refine zwN (m' := 86) Z (by decide) (by decide) rfl fun g Z => ?_
  refine zwR (a := 66) (k := 29) (v := 85) Z (by decide) (by decide) (by decide) fun g Z => ?_
  refine zwN (m' := 87) Z (by decide) (by decide) rfl fun g Z => ?_
  refine zwR (a := 66) (k := 30) (v := 86) Z (by decide) (by decide) (by decide) fun g Z => ?_
  refine zwN (m' := 88) Z (by decide) (by decide) rfl fun g Z => ?_
  refine zwR (a := 66) (k := 31) (v := 87) Z (by decide) (by decide) (by decide) fun g Z => ?_
  refine zwN (m' := 89) Z (by decide) (by decide) rfl fun g Z => ?_
  refine zwR (a := 66) (k := 32) (v := 88) Z (by decide) (by decide) (by decide) fun g Z => ?_
  refine zwN (m' := 90) Z (by decide) (by decide) rfl fun g Z => ?_
  refine zwR (a := 66) (k := 35) (v := 89) Z (by decide) (by decide) (by decide) fun g Z => ?_
  refine zwN (m' := 91) Z (by decide) (by decide) rfl fun g Z => ?_
  refine zwR (a := 66) (k := 36) (v := 90) Z (by decide) (by decide) (by decide) fun g Z => ?_
  refine zwN (m' := 92) Z (by decide) (by decide) rfl fun g Z => ?_
  refine zwR (a := 66) (k := 37) (v := 91) Z (by decide) (by decide) (by decide) fun g Z => ?_
  refine zwN (m' := 93) Z (by decide) (by decide) rfl fun g Z => ?_
  refine zwR (a := 66) (k := 39) (v := 92) Z (by decide) (by decide) (by decide) fun g Z => ?_
  refine zwN (m' := 94) Z (by decide) (by decide) rfl fun g Z => ?_
  refine zwR (a := 66) (k := 40) (v := 93) Z (by decide) (by decide) (by decide) fun g Z => ?_
  refine zwN (m' := 95) Z (by decide) (by decide) rfl fun g Z => ?_
  refine zwR (a := 66) (k := 41) (v := 94) Z (by decide) (by decide) (by decide) fun g Z => ?_
  refine zwN (m' := 96) Z (by decide) (by decide) rfl fun g Z => ?_
  refine zwR (a := 66) (k := 42) (v := 95) Z (by decide) (by decide) (by decide) fun g Z => ?_
  refine zwN (m' := 97) Z (by decide) (by decide) rfl fun g Z => ?_
  refine zwR (a := 66) (k := 44) (v := 96) Z (by decide) (by decide) (by decide) fun g Z => ?_
  refine zwN (m' := 98) Z (by decide) (by decide) rfl fun g Z => ?_
  refine zwR (a := 66) (k := 45) (v := 97) Z (by decide) (by decide) (by decide) fun g Z => ?_
  refine zwN (m' := 99) Z (by decide) (by decide) rfl fun g Z => ?_
  refine zwR (a := 66) (k := 46) (v := 98) Z (by decide) (by decide) (by decide) fun g Z => ?_
  refine zwN (m' := 100) Z (by decide) (by decide) rfl fun g Z => ?_
  refine zwR (a := 66) (k := 47) (v := 99) Z (by decide) (by decide) (by decide) fun g Z => ?_
  refine zwN (m' := 101) Z (by decide) (by decide) rfl fun g Z => ?_
  refine zwR (a := 66) (k := 48) (v := 100) Z (by decide) (by decide) (by decide) fun g Z => ?_
  refine zwN (m' := 102) Z (by decide) (by decide) rfl fun g Z => ?_
  refine zwR (a := 66) (k := 49) (v := 101) Z (by decide) (by decide) (by decide) fun g Z => ?_
  refine zwN (m' := 103) Z (by decide) (by decide) rfl fun g Z => ?_
  refine zwR (a := 66) (k := 50) (v := 102) Z (by decide) (by decide) (by decide) fun g Z => ?_
  refine zwN (m' := 104) Z (by decide) (by decide) rfl fun g Z => ?_
  refine zwR (a := 66) (k := 51) (v := 103) Z (by decide) (by decide) (by decide) fun g Z => ?_
  refine zwN (m' := 105) Z (by decide) (by decide) rfl fun g Z => ?_
  refine zwR (a := 66) (k := 52) (v := 104) Z (by decide) (by decide) (by decide) fun g Z => ?_
  refine zwN (m' := 106) Z (by decide) (by decide) rfl fun g Z => ?_
  refine zwR (a := 66) (k := 53) (v := 105) Z (by decide) (by decide) (by decide) fun g Z => ?_
  refine zwN (m' := 107) Z (by decide) (by decide) rfl fun g Z => ?_
  refine zwR (a := 66) (k := 54) (v := 106) Z (by decide) (by decide) (by decide) fun g Z => ?_
  refine zwN (m' := 108) Z (by decide) (by decide) rfl fun g Z => ?_
  refine zwR (a := 66) (k := 55) (v := 107) Z (by decide) (by decide) (by decide) fun g Z => ?_
  refine zwN (m' := 109) Z (by decide) (by decide) rfl fun g Z => ?_
  refine zwR (a := 66) (k := 56) (v := 108) Z (by decide) (by decide) (by decide) fun g Z => ?_
  refine zwN (m' := 110) Z (by decide) (by decide) rfl fun g Z => ?_
  refine zwR (a := 66) (k := 57) (v := 109) Z (by decide) (by decide) (by decide) fun g Z => ?_
  refine zwN (m' := 111) Z (by decide) (by decide) rfl fun g Z => ?_
  refine zwR (a := 66) (k := 58) (v := 110) Z (by decide) (by decide) (by decide) fun g Z => ?_
  refine zwI (a := 66) (k := 59) Z (by decide) fun g Z => ?_
  refine zwI (a := 66) (k := 60) Z (by decide) fun g Z => ?_
  refine zwN (m' := 112) Z (by decide) (by decide) rfl fun g Z => ?_
  refine zwR (a := 66) (k := 62) (v := 111) Z (by decide) (by decide) (by decide) fun g Z => ?_
  refine zwN (m' := 113) Z (by decide) (by decide) rfl fun g Z => ?_
  refine zwR (a := 66) (k := 63) (v := 112) Z (by decide) (by decide) (by decide) fun g Z => ?_
  refine zwN (m' := 114) Z (by decide) (by decide) rfl fun g Z => ?_
  refine zwR (a := 66) (k := 64) (v := 113) Z (by decide) (by decide) (by decide) fun g Z => ?_
  refine zwN (m' := 115) Z (by decide) (by decide) rfl fun g Z => ?_
  refine zwR (a := 66) (k := 65) (v := 114) Z (by decide) (by decide) (by decide) fun g Z => ?_
  refine zwN (m' := 116) Z (by decide) (by decide) rfl fun g Z => ?_
  refine zwR (a := 66) (k := 66) (v := 115) Z (by decide) (by decide) (by decide) fun g Z => ?_
  refine zwI (a := 66) (k := 73) Z (by decide) fun g Z => ?_
  refine zwI (a := 66) (k := 74) Z (by decide) fun g Z => ?_
  refine zwN (m' := 117) Z (by decide) (by decide) rfl fun g Z => ?_
  refine zwR (a := 66) (k := 75) (v := 116) Z (by decide) (by decide) (by decide) fun g Z => ?_
  refine zwN (m' := 118) Z (by decide) (by decide) rfl fun g Z => ?_
  refine zwR (a := 66) (k := 78) (v := 117) Z (by decide) (by decide) (by decide) fun g Z => ?_
  refine zwN (m' := 119) Z (by decide) (by decide) rfl fun g Z => ?_
  refine zwR (a := 66) (k := 79) (v := 118) Z (by decide) (by decide) (by decide) fun g Z => ?_
  refine zwN (m' := 120) Z (by decide) (by decide) rfl fun g Z => ?_
  refine zwR (a := 66) (k := 80) (v := 119) Z (by decide) (by decide) (by decide) fun g Z => ?_
  refine zwN (m' := 121) Z (by decide) (by decide) rfl fun g Z => ?_
  refine zwR (a := 66) (k := 81) (v := 120) Z (by decide) (by decide) (by decide) fun g Z => ?_
  refine zwN (m' := 122) Z (by decide) (by decide) rfl fun g Z => ?_
  refine zwR (a := 66) (k := 82) (v := 121) Z (by decide) (by decide) (by decide) fun g Z => ?_
  refine zwN (m' := 123) Z (by decide) (by decide) rfl fun g Z => ?_
  refine zwR (a := 66) (k := 83) (v := 122) Z (by decide) (by decide) (by decide) fun g Z => ?_
  refine zwN (m' := 124) Z (by decide) (by decide) rfl fun g Z => ?_
  refine zwR (a := 66) (k := 84) (v := 123) Z (by decide) (by decide) (by decide) fun g Z => ?_
  refine zwN (m' := 125) Z (by decide) (by decide) rfl fun g Z => ?_
  refine zwR (a := 66) (k := 85) (v := 124) Z (by decide) (by decide) (by decide) fun g Z => ?_
  refine zwN (m' := 126) Z (by decide) (by decide) rfl fun g Z => ?_
  refine zwR (a := 66) (k := 86) (v := 125) Z (by decide) (by decide) (by decide) fun g Z => ?_
  refine zwN (m' := 127) Z (by decide) (by decide) rfl fun g Z => ?_
  refine zwR (a := 66) (k := 87) (v := 126) Z (by decide) (by decide) (by decide) fun g Z => ?_
  refine zwN (m' := 128) Z (by decide) (by decide) rfl fun g Z => ?_
  refine zwR (a := 66) (k := 92) (v := 127) Z (by decide) (by decide) (by decide) fun g Z => ?_
  refine zwN (m' := 129) Z (by decide) (by decide) rfl fun g Z => ?_
  refine zwR (a := 66) (k := 93) (v := 128) Z (by decide) (by decide) (by decide) fun g Z => ?_
  refine zwN (m' := 130) Z (by decide) (by decide) rfl fun g Z => ?_
  refine zwR (a := 66) (k := 94) (v := 129) Z (by decide) (by decide) (by decide) fun g Z => ?_
  refine zwN (m' := 131) Z (by decide) (by decide) rfl fun g Z => ?_
  refine zwR (a := 66) (k := 95) (v := 130) Z (by decide) (by decide) (by decide) fun g Z => ?_
  refine zwN (m' := 132) Z (by decide) (by decide) rfl fun g Z => ?_
  refine zwR (a := 66) (k := 96) (v := 131) Z (by decide) (by decide) (by decide) fun g Z => ?_
  refine zwN (m' := 133) Z (by decide) (by decide) rfl fun g Z => ?_
  refine zwR (a := 66) (k := 97) (v := 132) Z (by decide) (by decide) (by decide) fun g Z => ?_
  refine zwN (m' := 134) Z (by decide) (by decide) rfl fun g Z => ?_
  refine zwR (a := 66) (k := 98) (v := 133) Z (by decide) (by decide) (by decide) fun g Z => ?_
  refine zwN (m' := 135) Z (by decide) (by decide) rfl fun g Z => ?_
  refine zwR (a := 66) (k := 99) (v := 134) Z (by decide) (by decide) (by decide) fun g Z => ?_
  refine zwN (m' := 136) Z (by decide) (by decide) rfl fun g Z => ?_
  refine zwR (a := 66) (k := 100) (v := 135) Z (by decide) (by decide) (by decide) fun g Z => ?_
  refine zwN (m' := 137) Z (by decide) (by decide) rfl fun g Z => ?_
  refine zwR (a := 66) (k := 101) (v := 136) Z (by decide) (by decide) (by decide) fun g Z => ?_
  refine zwN (m' := 138) Z (by decide) (by decide) rfl fun g Z => ?_
  refine zwR (a := 66) (k := 104) (v := 137) Z (by decide) (by decide) (by decide) fun g Z => ?_
  refine zwN (m' := 139) Z (by decide) (by decide) rfl fun g Z => ?_
  refine zwR (a := 66) (k := 105) (v := 138) Z (by decide) (by decide) (by decide) fun g Z => ?_
  refine zwN (m' := 140) Z (by decide) (by decide) rfl fun g Z => ?_
  refine zwR (a := 66) (k := 106) (v := 139) Z (by decide) (by decide) (by decide) fun g Z => ?_
  refine zwN (m' := 141) Z (by decide) (by decide) rfl fun g Z => ?_
  refine zwR (a := 66) (k := 107) (v := 140) Z (by decide) (by decide) (by decide) fun g Z => ?_
  refine zwN (m' := 142) Z (by decide) (by decide) rfl fun g Z => ?_
  refine zwR (a := 66) (k := 109) (v := 141) Z (by decide) (by decide) (by decide) fun g Z => ?_
  refine zwN (m' := 143) Z (by decide) (by decide) rfl fun g Z => ?_
  refine zwR (a := 66) (k := 110) (v := 142) Z (by decide) (by decide) (by decide) fun g Z => ?_
  refine zwN (m' := 144) Z (by decide) (by decide) rfl fun g Z => ?_
  refine zwR (a := 66) (k := 111) (v := 143) Z (by decide) (by decide) (by decide) fun g Z => ?_
  refine zwN (m' := 145) Z (by decide) (by decide) rfl fun g Z => ?_
  refine zwR (a := 66) (k := 112) (v := 144) Z (by decide) (by decide) (by decide) fun g Z => ?_
  refine zwN (m' := 146) Z (by decide) (by decide) rfl fun g Z => ?_
  refine zwR (a := 66) (k := 113) (v := 145) Z (by decide) (by decide) (by decide) fun g Z => ?_
  refine zwN (m' := 147) Z (by decide) (by decide) rfl fun g Z => ?_
  refine zwR (a := 66) (k := 116) (v := 146) Z (by decide) (by decide) (by decide) fun g Z => ?_
  exact ⟨_, rfl, Z⟩
end RD
