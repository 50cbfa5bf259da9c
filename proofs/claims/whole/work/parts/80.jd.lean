/-! the facts of a deal, set alike on both sides -/
section JN
variable {α β γ : Type}
theorem jn_or (K : α → Option β) (c d : Prop) [Decidable c] [Decidable d] (x y : α) : mm_jn K (fun q => mm_jn (fun (_ : Unit) => q x) (fun q2 => if c then q2 () else (if d then q y else q2 ()))) = K (if c then x else if d then y else x) := by
  show (if c then K x else if d then K y else K x) = _
  by_cases h : c
  · simp [h]
  · by_cases h2 : d <;> simp [h, h2]
theorem jn_or2 (K : α → mm_H → Option β) (c d : Prop) [Decidable c] [Decidable d] (x y : α) (g : mm_H) : mm_jn K (fun q => mm_jn (fun (g111 : mm_H) => q x g111) (fun q2 => if c then q2 g else (if d then q y g else q2 g))) = K (if c then x else if d then y else x) g := by
  show (if c then K x g else if d then K y g else K x g) = _
  by_cases h : c
  · simp [h]
  · by_cases h2 : d <;> simp [h, h2]
theorem jn_if (K : α → Option β) (c : Prop) [Decidable c] (x y : α) : mm_jn K (fun q => if c then q x else q y) = K (if c then x else y) := by
  show (if c then K x else K y) = _
  by_cases h : c <;> simp [h]
end JN
/-- the heap in which the facts 0 to k - 1 are set in the row a -/
def jS (h : mm_H) (a : Nat) (F : Nat → Int64) : Nat → mm_H
  | 0 => h
  | k + 1 => mm_setJ (jS h a F k) a k (F k)
theorem jS_1 {h : mm_H} {a k : Nat} {F : Nat → Int64} : mm_setJ (jS h a F k) a k (F k) = jS h a F (k + 1) := rfl
theorem jS_i {h : mm_H} {a : Nat} {F : Nat → Int64} : ∀ k, mm_i (jS h a F k) = mm_i h
  | 0 => rfl
  | k + 1 => jS_i k
theorem jS_r {h : mm_H} {a : Nat} {F : Nat → Int64} : ∀ k, mm_r (jS h a F k) = mm_r h
  | 0 => rfl
  | k + 1 => jS_r k
theorem jS_kd {h : mm_H} {a : Nat} {F : Nat → Int64} : ∀ k, mm_kd (jS h a F k) = mm_kd h
  | 0 => rfl
  | k + 1 => jS_kd k
theorem jS_n {h : mm_H} {a : Nat} {F : Nat → Int64} : ∀ k, mm_n (jS h a F k) = mm_n h
  | 0 => rfl
  | k + 1 => jS_n k
theorem jS_j {h : mm_H} {a : Nat} {F : Nat → Int64} : ∀ k t, t < k → mm_j (jS h a F k) a t = F t
  | 0, t, ht => by omega
  | k + 1, t, ht => by
    show mm_j (mm_setJ (jS h a F k) a k (F k)) a t = F t
    rw [j_J]
    by_cases e : t = k
    · rw [if_pos ⟨rfl, e⟩, e]
    · rw [if_neg (fun z => e z.2)]; exact jS_j k t (by omega)
theorem jS_X {h : mm_H} {B a : Nat} {F : Nat → Int64} (hB : B + 147 ≤ mm_sz h) : ∀ k, mX B (fun b _ => b = a) h (jS h a F k)
  | 0 => mX.rf hB
  | k + 1 => (jS_X hB k).J (Or.inl rfl)
theorem owS_i {h h' : mm_H} {B m : Nat} {A U : Nat → Nat → Nat} {l : Int32} (e : mm_i h' = mm_i h) : ∀ a i, owS h' B A U m l a i = owS h B A U m l a i := by
  intro a
  induction a with
  | zero => intro i; rfl
  | succ a ih => intro i; simp only [owS, ctr, e, ih]
