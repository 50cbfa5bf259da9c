/-! a deal: the purses and chests behind it -/
theorem upN_eq {f : Nat → Nat} {k v : Nat} : upN f k v k = v := if_pos rfl
theorem upN_ne {f : Nat → Nat} {k v j : Nat} (e : j ≠ k) : upN f k v j = f j := if_neg e
def dP (P : Nat → Nat) (b s c p : Nat) : Nat → Nat := upN (upN P b (P b - c)) s (P s + c - p)
def dC (C : Nat → Nat) (t p : Nat) : Nat → Nat := upN (upN C 9 (C 9 + (p + 1) / 2)) t (C t + p / 2)
/-- where a deal's payments write -/
def wD (B : Nat) (am : Nat → Nat) (a s b : Nat) : Nat → Nat → Prop := fun x i => (x = am b ∧ i = 3) ∨ (x = am s ∧ i = 3) ∨ (x = a ∧ (i = 6 ∨ i = 7)) ∨ x = B + 4 ∨ (x = B ∧ i = 12)
def fD (B : Nat) (h3 : mm_H) (am : Nat → Nat) (nm a s b t : Nat) (P C : Nat → Nat) (o c p : Nat) (h6 : mm_H) : Prop := mX B (wD B am a s b) h3 h6 ∧ mm_i h6 a 6 = nI (o - c) ∧ mm_i h6 a 7 = nI p ∧ mm_j h6 B 12 = 0 ∧ (∀ j, j < nm → mm_i h6 (am j) 3 = nI (dP P b s c p j)) ∧ ∀ i, i < 10 → mm_i h6 (B + 4) i = nI (dC C t p i)
section DA
variable {B : Nat} {h h3 h4 h6 : mm_H} {ow : Nat → Nat × Nat} {nm a k s b t o c p : Nat} {am : Nat → Nat} {P C : Nat → Nat}
theorem dP_sum (hs : s < nm) (hb : b < nm) (hsb : s ≠ b) (ht : t ≤ 8) (hc : c ≤ P b) (hp : p ≤ P s + c) : sumN (dP P b s c p) nm + sumN (dC C t p) 10 = sumN P nm + sumN C 10 := by
  have e1 := (sumN_upN (f := P) (k := b) (v := P b - c) (n := nm)).1 hb
  have e2 := (sumN_upN (f := upN P b (P b - c)) (k := s) (v := P s + c - p) (n := nm)).1 hs
  have e3 := (sumN_upN (f := C) (k := 9) (v := C 9 + (p + 1) / 2) (n := 10)).1 (by omega)
  have e4 := (sumN_upN (f := upN C 9 (C 9 + (p + 1) / 2)) (k := t) (v := C t + p / 2) (n := 10)).1 (by omega)
  rw [upN_ne hsb] at e2
  rw [upN_ne (show t ≠ 9 by omega)] at e4
  unfold dP dC
  omega
theorem fD_0 (L : mL B ow h3 (B + 1) 0 8 nm am) (hs : s < nm) (hb : b < nm) (La : Lv B ow h3 3 k a) (hB : B + 147 ≤ mm_sz h3) (hP : ∀ j, j < nm → mm_i h3 (am j) 3 = nI (P j)) (hC : ∀ i, i < 10 → mm_i h3 (B + 4) i = nI (C i)) (a7 : mm_i h3 a 7 = 0) (hsb : s ≠ b) : fD B h3 am nm a s b t P C o c 0 (mm_setJ (mm_setI (mm_setI (mm_setI h3 (am b) 3 (nI (P b - c))) a 6 (nI (o - c))) (am s) 3 (nI (P s + c))) B 12 0) := by
  have ne : ∀ j, j < nm → am j ≠ a := fun j hj => (L.2.2.2 j hj).1.ne La (Or.inl (by decide))
  have nf : ∀ j, j < nm → B + 4 ≠ am j := fun j hj => by have := (L.2.2.2 j hj).1.1; omega
  have na : B + 4 ≠ a := by have := La.1; omega
  refine ⟨((((mX.rf hB).I (Or.inl (Or.inl ⟨rfl, rfl⟩))).I (Or.inl (Or.inr (Or.inr (Or.inl ⟨rfl, Or.inl rfl⟩))))).I (Or.inl (Or.inr (Or.inl ⟨rfl, rfl⟩)))).J (Or.inl (Or.inr (Or.inr (Or.inr (Or.inr ⟨rfl, rfl⟩))))), ?_, ?_, ?_, fun j hj => ?_, fun i hi => ?_⟩
  · rw [i_J, i_I_ne (Ne.symm (ne s hs)), i_I_eq]
  · rw [i_J, i_I_ne (Ne.symm (ne s hs)), i_I, if_neg (fun z => absurd z.2 (by decide)), i_I_ne (Ne.symm (ne b hb)), a7]; exact nI_0.symm
  · rw [j_J, if_pos ⟨rfl, rfl⟩]
  · rw [i_J]
    unfold dP
    by_cases e : j = s
    · subst e
      rw [i_I_eq, upN_eq, Nat.sub_zero]
    · rw [i_I_ne (am_ne L hj hs e), i_I_ne (ne j hj), upN_ne e]
      by_cases e2 : j = b
      · subst e2
        rw [i_I_eq, upN_eq]
      · rw [i_I_ne (am_ne L hj hb e2), upN_ne e2]; exact hP j hj
  · rw [i_J, i_I_ne (nf s hs), i_I_ne na, i_I_ne (nf b hb), hC i hi]
    unfold dC
    congr 1
    by_cases e : i = t
    · subst e; rw [upN_eq]; omega
    · rw [upN_ne e]
      by_cases e2 : i = 9
      · subst e2; rw [upN_eq]; omega
      · rw [upN_ne e2]
theorem fD.fine (F : fD B h3 am nm a s b t P C o c 0 h4) (L : mL B ow h3 (B + 1) 0 8 nm am) (hs : s < nm) (La : Lv B ow h3 3 k a) (ht : t ≤ 8) : fD B h3 am nm a s b t P C o c p (mm_setI (mm_setI (mm_setI (mm_setI h4 (am s) 3 (nI (P s + c - p))) (B + 4) 9 (nI (C 9 + (p + 1) / 2))) (B + 4) t (nI (C t + p / 2))) a 7 (nI p)) := by
  obtain ⟨f1, f2, f3, f4, f5, f6⟩ := F
  have ne : ∀ j, j < nm → am j ≠ a := fun j hj => (L.2.2.2 j hj).1.ne La (Or.inl (by decide))
  have nf : ∀ j, j < nm → am j ≠ B + 4 := fun j hj => by have := (L.2.2.2 j hj).1.1; omega
  have na : a ≠ B + 4 := by have := La.1; omega
  refine ⟨(((f1.I (Or.inl (Or.inr (Or.inl ⟨rfl, rfl⟩)))).I (Or.inl (Or.inr (Or.inr (Or.inr (Or.inl rfl)))))).I (Or.inl (Or.inr (Or.inr (Or.inr (Or.inl rfl)))))).I (Or.inl (Or.inr (Or.inr (Or.inl ⟨rfl, Or.inr rfl⟩)))), ?_, i_I_eq, ?_, fun j hj => ?_, fun i hi => ?_⟩
  · rw [i_I, if_neg (fun z => absurd z.2 (by decide)), i_I_ne na, i_I_ne na, i_I_ne (Ne.symm (ne s hs))]; exact f2
  · exact f4
  · rw [i_I_ne (ne j hj), i_I_ne (nf j hj), i_I_ne (nf j hj)]
    have g := f5 j hj
    unfold dP at *
    by_cases e : j = s
    · subst e
      rw [i_I_eq, upN_eq]
    · rw [i_I_ne (am_ne L hj hs e), upN_ne e]
      rw [upN_ne e] at g; exact g
  · have g := f6 i hi
    unfold dC at *
    rw [i_I_ne (Ne.symm na)]
    by_cases e : i = t
    · subst e
      rw [i_I_eq, upN_eq]
    · rw [upN_ne e] at g ⊢
      rw [i_I, if_neg (fun z => e z.2)]
      by_cases e2 : i = 9
      · subst e2
        rw [i_I_eq, upN_eq]
      · rw [upN_ne e2] at g ⊢
        rw [i_I, if_neg (fun z => e2 z.2), i_I_ne (Ne.symm (nf s hs))]; exact g
theorem fD.mY (F : fD B h3 am nm a s b t P C o c p h6) (L : mL B ow h3 (B + 1) 0 8 nm am) (hs : s < nm) (hb : b < nm) (La : Lv B ow h3 3 k a) : mY B ow [2, 27, 30] h3 h6 := F.1.up fun x i _ z => by
  rcases z with ⟨rfl, rfl⟩ | ⟨rfl, rfl⟩ | ⟨rfl, z⟩ | rfl | ⟨rfl, rfl⟩
  · exact wM_L (m := 2) (L.2.2.2 b hb).1 rfl (by decide)
  · exact wM_L (m := 2) (L.2.2.2 s hs).1 rfl (by decide)
  · rcases z with rfl | rfl
    · exact wM_L (m := 27) La rfl (by decide)
    · exact wM_L (m := 30) La rfl (by decide)
  · exact wM_F (m := 2) (by omega) rfl (by decide)
  · exact wM_Z (m := 2) rfl (by decide)
theorem mdt_6 {t k i : Nat} (h : t = 3 ∨ t = 5 ∨ t = 6 ∨ t = 7) : mdt (t, k) i ≠ 6 := by
  rcases h with rfl | rfl | rfl | rfl
  · show (if i = 6 then 27 else if i = 7 then 30 else if i = 8 then 28 else if i = 9 then 29 else 7) ≠ 6
    repeat' split
    all_goals decide
  · show (29 : Nat) ≠ 6; decide
  · show (27 : Nat) ≠ 6; decide
  · show (28 : Nat) ≠ 6; decide
end DA
