/-! a new bargain on both sides -/
def RBz (B : Nat) (hy : mm_H) (n : Nat) : Prop := ∀ k, n ≤ k → k < 300 → mm_i hy (B + 106) k = 0
section NC
variable {B : Nat} {h hx hy hx' hy' : mm_H} {ow ow' : Nat → Nat × Nat} {n nm nl nb nw td tn ta np : Nat} {am al : Nat → Nat} {A A' U V Z G E : Nat → Nat → Nat} {T : Nat → Int32}
theorem RBz.up (R : RBz B hy n) {ms : List Nat} (y : mY B ow ms hy hy') (h1 : 129 ∉ ms) : RBz B hy' n := fun k h2 h3 => by
  rw [y.iF (j := 106) (m := 129) (by omega) rfl h1]; exact R k h2 h3
/-- the numbers of the bargains with one more: seller s, buyer b, owed o -/
def nU (U : Nat → Nat → Nat) (n s b o : Nat) : Nat → Nat → Nat := fun j k => if k = n then (if j = 0 then s else if j = 1 then b else if j = 2 then o else 0) else U j k
theorem nU_n {s b o j : Nat} : nU U n s b o j n = if j = 0 then s else if j = 1 then b else if j = 2 then o else 0 := if_pos rfl
theorem nU_o {s b o j k : Nat} (h : k ≠ n) : nU U n s b o j k = U j k := if_neg h
theorem RBg.more (R : RBg B ow hx hy nm n A U T) (hn : n < 300) {s b o : Nat} (hs : s < nm) (hb : b < nm) (ho : o ≤ 1000000) (L' : mL B ow' hx' (B + 3) 2 1 (n + 1) (A' 0)) (Ao : ∀ j k, k < n → A' j k = A j k) (keep : ∀ k, k < n → (∀ i, mm_i hx' (A 0 k) i = mm_i hx (A 0 k) i) ∧ (∀ i, mm_i hx' (A 1 k) i = mm_i hx (A 1 k) i) ∧ (∀ i, mm_i hx' (A 2 k) i = mm_i hx (A 2 k) i) ∧ ∀ i, mm_i hx' (A 3 k) i = mm_i hx (A 3 k) i) (keepF : ∀ k, k < n → mBrf B ow' hx' A k) (F' : mBrf B ow' hx' A' n)
    (c0 : mm_i hx' (A' 0 n) 0 = nI s) (c1 : mm_i hx' (A' 0 n) 1 = nI b) (c6 : mm_i hx' (A' 0 n) 6 = nI o) (c9 : mm_i hx' (A' 0 n) 9 = 0) (c8 : mm_i hx' (A' 0 n) 8 = nI s) (cz : ∀ i, mm_i hx' (A' 2 n) i = 0) (cd : (mm_i hx' (A' 0 n) 4 = -1 ∧ o = 0) ∨ 0 ≤ mm_i hx' (A' 0 n) 4)
    (y43 : mm_i hy' (B + 66) 43 = nI (n + 1)) (yo1 : ∀ q k, 96 ≤ q → q ≤ 106 → k < n → mm_i hy' (B + q) k = mm_i hy (B + q) k) (yo2 : ∀ q i, 107 ≤ q → q ≤ 110 → mm_i hy' (B + q) i = mm_i hy (B + q) i) (y67 : ∀ c, c < nm → mm_i hy' (B + 67) c = mm_i hy (B + 67) c)
    (y96 : mm_i hy' (B + 96) n = nI s) (y97 : mm_i hy' (B + 97) n = nI b) (y98 : mm_i hy' (B + 98) n = mm_i hx' (A' 0 n) 2) (y99 : mm_i hy' (B + 99) n = mm_i hx' (A' 0 n) 3) (y100 : mm_i hy' (B + 100) n = nI o) (y101 : mm_i hy' (B + 101) n = mm_i hx' (A' 0 n) 4) (y102 : mm_i hy' (B + 102) n = mm_i hx' (A' 0 n) 7) (y103 : mm_i hy' (B + 103) n = mm_i hx' (A' 0 n) 5) (y104 : mm_i hy' (B + 104) n = nI s) (y105 : mm_i hy' (B + 105) n = T s) (y106 : mm_i hy' (B + 106) n = 0) : RBg B ow' hx' hy' nm (n + 1) A' (nU U n s b o) T := by
  obtain ⟨R1, R2, R3, R4, R5⟩ := R
  refine ⟨by omega, L', y43, fun k hk => ?_, fun c hc => by rw [y67 c hc]; exact R5 c hc⟩
  by_cases e : k = n
  · subst e
    refine ⟨?_, F'⟩
    unfold mBar
    simp only [nU_n]
    refine ⟨⟨c0, y96, hs⟩, ⟨c1, y97, hb⟩, ⟨c6, y100⟩, ⟨by rw [c9]; exact nI_0.symm, by rw [y106]; exact nI_0.symm, by simp⟩, ⟨y98, y99, y101, y103, y102, by rw [y104, c8]⟩, cd, ⟨Or.inr ⟨s, hs, c8, rfl⟩, y105⟩, fun i hi => absurd hi (by simp), fun i _ _ => ⟨cz i, ?_⟩, by simp; exact ho⟩
    rw [if_neg (by omega), if_neg (by omega), if_neg (by omega)]
  · have hk2 : k < n := by omega
    obtain ⟨k0, k1, k2, k3⟩ := keep k hk2
    have M := (R4 k hk2).1.cg (U' := nU U n s b o) (hx' := hx') (hy' := hy') (fun i => nU_o e) k0 k1 k2 k3 (fun q h1 h2 => yo1 q k h1 h2 hk2) (fun q i h1 h2 _ => yo2 q _ h1 h2)
    have F := keepF k hk2
    refine ⟨?_, ?_⟩
    · unfold mBar mSur at *
      simp only [Ao _ k hk2]
      exact M
    · unfold mBrf at *
      simp only [Ao _ k hk2]
      exact F
/-- the amount of a lot goes down -/
theorem RLt.amt (R : RLt B ow hx hy nm n al) (hB : B + 147 ≤ mm_sz hx) {l : Nat} {v : Int32} (hl : l < n) (hv : 0 ≤ v ∧ v ≤ 100000) : RLt B ow (mm_setI hx (al l) 3 v) (mm_setI hy (B + 75) l v) nm n al := by
  obtain ⟨R1, R2, R3, R4⟩ := R
  have Ll := (R2.2.2.2 l hl).1
  have x0 : mY B ow [26] hx (mm_setI hx (al l) 3 v) := (mX.rf hB).IL (m := 26) Ll rfl (by decide)
  refine ⟨R1, R2.up2 rfl (by omega) x0 mO.rf (m := 6) rfl rfl (fun _ => rfl) (by decide), by rw [i_I_ne (by omega)]; exact R3, fun k hk => ?_⟩
  obtain ⟨m1, m2, m3, m4, m5⟩ := R4 k hk
  have Lk := (R2.2.2.2 k hk).1
  unfold mLot
  rw [i_I_ne (a := B + 75) (b := B + 74) (by omega), i_I_ne (a := B + 75) (b := B + 77) (by omega), i_I_ne (a := B + 75) (b := B + 78) (by omega), i_I_ne (a := B + 75) (b := B + 76) (by omega)]
  have e : ∀ j, j ≠ 3 → mm_i (mm_setI hx (al l) 3 v) (al k) j = mm_i hx (al k) j := fun j hj => by rw [i_I, if_neg (fun z => hj z.2)]
  rw [e 0 (by omega), e 1 (by omega), e 2 (by omega), e 4 (by omega)]
  refine ⟨m1, m2, m3, ?_, m5⟩
  by_cases c : k = l
  · subst c
    rw [i_I_eq, i_I_eq]; exact ⟨rfl, hv⟩
  · rw [i_I_ne (Lk.ne Ll (Or.inr c)), i_I, if_neg (fun z => c z.2)]; exact m4
end NC
