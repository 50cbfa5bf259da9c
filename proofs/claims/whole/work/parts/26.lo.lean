def fL_k (k : Nat) (L : Nat) (xs : Nat → Int32) (ax ay : Nat) (xi : Int32) (K : mm_H → Option (Int32 × mm_H)) (h : mm_H) : Option (Int32 × mm_H) := match k with
  | 0 => fL_c0 L xs ax ay xi K h
  | 1 => fL_c1 L xs ax ay xi K h
  | 2 => fL_c2 L xs ax ay xi K h
  | 3 => fL_c3 L xs ax ay xi K h
  | 4 => fL_c4 L xs ax ay xi K h
  | 5 => fL_c5 L xs ax ay xi K h
  | 6 => fL_c6 L xs ax ay xi K h
  | 7 => fL_c7 L xs ax ay xi K h
  | 8 => fL_c8 L xs ax ay xi K h
  | 9 => fL_c9 L xs ax ay xi K h
  | 10 => fL_c10 L xs ax ay xi K h
  | 11 => fL_c11 L xs ax ay xi K h
  | 12 => fL_c12 L xs ax ay xi K h
  | 13 => fL_c13 L xs ax ay xi K h
  | 14 => fL_c14 L xs ax ay xi K h
  | 15 => fL_c15 L xs ax ay xi K h
  | 16 => fL_c16 L xs ax ay xi K h
  | 17 => fL_c17 L xs ax ay xi K h
  | 18 => fL_c18 L xs ax ay xi K h
  | 19 => fL_c19 L xs ax ay xi K h
  | 20 => fL_c20 L xs ax ay xi K h
  | 21 => fL_c21 L xs ax ay xi K h
  | 22 => fL_c22 L xs ax ay xi K h
  | 23 => fL_c23 L xs ax ay xi K h
  | 24 => fL_c24 L xs ax ay xi K h
  | 25 => fL_c25 L xs ax ay xi K h
  | 26 => fL_c26 L xs ax ay xi K h
  | 27 => fL_c27 L xs ax ay xi K h
  | 28 => fL_c28 L xs ax ay xi K h
  | 29 => fL_c29 L xs ax ay xi K h
  | 30 => fL_c30 L xs ax ay xi K h
  | 31 => fL_c31 L xs ax ay xi K h
  | 32 => fL_c32 L xs ax ay xi K h
  | 33 => fL_c33 L xs ax ay xi K h
  | 34 => fL_c34 L xs ax ay xi K h
  | 35 => fL_c35 L xs ax ay xi K h
  | 36 => fL_c36 L xs ax ay xi K h
  | 37 => fL_c37 L xs ax ay xi K h
  | 38 => fL_c38 L xs ax ay xi K h
  | 39 => fL_c39 L xs ax ay xi K h
  | 40 => fL_c40 L xs ax ay xi K h
  | 41 => fL_c41 L xs ax ay xi K h
  | 42 => fL_c42 L xs ax ay xi K h
  | 43 => fL_c43 L xs ax ay xi K h
  | 44 => fL_c44 L xs ax ay xi K h
  | 45 => fL_c45 L xs ax ay xi K h
  | 46 => fL_c46 L xs ax ay xi K h
  | 47 => fL_c47 L xs ax ay xi K h
  | _ => none
theorem cL_k {X : mm_X} (C : mm_C X cL_law yL_law 1300 183448 8551906) {sb L : Nat} {xs : Nat → Int32} (hX : mm_scr X sb L xs) {cl sl : Nat} (hcl : cl + 350 ≤ 183448) (hsl : sl + 16500 ≤ 8551906) {ax ay : Nat} {xi : Int32} {K : mm_H → Option (Int32 × mm_H)} {u : Int32 × mm_H} (hk : ∀ h, K h = some u → mm_E X h (cl + 350) (sl + 16500) 2011 [some (vR (some sb)), some (vR (some ax)), some (vR (some ay)), some (vI xi)] []) : ∀ (k : Nat), k < 48 → ∀ h, fL_k k L xs ax ay xi K h = some u → mm_E X h (cl + 0) (sl + 0) (lw_pc k) [some (vR (some sb)), some (vR (some ax)), some (vR (some ay)), some (vI xi)] [] := by
  intro k hk48
  match k, hk48 with
  | 0, _ => exact cL_c0 C hX hcl hsl hk
  | 1, _ => exact cL_c1 C hX hcl hsl hk
  | 2, _ => exact cL_c2 C hX hcl hsl hk
  | 3, _ => exact cL_c3 C hX hcl hsl hk
  | 4, _ => exact cL_c4 C hX hcl hsl hk
  | 5, _ => exact cL_c5 C hX hcl hsl hk
  | 6, _ => exact cL_c6 C hX hcl hsl hk
  | 7, _ => exact cL_c7 C hX hcl hsl hk
  | 8, _ => exact cL_c8 C hX hcl hsl hk
  | 9, _ => exact cL_c9 C hX hcl hsl hk
  | 10, _ => exact cL_c10 C hX hcl hsl hk
  | 11, _ => exact cL_c11 C hX hcl hsl hk
  | 12, _ => exact cL_c12 C hX hcl hsl hk
  | 13, _ => exact cL_c13 C hX hcl hsl hk
  | 14, _ => exact cL_c14 C hX hcl hsl hk
  | 15, _ => exact cL_c15 C hX hcl hsl hk
  | 16, _ => exact cL_c16 C hX hcl hsl hk
  | 17, _ => exact cL_c17 C hX hcl hsl hk
  | 18, _ => exact cL_c18 C hX hcl hsl hk
  | 19, _ => exact cL_c19 C hX hcl hsl hk
  | 20, _ => exact cL_c20 C hX hcl hsl hk
  | 21, _ => exact cL_c21 C hX hcl hsl hk
  | 22, _ => exact cL_c22 C hX hcl hsl hk
  | 23, _ => exact cL_c23 C hX hcl hsl hk
  | 24, _ => exact cL_c24 C hX hcl hsl hk
  | 25, _ => exact cL_c25 C hX hcl hsl hk
  | 26, _ => exact cL_c26 C hX hcl hsl hk
  | 27, _ => exact cL_c27 C hX hcl hsl hk
  | 28, _ => exact cL_c28 C hX hcl hsl hk
  | 29, _ => exact cL_c29 C hX hcl hsl hk
  | 30, _ => exact cL_c30 C hX hcl hsl hk
  | 31, _ => exact cL_c31 C hX hcl hsl hk
  | 32, _ => exact cL_c32 C hX hcl hsl hk
  | 33, _ => exact cL_c33 C hX hcl hsl hk
  | 34, _ => exact cL_c34 C hX hcl hsl hk
  | 35, _ => exact cL_c35 C hX hcl hsl hk
  | 36, _ => exact cL_c36 C hX hcl hsl hk
  | 37, _ => exact cL_c37 C hX hcl hsl hk
  | 38, _ => exact cL_c38 C hX hcl hsl hk
  | 39, _ => exact cL_c39 C hX hcl hsl hk
  | 40, _ => exact cL_c40 C hX hcl hsl hk
  | 41, _ => exact cL_c41 C hX hcl hsl hk
  | 42, _ => exact cL_c42 C hX hcl hsl hk
  | 43, _ => exact cL_c43 C hX hcl hsl hk
  | 44, _ => exact cL_c44 C hX hcl hsl hk
  | 45, _ => exact cL_c45 C hX hcl hsl hk
  | 46, _ => exact cL_c46 C hX hcl hsl hk
  | 47, _ => exact cL_c47 C hX hcl hsl hk
  | k + 48, h => exact absurd h (by omega)
theorem q_ck' {β : Type} {c : Prop} [Decidable c] {k : Option β} (h : c) : mm_ck c k = k := if_pos h
theorem fL_b_cases {L : Nat} {xs : Nat → Int32} {xi : Int32} (h1 : ¬ nI L - 8 < xi) (h2 : mm_ix xi L) : ∃ o : Option Nat, (∀ k, o = some k → k < 48) ∧ ∀ (Kc : Nat → mm_H → Option (Int32 × mm_H)) (Kn Kx : mm_H → Option (Int32 × mm_H)) (h : mm_H), fL_b L xs xi Kc Kn Kx h = match o with
    | some k => Kc k h
    | none => Kn h := by
  unfold fL_b
  simp only [if_neg h1, q_ck' h2, mm_lt]
  generalize xs (Int32.toNatClampNeg xi) &&& 63 = v
  by_cases e0 : v = 0
  · exact ⟨some 0, (fun k hk => by cases hk; decide), (fun Kc Kn Kx h => by rw [if_pos e0])⟩
  by_cases e1 : v = 1
  · exact ⟨some 1, (fun k hk => by cases hk; decide), (fun Kc Kn Kx h => by rw [if_neg e0, if_pos e1])⟩
  by_cases e2 : v = 2
  · exact ⟨some 2, (fun k hk => by cases hk; decide), (fun Kc Kn Kx h => by rw [if_neg e0, if_neg e1, if_pos e2])⟩
  by_cases e3 : v = 3
  · exact ⟨some 3, (fun k hk => by cases hk; decide), (fun Kc Kn Kx h => by rw [if_neg e0, if_neg e1, if_neg e2, if_pos e3])⟩
  by_cases e4 : v = 4
  · exact ⟨some 4, (fun k hk => by cases hk; decide), (fun Kc Kn Kx h => by rw [if_neg e0, if_neg e1, if_neg e2, if_neg e3, if_pos e4])⟩
  by_cases e5 : v = 5
  · exact ⟨some 5, (fun k hk => by cases hk; decide), (fun Kc Kn Kx h => by rw [if_neg e0, if_neg e1, if_neg e2, if_neg e3, if_neg e4, if_pos e5])⟩
  by_cases e6 : v = 6
  · exact ⟨some 6, (fun k hk => by cases hk; decide), (fun Kc Kn Kx h => by rw [if_neg e0, if_neg e1, if_neg e2, if_neg e3, if_neg e4, if_neg e5, if_pos e6])⟩
  by_cases e7 : v = 7
  · exact ⟨some 7, (fun k hk => by cases hk; decide), (fun Kc Kn Kx h => by rw [if_neg e0, if_neg e1, if_neg e2, if_neg e3, if_neg e4, if_neg e5, if_neg e6, if_pos e7])⟩
  by_cases e8 : v = 8
  · exact ⟨some 8, (fun k hk => by cases hk; decide), (fun Kc Kn Kx h => by rw [if_neg e0, if_neg e1, if_neg e2, if_neg e3, if_neg e4, if_neg e5, if_neg e6, if_neg e7, if_pos e8])⟩
  by_cases e9 : v = 9
  · exact ⟨some 9, (fun k hk => by cases hk; decide), (fun Kc Kn Kx h => by rw [if_neg e0, if_neg e1, if_neg e2, if_neg e3, if_neg e4, if_neg e5, if_neg e6, if_neg e7, if_neg e8, if_pos e9])⟩
  by_cases e10 : v = 10
  · exact ⟨some 10, (fun k hk => by cases hk; decide), (fun Kc Kn Kx h => by rw [if_neg e0, if_neg e1, if_neg e2, if_neg e3, if_neg e4, if_neg e5, if_neg e6, if_neg e7, if_neg e8, if_neg e9, if_pos e10])⟩
  by_cases e11 : v = 11
  · exact ⟨some 11, (fun k hk => by cases hk; decide), (fun Kc Kn Kx h => by rw [if_neg e0, if_neg e1, if_neg e2, if_neg e3, if_neg e4, if_neg e5, if_neg e6, if_neg e7, if_neg e8, if_neg e9, if_neg e10, if_pos e11])⟩
  by_cases e12 : v = 12
  · exact ⟨some 12, (fun k hk => by cases hk; decide), (fun Kc Kn Kx h => by rw [if_neg e0, if_neg e1, if_neg e2, if_neg e3, if_neg e4, if_neg e5, if_neg e6, if_neg e7, if_neg e8, if_neg e9, if_neg e10, if_neg e11, if_pos e12])⟩
  by_cases e13 : v = 13
  · exact ⟨some 13, (fun k hk => by cases hk; decide), (fun Kc Kn Kx h => by rw [if_neg e0, if_neg e1, if_neg e2, if_neg e3, if_neg e4, if_neg e5, if_neg e6, if_neg e7, if_neg e8, if_neg e9, if_neg e10, if_neg e11, if_neg e12, if_pos e13])⟩
  by_cases e14 : v = 14
  · exact ⟨some 14, (fun k hk => by cases hk; decide), (fun Kc Kn Kx h => by rw [if_neg e0, if_neg e1, if_neg e2, if_neg e3, if_neg e4, if_neg e5, if_neg e6, if_neg e7, if_neg e8, if_neg e9, if_neg e10, if_neg e11, if_neg e12, if_neg e13, if_pos e14])⟩
  by_cases e15 : v = 15
  · exact ⟨some 15, (fun k hk => by cases hk; decide), (fun Kc Kn Kx h => by rw [if_neg e0, if_neg e1, if_neg e2, if_neg e3, if_neg e4, if_neg e5, if_neg e6, if_neg e7, if_neg e8, if_neg e9, if_neg e10, if_neg e11, if_neg e12, if_neg e13, if_neg e14, if_pos e15])⟩
  by_cases e16 : v = 16
  · exact ⟨some 16, (fun k hk => by cases hk; decide), (fun Kc Kn Kx h => by rw [if_neg e0, if_neg e1, if_neg e2, if_neg e3, if_neg e4, if_neg e5, if_neg e6, if_neg e7, if_neg e8, if_neg e9, if_neg e10, if_neg e11, if_neg e12, if_neg e13, if_neg e14, if_neg e15, if_pos e16])⟩
  by_cases e17 : v = 17
  · exact ⟨some 17, (fun k hk => by cases hk; decide), (fun Kc Kn Kx h => by rw [if_neg e0, if_neg e1, if_neg e2, if_neg e3, if_neg e4, if_neg e5, if_neg e6, if_neg e7, if_neg e8, if_neg e9, if_neg e10, if_neg e11, if_neg e12, if_neg e13, if_neg e14, if_neg e15, if_neg e16, if_pos e17])⟩
  by_cases e18 : v = 18
  · exact ⟨some 18, (fun k hk => by cases hk; decide), (fun Kc Kn Kx h => by rw [if_neg e0, if_neg e1, if_neg e2, if_neg e3, if_neg e4, if_neg e5, if_neg e6, if_neg e7, if_neg e8, if_neg e9, if_neg e10, if_neg e11, if_neg e12, if_neg e13, if_neg e14, if_neg e15, if_neg e16, if_neg e17, if_pos e18])⟩
  by_cases e19 : v = 19
  · exact ⟨some 19, (fun k hk => by cases hk; decide), (fun Kc Kn Kx h => by rw [if_neg e0, if_neg e1, if_neg e2, if_neg e3, if_neg e4, if_neg e5, if_neg e6, if_neg e7, if_neg e8, if_neg e9, if_neg e10, if_neg e11, if_neg e12, if_neg e13, if_neg e14, if_neg e15, if_neg e16, if_neg e17, if_neg e18, if_pos e19])⟩
  by_cases e20 : v = 20
  · exact ⟨some 20, (fun k hk => by cases hk; decide), (fun Kc Kn Kx h => by rw [if_neg e0, if_neg e1, if_neg e2, if_neg e3, if_neg e4, if_neg e5, if_neg e6, if_neg e7, if_neg e8, if_neg e9, if_neg e10, if_neg e11, if_neg e12, if_neg e13, if_neg e14, if_neg e15, if_neg e16, if_neg e17, if_neg e18, if_neg e19, if_pos e20])⟩
  by_cases e21 : v = 21
  · exact ⟨some 21, (fun k hk => by cases hk; decide), (fun Kc Kn Kx h => by rw [if_neg e0, if_neg e1, if_neg e2, if_neg e3, if_neg e4, if_neg e5, if_neg e6, if_neg e7, if_neg e8, if_neg e9, if_neg e10, if_neg e11, if_neg e12, if_neg e13, if_neg e14, if_neg e15, if_neg e16, if_neg e17, if_neg e18, if_neg e19, if_neg e20, if_pos e21])⟩
  by_cases e22 : v = 22
  · exact ⟨some 22, (fun k hk => by cases hk; decide), (fun Kc Kn Kx h => by rw [if_neg e0, if_neg e1, if_neg e2, if_neg e3, if_neg e4, if_neg e5, if_neg e6, if_neg e7, if_neg e8, if_neg e9, if_neg e10, if_neg e11, if_neg e12, if_neg e13, if_neg e14, if_neg e15, if_neg e16, if_neg e17, if_neg e18, if_neg e19, if_neg e20, if_neg e21, if_pos e22])⟩
  by_cases e23 : v = 23
  · exact ⟨some 23, (fun k hk => by cases hk; decide), (fun Kc Kn Kx h => by rw [if_neg e0, if_neg e1, if_neg e2, if_neg e3, if_neg e4, if_neg e5, if_neg e6, if_neg e7, if_neg e8, if_neg e9, if_neg e10, if_neg e11, if_neg e12, if_neg e13, if_neg e14, if_neg e15, if_neg e16, if_neg e17, if_neg e18, if_neg e19, if_neg e20, if_neg e21, if_neg e22, if_pos e23])⟩
  by_cases e24 : v = 24
  · exact ⟨some 24, (fun k hk => by cases hk; decide), (fun Kc Kn Kx h => by rw [if_neg e0, if_neg e1, if_neg e2, if_neg e3, if_neg e4, if_neg e5, if_neg e6, if_neg e7, if_neg e8, if_neg e9, if_neg e10, if_neg e11, if_neg e12, if_neg e13, if_neg e14, if_neg e15, if_neg e16, if_neg e17, if_neg e18, if_neg e19, if_neg e20, if_neg e21, if_neg e22, if_neg e23, if_pos e24])⟩
  by_cases e25 : v = 25
  · exact ⟨some 25, (fun k hk => by cases hk; decide), (fun Kc Kn Kx h => by rw [if_neg e0, if_neg e1, if_neg e2, if_neg e3, if_neg e4, if_neg e5, if_neg e6, if_neg e7, if_neg e8, if_neg e9, if_neg e10, if_neg e11, if_neg e12, if_neg e13, if_neg e14, if_neg e15, if_neg e16, if_neg e17, if_neg e18, if_neg e19, if_neg e20, if_neg e21, if_neg e22, if_neg e23, if_neg e24, if_pos e25])⟩
  by_cases e26 : v = 26
  · exact ⟨some 26, (fun k hk => by cases hk; decide), (fun Kc Kn Kx h => by rw [if_neg e0, if_neg e1, if_neg e2, if_neg e3, if_neg e4, if_neg e5, if_neg e6, if_neg e7, if_neg e8, if_neg e9, if_neg e10, if_neg e11, if_neg e12, if_neg e13, if_neg e14, if_neg e15, if_neg e16, if_neg e17, if_neg e18, if_neg e19, if_neg e20, if_neg e21, if_neg e22, if_neg e23, if_neg e24, if_neg e25, if_pos e26])⟩
  by_cases e27 : v = 27
  · exact ⟨some 27, (fun k hk => by cases hk; decide), (fun Kc Kn Kx h => by rw [if_neg e0, if_neg e1, if_neg e2, if_neg e3, if_neg e4, if_neg e5, if_neg e6, if_neg e7, if_neg e8, if_neg e9, if_neg e10, if_neg e11, if_neg e12, if_neg e13, if_neg e14, if_neg e15, if_neg e16, if_neg e17, if_neg e18, if_neg e19, if_neg e20, if_neg e21, if_neg e22, if_neg e23, if_neg e24, if_neg e25, if_neg e26, if_pos e27])⟩
  by_cases e28 : v = 28
  · exact ⟨some 28, (fun k hk => by cases hk; decide), (fun Kc Kn Kx h => by rw [if_neg e0, if_neg e1, if_neg e2, if_neg e3, if_neg e4, if_neg e5, if_neg e6, if_neg e7, if_neg e8, if_neg e9, if_neg e10, if_neg e11, if_neg e12, if_neg e13, if_neg e14, if_neg e15, if_neg e16, if_neg e17, if_neg e18, if_neg e19, if_neg e20, if_neg e21, if_neg e22, if_neg e23, if_neg e24, if_neg e25, if_neg e26, if_neg e27, if_pos e28])⟩
  by_cases e29 : v = 29
  · exact ⟨some 29, (fun k hk => by cases hk; decide), (fun Kc Kn Kx h => by rw [if_neg e0, if_neg e1, if_neg e2, if_neg e3, if_neg e4, if_neg e5, if_neg e6, if_neg e7, if_neg e8, if_neg e9, if_neg e10, if_neg e11, if_neg e12, if_neg e13, if_neg e14, if_neg e15, if_neg e16, if_neg e17, if_neg e18, if_neg e19, if_neg e20, if_neg e21, if_neg e22, if_neg e23, if_neg e24, if_neg e25, if_neg e26, if_neg e27, if_neg e28, if_pos e29])⟩
  by_cases e30 : v = 30
  · exact ⟨some 30, (fun k hk => by cases hk; decide), (fun Kc Kn Kx h => by rw [if_neg e0, if_neg e1, if_neg e2, if_neg e3, if_neg e4, if_neg e5, if_neg e6, if_neg e7, if_neg e8, if_neg e9, if_neg e10, if_neg e11, if_neg e12, if_neg e13, if_neg e14, if_neg e15, if_neg e16, if_neg e17, if_neg e18, if_neg e19, if_neg e20, if_neg e21, if_neg e22, if_neg e23, if_neg e24, if_neg e25, if_neg e26, if_neg e27, if_neg e28, if_neg e29, if_pos e30])⟩
  by_cases e31 : v = 31
  · exact ⟨some 31, (fun k hk => by cases hk; decide), (fun Kc Kn Kx h => by rw [if_neg e0, if_neg e1, if_neg e2, if_neg e3, if_neg e4, if_neg e5, if_neg e6, if_neg e7, if_neg e8, if_neg e9, if_neg e10, if_neg e11, if_neg e12, if_neg e13, if_neg e14, if_neg e15, if_neg e16, if_neg e17, if_neg e18, if_neg e19, if_neg e20, if_neg e21, if_neg e22, if_neg e23, if_neg e24, if_neg e25, if_neg e26, if_neg e27, if_neg e28, if_neg e29, if_neg e30, if_pos e31])⟩
  by_cases e32 : v = 32
  · exact ⟨some 32, (fun k hk => by cases hk; decide), (fun Kc Kn Kx h => by rw [if_neg e0, if_neg e1, if_neg e2, if_neg e3, if_neg e4, if_neg e5, if_neg e6, if_neg e7, if_neg e8, if_neg e9, if_neg e10, if_neg e11, if_neg e12, if_neg e13, if_neg e14, if_neg e15, if_neg e16, if_neg e17, if_neg e18, if_neg e19, if_neg e20, if_neg e21, if_neg e22, if_neg e23, if_neg e24, if_neg e25, if_neg e26, if_neg e27, if_neg e28, if_neg e29, if_neg e30, if_neg e31, if_pos e32])⟩
  by_cases e33 : v = 33
  · exact ⟨some 33, (fun k hk => by cases hk; decide), (fun Kc Kn Kx h => by rw [if_neg e0, if_neg e1, if_neg e2, if_neg e3, if_neg e4, if_neg e5, if_neg e6, if_neg e7, if_neg e8, if_neg e9, if_neg e10, if_neg e11, if_neg e12, if_neg e13, if_neg e14, if_neg e15, if_neg e16, if_neg e17, if_neg e18, if_neg e19, if_neg e20, if_neg e21, if_neg e22, if_neg e23, if_neg e24, if_neg e25, if_neg e26, if_neg e27, if_neg e28, if_neg e29, if_neg e30, if_neg e31, if_neg e32, if_pos e33])⟩
  by_cases e34 : v = 34
  · exact ⟨some 34, (fun k hk => by cases hk; decide), (fun Kc Kn Kx h => by rw [if_neg e0, if_neg e1, if_neg e2, if_neg e3, if_neg e4, if_neg e5, if_neg e6, if_neg e7, if_neg e8, if_neg e9, if_neg e10, if_neg e11, if_neg e12, if_neg e13, if_neg e14, if_neg e15, if_neg e16, if_neg e17, if_neg e18, if_neg e19, if_neg e20, if_neg e21, if_neg e22, if_neg e23, if_neg e24, if_neg e25, if_neg e26, if_neg e27, if_neg e28, if_neg e29, if_neg e30, if_neg e31, if_neg e32, if_neg e33, if_pos e34])⟩
  by_cases e35 : v = 35
  · exact ⟨some 35, (fun k hk => by cases hk; decide), (fun Kc Kn Kx h => by rw [if_neg e0, if_neg e1, if_neg e2, if_neg e3, if_neg e4, if_neg e5, if_neg e6, if_neg e7, if_neg e8, if_neg e9, if_neg e10, if_neg e11, if_neg e12, if_neg e13, if_neg e14, if_neg e15, if_neg e16, if_neg e17, if_neg e18, if_neg e19, if_neg e20, if_neg e21, if_neg e22, if_neg e23, if_neg e24, if_neg e25, if_neg e26, if_neg e27, if_neg e28, if_neg e29, if_neg e30, if_neg e31, if_neg e32, if_neg e33, if_neg e34, if_pos e35])⟩
  by_cases e36 : v = 36
  · exact ⟨some 36, (fun k hk => by cases hk; decide), (fun Kc Kn Kx h => by rw [if_neg e0, if_neg e1, if_neg e2, if_neg e3, if_neg e4, if_neg e5, if_neg e6, if_neg e7, if_neg e8, if_neg e9, if_neg e10, if_neg e11, if_neg e12, if_neg e13, if_neg e14, if_neg e15, if_neg e16, if_neg e17, if_neg e18, if_neg e19, if_neg e20, if_neg e21, if_neg e22, if_neg e23, if_neg e24, if_neg e25, if_neg e26, if_neg e27, if_neg e28, if_neg e29, if_neg e30, if_neg e31, if_neg e32, if_neg e33, if_neg e34, if_neg e35, if_pos e36])⟩
  by_cases e37 : v = 37
  · exact ⟨some 37, (fun k hk => by cases hk; decide), (fun Kc Kn Kx h => by rw [if_neg e0, if_neg e1, if_neg e2, if_neg e3, if_neg e4, if_neg e5, if_neg e6, if_neg e7, if_neg e8, if_neg e9, if_neg e10, if_neg e11, if_neg e12, if_neg e13, if_neg e14, if_neg e15, if_neg e16, if_neg e17, if_neg e18, if_neg e19, if_neg e20, if_neg e21, if_neg e22, if_neg e23, if_neg e24, if_neg e25, if_neg e26, if_neg e27, if_neg e28, if_neg e29, if_neg e30, if_neg e31, if_neg e32, if_neg e33, if_neg e34, if_neg e35, if_neg e36, if_pos e37])⟩
  by_cases e38 : v = 38
  · exact ⟨some 38, (fun k hk => by cases hk; decide), (fun Kc Kn Kx h => by rw [if_neg e0, if_neg e1, if_neg e2, if_neg e3, if_neg e4, if_neg e5, if_neg e6, if_neg e7, if_neg e8, if_neg e9, if_neg e10, if_neg e11, if_neg e12, if_neg e13, if_neg e14, if_neg e15, if_neg e16, if_neg e17, if_neg e18, if_neg e19, if_neg e20, if_neg e21, if_neg e22, if_neg e23, if_neg e24, if_neg e25, if_neg e26, if_neg e27, if_neg e28, if_neg e29, if_neg e30, if_neg e31, if_neg e32, if_neg e33, if_neg e34, if_neg e35, if_neg e36, if_neg e37, if_pos e38])⟩
  by_cases e39 : v = 39
  · exact ⟨some 39, (fun k hk => by cases hk; decide), (fun Kc Kn Kx h => by rw [if_neg e0, if_neg e1, if_neg e2, if_neg e3, if_neg e4, if_neg e5, if_neg e6, if_neg e7, if_neg e8, if_neg e9, if_neg e10, if_neg e11, if_neg e12, if_neg e13, if_neg e14, if_neg e15, if_neg e16, if_neg e17, if_neg e18, if_neg e19, if_neg e20, if_neg e21, if_neg e22, if_neg e23, if_neg e24, if_neg e25, if_neg e26, if_neg e27, if_neg e28, if_neg e29, if_neg e30, if_neg e31, if_neg e32, if_neg e33, if_neg e34, if_neg e35, if_neg e36, if_neg e37, if_neg e38, if_pos e39])⟩
  by_cases e40 : v = 40
  · exact ⟨some 40, (fun k hk => by cases hk; decide), (fun Kc Kn Kx h => by rw [if_neg e0, if_neg e1, if_neg e2, if_neg e3, if_neg e4, if_neg e5, if_neg e6, if_neg e7, if_neg e8, if_neg e9, if_neg e10, if_neg e11, if_neg e12, if_neg e13, if_neg e14, if_neg e15, if_neg e16, if_neg e17, if_neg e18, if_neg e19, if_neg e20, if_neg e21, if_neg e22, if_neg e23, if_neg e24, if_neg e25, if_neg e26, if_neg e27, if_neg e28, if_neg e29, if_neg e30, if_neg e31, if_neg e32, if_neg e33, if_neg e34, if_neg e35, if_neg e36, if_neg e37, if_neg e38, if_neg e39, if_pos e40])⟩
  by_cases e41 : v = 41
  · exact ⟨some 41, (fun k hk => by cases hk; decide), (fun Kc Kn Kx h => by rw [if_neg e0, if_neg e1, if_neg e2, if_neg e3, if_neg e4, if_neg e5, if_neg e6, if_neg e7, if_neg e8, if_neg e9, if_neg e10, if_neg e11, if_neg e12, if_neg e13, if_neg e14, if_neg e15, if_neg e16, if_neg e17, if_neg e18, if_neg e19, if_neg e20, if_neg e21, if_neg e22, if_neg e23, if_neg e24, if_neg e25, if_neg e26, if_neg e27, if_neg e28, if_neg e29, if_neg e30, if_neg e31, if_neg e32, if_neg e33, if_neg e34, if_neg e35, if_neg e36, if_neg e37, if_neg e38, if_neg e39, if_neg e40, if_pos e41])⟩
  by_cases e42 : v = 42
  · exact ⟨some 42, (fun k hk => by cases hk; decide), (fun Kc Kn Kx h => by rw [if_neg e0, if_neg e1, if_neg e2, if_neg e3, if_neg e4, if_neg e5, if_neg e6, if_neg e7, if_neg e8, if_neg e9, if_neg e10, if_neg e11, if_neg e12, if_neg e13, if_neg e14, if_neg e15, if_neg e16, if_neg e17, if_neg e18, if_neg e19, if_neg e20, if_neg e21, if_neg e22, if_neg e23, if_neg e24, if_neg e25, if_neg e26, if_neg e27, if_neg e28, if_neg e29, if_neg e30, if_neg e31, if_neg e32, if_neg e33, if_neg e34, if_neg e35, if_neg e36, if_neg e37, if_neg e38, if_neg e39, if_neg e40, if_neg e41, if_pos e42])⟩
  by_cases e43 : v = 43
  · exact ⟨some 43, (fun k hk => by cases hk; decide), (fun Kc Kn Kx h => by rw [if_neg e0, if_neg e1, if_neg e2, if_neg e3, if_neg e4, if_neg e5, if_neg e6, if_neg e7, if_neg e8, if_neg e9, if_neg e10, if_neg e11, if_neg e12, if_neg e13, if_neg e14, if_neg e15, if_neg e16, if_neg e17, if_neg e18, if_neg e19, if_neg e20, if_neg e21, if_neg e22, if_neg e23, if_neg e24, if_neg e25, if_neg e26, if_neg e27, if_neg e28, if_neg e29, if_neg e30, if_neg e31, if_neg e32, if_neg e33, if_neg e34, if_neg e35, if_neg e36, if_neg e37, if_neg e38, if_neg e39, if_neg e40, if_neg e41, if_neg e42, if_pos e43])⟩
  by_cases e44 : v = 44
  · exact ⟨some 44, (fun k hk => by cases hk; decide), (fun Kc Kn Kx h => by rw [if_neg e0, if_neg e1, if_neg e2, if_neg e3, if_neg e4, if_neg e5, if_neg e6, if_neg e7, if_neg e8, if_neg e9, if_neg e10, if_neg e11, if_neg e12, if_neg e13, if_neg e14, if_neg e15, if_neg e16, if_neg e17, if_neg e18, if_neg e19, if_neg e20, if_neg e21, if_neg e22, if_neg e23, if_neg e24, if_neg e25, if_neg e26, if_neg e27, if_neg e28, if_neg e29, if_neg e30, if_neg e31, if_neg e32, if_neg e33, if_neg e34, if_neg e35, if_neg e36, if_neg e37, if_neg e38, if_neg e39, if_neg e40, if_neg e41, if_neg e42, if_neg e43, if_pos e44])⟩
  by_cases e45 : v = 45
  · exact ⟨some 45, (fun k hk => by cases hk; decide), (fun Kc Kn Kx h => by rw [if_neg e0, if_neg e1, if_neg e2, if_neg e3, if_neg e4, if_neg e5, if_neg e6, if_neg e7, if_neg e8, if_neg e9, if_neg e10, if_neg e11, if_neg e12, if_neg e13, if_neg e14, if_neg e15, if_neg e16, if_neg e17, if_neg e18, if_neg e19, if_neg e20, if_neg e21, if_neg e22, if_neg e23, if_neg e24, if_neg e25, if_neg e26, if_neg e27, if_neg e28, if_neg e29, if_neg e30, if_neg e31, if_neg e32, if_neg e33, if_neg e34, if_neg e35, if_neg e36, if_neg e37, if_neg e38, if_neg e39, if_neg e40, if_neg e41, if_neg e42, if_neg e43, if_neg e44, if_pos e45])⟩
  by_cases e46 : v = 46
  · exact ⟨some 46, (fun k hk => by cases hk; decide), (fun Kc Kn Kx h => by rw [if_neg e0, if_neg e1, if_neg e2, if_neg e3, if_neg e4, if_neg e5, if_neg e6, if_neg e7, if_neg e8, if_neg e9, if_neg e10, if_neg e11, if_neg e12, if_neg e13, if_neg e14, if_neg e15, if_neg e16, if_neg e17, if_neg e18, if_neg e19, if_neg e20, if_neg e21, if_neg e22, if_neg e23, if_neg e24, if_neg e25, if_neg e26, if_neg e27, if_neg e28, if_neg e29, if_neg e30, if_neg e31, if_neg e32, if_neg e33, if_neg e34, if_neg e35, if_neg e36, if_neg e37, if_neg e38, if_neg e39, if_neg e40, if_neg e41, if_neg e42, if_neg e43, if_neg e44, if_neg e45, if_pos e46])⟩
  by_cases e47 : v = 47
  · exact ⟨some 47, (fun k hk => by cases hk; decide), (fun Kc Kn Kx h => by rw [if_neg e0, if_neg e1, if_neg e2, if_neg e3, if_neg e4, if_neg e5, if_neg e6, if_neg e7, if_neg e8, if_neg e9, if_neg e10, if_neg e11, if_neg e12, if_neg e13, if_neg e14, if_neg e15, if_neg e16, if_neg e17, if_neg e18, if_neg e19, if_neg e20, if_neg e21, if_neg e22, if_neg e23, if_neg e24, if_neg e25, if_neg e26, if_neg e27, if_neg e28, if_neg e29, if_neg e30, if_neg e31, if_neg e32, if_neg e33, if_neg e34, if_neg e35, if_neg e36, if_neg e37, if_neg e38, if_neg e39, if_neg e40, if_neg e41, if_neg e42, if_neg e43, if_neg e44, if_neg e45, if_neg e46, if_pos e47])⟩
  exact ⟨none, (fun k hk => by cases hk), (fun Kc Kn Kx h => by rw [if_neg e0, if_neg e1, if_neg e2, if_neg e3, if_neg e4, if_neg e5, if_neg e6, if_neg e7, if_neg e8, if_neg e9, if_neg e10, if_neg e11, if_neg e12, if_neg e13, if_neg e14, if_neg e15, if_neg e16, if_neg e17, if_neg e18, if_neg e19, if_neg e20, if_neg e21, if_neg e22, if_neg e23, if_neg e24, if_neg e25, if_neg e26, if_neg e27, if_neg e28, if_neg e29, if_neg e30, if_neg e31, if_neg e32, if_neg e33, if_neg e34, if_neg e35, if_neg e36, if_neg e37, if_neg e38, if_neg e39, if_neg e40, if_neg e41, if_neg e42, if_neg e43, if_neg e44, if_neg e45, if_neg e46, if_neg e47])⟩
theorem nI_sub8 {L : Nat} (hL : L ≤ 4096) : (nI L - 8).toInt = (L : Int) - 8 := by
  rw [Int32.toInt_sub, nI_toInt (by omega), show (8 : Int32).toInt = 8 by decide]
  exact Int.bmod_eq_of_le (by omega) (by omega)
theorem law_loop {X : mm_X} (C : mm_C X cL_law yL_law 1300 183448 8551906) {sb L B : Nat} {xs : Nat → Int32} (hX : mm_scr X sb L xs) (hL : L ≤ 4096) {Rl : Nat → mm_H → Prop} (Pk : ∀ k, k < 48 → ∀ (h : mm_H) (j : Nat), Rl B h → 8 * j + 8 ≤ L → ∃ h2, (∀ K, fL_k k L xs B (B + 66) (nI (8 * j)) K h = K h2) ∧ Rl B h2)
    (hend : ∀ (h : mm_H) (cl sl : Nat) (lv : List (Option mm_W)), cl ≤ 183448 → sl ≤ 8551906 → mm_E X h cl sl 2017 lv []) :
    ∀ (n j : Nat) (h : mm_H) (cl sl : Nat), j + n = L / 8 → Rl B h → cl + 350 * n ≤ 183448 → sl + 16500 * n ≤ 8551906 → mm_E X h cl sl 18 [some (vR (some sb)), some (vR (some B)), some (vR (some (B + 66))), some (vI (nI (8 * j)))] [] := by
  intro n
  induction n with
  | zero =>
    intro j h cl sl hj hRl hcl hsl
    have hlt : nI L - 8 < nI (8 * j) := by
      rw [Int32.lt_iff_toInt_lt, nI_sub8 hL, nI_toInt (by omega)]
      omega
    refine cL_b (cl := cl) (sl := sl) C hX (Kc := fun _ _ => none) (Kn := fun _ => none) (Kx := fun _ => some (0, h)) (u := (0, h)) (fun k h9 e => by cases e) (fun h9 e => by cases e) (fun h9 _ => hend h9 _ _ _ (by omega) (by omega)) h ?_
    unfold fL_b
    rw [if_pos hlt]
  | succ n ih =>
    intro j h cl sl hj hRl hcl hsl
    have b1 : cl + 350 ≤ 183448 := Nat.le_trans (Nat.add_le_add_left (Nat.le_mul_of_pos_right 350 (Nat.succ_pos n)) cl) hcl
    have b2 : sl + 16500 ≤ 8551906 := Nat.le_trans (Nat.add_le_add_left (Nat.le_mul_of_pos_right 16500 (Nat.succ_pos n)) sl) hsl
    have hnlt : ¬ nI L - 8 < nI (8 * j) := by
      rw [Int32.lt_iff_toInt_lt, nI_sub8 hL, nI_toInt (by omega)]
      omega
    have hix : mm_ix (nI (8 * j)) L := nI_in (by omega) (by omega)
    have next : ∀ (h2 : mm_H) (c2 s2 : Nat), Rl B h2 → c2 + 350 * n ≤ 183448 → s2 + 16500 * n ≤ 8551906 → mm_E X h2 c2 s2 2011 [some (vR (some sb)), some (vR (some B)), some (vR (some (B + 66))), some (vI (nI (8 * j)))] [] := by
      intro h2 c2 s2 hR2 hc2 hs2
      refine me_iinc (q := 2014) (v := nI (8 * (j + 1))) (lv2 := [some (vR (some sb)), some (vR (some B)), some (vR (some (B + 66))), some (vI (nI (8 * (j + 1))))]) C dL_law_2011 rfl ?_ (Nat.le_of_ble_eq_true rfl) rfl rfl rfl ?_
      · show nI (8 * j) + nI 8 = nI (8 * (j + 1))
        rw [nI_add]; rfl
      · refine me_goto (q := 18) C dL_law_2014 (by decide) ?_
        exact ih (j + 1) h2 c2 s2 (by omega) hR2 hc2 hs2
    obtain ⟨o, ho, hfb⟩ := fL_b_cases hnlt hix (xs := xs)
    cases o with
    | none =>
      exact cL_b (cl := cl) (sl := sl) C hX (Kc := fun _ _ => none) (Kn := fun h9 => @ite _ (h9 = h) (Classical.propDecidable _) (some (0, h)) none) (Kx := fun _ => none) (u := (0, h)) (fun k h9 e => by cases e) (fun h9 e => by
        by_cases q : h9 = h
        · subst q; exact next _ _ _ hRl (by omega) (by omega)
        · rw [if_neg q] at e; cases e) (fun h9 e => by cases e) h (by rw [hfb]; exact if_pos rfl)
    | some k =>
      obtain ⟨h2, hK, hR2⟩ := Pk k (ho k rfl) h j hRl (by omega)
      refine cL_b (cl := cl) (sl := sl) C hX (Kc := fun k9 h9 => @ite _ (k9 = k ∧ h9 = h) (Classical.propDecidable _) (some (0, h)) none) (Kn := fun _ => none) (Kx := fun _ => none) (u := (0, h)) (fun k9 h9 e => ?_) (fun h9 e => by cases e) (fun h9 e => by cases e) h (by rw [hfb]; exact if_pos ⟨rfl, rfl⟩)
      by_cases q : k9 = k ∧ h9 = h
      · obtain ⟨rfl, rfl⟩ := q
        refine cL_k (cl := cl) (sl := sl) C hX b1 b2 (K := fun h8 => @ite _ (h8 = h2) (Classical.propDecidable _) (some (0, h2)) none) (u := (0, h2)) (fun h8 e8 => ?_) k9 (ho k9 rfl) h9 (by rw [hK]; exact if_pos rfl)
        by_cases q8 : h8 = h2
        · subst q8; exact next _ _ _ hR2 (by omega) (by omega)
        · rw [if_neg q8] at e8; cases e8
      · rw [if_neg q] at e; cases e
