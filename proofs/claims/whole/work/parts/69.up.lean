/-! the relations of the modules are kept where their cells are -/
section UP
variable {B : Nat} {h h' : mm_H} {ow : Nat → Nat × Nat} {ms : List Nat}
theorem RNow.up (R : RNow B h) (x : mY B ow ms h h') (h1 : 1 ∉ ms) (h2 : 101 ∉ ms) : RNow B h' := by
  unfold RNow at *
  rw [x.iF (j := 66) (m := 101) (by omega) rfl h2, x.i0 (m := 1) rfl h1]
  exact R
theorem RPo.up (R : RPo B h) (x : mY B ow ms h h') (h1 : 11 ∉ ms) (h2 : 111 ∉ ms) : RPo B h' := by
  unfold RPo at *
  have a1 := fun k => x.iF (j := 33) (k := k) (m := 11) (by omega) rfl h1
  have a2 := fun k => x.iF (j := 34) (k := k) (m := 11) (by omega) rfl h1
  have a3 := fun k => x.iF (j := 35) (k := k) (m := 11) (by omega) rfl h1
  have a4 := fun k => x.iF (j := 36) (k := k) (m := 11) (by omega) rfl h1
  have b1 := fun k => x.iF (j := 92) (k := k) (m := 111) (by omega) rfl h2
  have b2 := fun k => x.iF (j := 93) (k := k) (m := 111) (by omega) rfl h2
  have b3 := fun k => x.iF (j := 94) (k := k) (m := 111) (by omega) rfl h2
  have b4 := fun k => x.iF (j := 95) (k := k) (m := 111) (by omega) rfl h2
  have c1 := x.iF (j := 23) (k := 15) (m := 11) (by omega) rfl h1
  have c2 := x.iF (j := 66) (k := 38) (m := 111) (by omega) rfl h2
  simp only [a1, a2, a3, a4, b1, b2, b3, b4, c1, c2]
  exact R
theorem RRd.up (R : RRd B h) (x : mY B ow ms h h') (h1 : 11 ∉ ms) (h3 : mm_i h B 11 ≤ mm_i h' B 11) : RRd B h' := fun k hk => by
  rw [x.iF (j := 36) (k := k) (m := 11) (by omega) rfl h1]
  exact Int32.le_trans (R k hk) h3
theorem RSh.up (R : RSh B h) (x : mY B ow ms h h') (h1 : 14 ∉ ms) (h2 : 114 ∉ ms) : RSh B h' := by
  unfold RSh at *
  have a1 := fun k => x.iF (j := 24) (k := k) (m := 14) (by omega) rfl h1
  have a2 := fun k => x.iF (j := 25) (k := k) (m := 14) (by omega) rfl h1
  have a3 := fun k => x.iF (j := 26) (k := k) (m := 14) (by omega) rfl h1
  have a4 := fun k => x.iF (j := 27) (k := k) (m := 14) (by omega) rfl h1
  have b1 := fun k => x.iF (j := 117) (k := k) (m := 114) (by omega) rfl h2
  have b2 := fun k => x.iF (j := 118) (k := k) (m := 114) (by omega) rfl h2
  have b3 := fun k => x.iF (j := 119) (k := k) (m := 114) (by omega) rfl h2
  have b4 := fun k => x.iF (j := 120) (k := k) (m := 114) (by omega) rfl h2
  have c1 := x.iF (j := 23) (k := 4) (m := 14) (by omega) rfl h1
  have c2 := x.iF (j := 66) (k := 76) (m := 114) (by omega) rfl h2
  simp only [a1, a2, a3, a4, b1, b2, b3, b4, c1, c2]
  exact R
theorem RNe.up (R : RNe B h) (x : mY B ow ms h h') (h1 : 12 ∉ ms) (h2 : 112 ∉ ms) : RNe B h' := by
  unfold RNe at *
  have a1 := fun k => x.iF (j := 28) (k := k) (m := 12) (by omega) rfl h1
  have a2 := fun k => x.iF (j := 29) (k := k) (m := 12) (by omega) rfl h1
  have a3 := fun k => x.iF (j := 30) (k := k) (m := 12) (by omega) rfl h1
  have a4 := fun k => x.iF (j := 31) (k := k) (m := 12) (by omega) rfl h1
  have a5 := fun k => x.iF (j := 32) (k := k) (m := 12) (by omega) rfl h1
  have b1 := fun k => x.iF (j := 121) (k := k) (m := 112) (by omega) rfl h2
  have b2 := fun k => x.iF (j := 122) (k := k) (m := 112) (by omega) rfl h2
  have b3 := fun k => x.iF (j := 123) (k := k) (m := 112) (by omega) rfl h2
  have b4 := fun k => x.iF (j := 124) (k := k) (m := 112) (by omega) rfl h2
  have b5 := fun k => x.iF (j := 125) (k := k) (m := 112) (by omega) rfl h2
  have c1 := x.iF (j := 23) (k := 10) (m := 12) (by omega) rfl h1
  have c2 := x.iF (j := 66) (k := 77) (m := 112) (by omega) rfl h2
  simp only [a1, a2, a3, a4, a5, b1, b2, b3, b4, b5, c1, c2]
  exact R
theorem RWe.up (R : RWe B h) (x : mY B ow ms h h') (h1 : 13 ∉ ms) (h2 : 113 ∉ ms) : RWe B h' := by
  unfold RWe at *
  have a1 := fun k => x.iF (j := 18) (k := k) (m := 13) (by omega) rfl h1
  have a2 := fun k => x.iF (j := 19) (k := k) (m := 13) (by omega) rfl h1
  have a3 := fun k => x.iF (j := 20) (k := k) (m := 13) (by omega) rfl h1
  have a4 := fun k => x.iF (j := 21) (k := k) (m := 13) (by omega) rfl h1
  have a5 := fun k => x.iF (j := 22) (k := k) (m := 13) (by omega) rfl h1
  have b1 := fun k => x.iF (j := 111) (k := k) (m := 113) (by omega) rfl h2
  have b2 := fun k => x.iF (j := 112) (k := k) (m := 113) (by omega) rfl h2
  have b3 := fun k => x.iF (j := 113) (k := k) (m := 113) (by omega) rfl h2
  have b4 := fun k => x.iF (j := 114) (k := k) (m := 113) (by omega) rfl h2
  have b5 := fun k => x.iF (j := 115) (k := k) (m := 113) (by omega) rfl h2
  have c1 := x.iF (j := 17) (k := 5) (m := 13) (by omega) rfl h1
  have c2 := x.iF (j := 66) (k := 61) (m := 113) (by omega) rfl h2
  simp only [a1, a2, a3, a4, a5, b1, b2, b3, b4, b5, c1, c2]
  exact R
theorem RHa.up (R : RHa B h) (x : mY B ow ms h h') (h1 : 15 ∉ ms) (h2 : 115 ∉ ms) : RHa B h' := by
  unfold RHa at *
  have a1 := fun k => x.iF (j := 48) (k := k) (m := 15) (by omega) rfl h1
  have a2 := fun k => x.iF (j := 49) (k := k) (m := 15) (by omega) rfl h1
  have a3 := fun k => x.iF (j := 50) (k := k) (m := 15) (by omega) rfl h1
  have a4 := fun k => x.iF (j := 51) (k := k) (m := 15) (by omega) rfl h1
  have b1 := fun k => x.iF (j := 137) (k := k) (m := 115) (by omega) rfl h2
  have b2 := fun k => x.iF (j := 138) (k := k) (m := 115) (by omega) rfl h2
  have b3 := fun k => x.iF (j := 139) (k := k) (m := 115) (by omega) rfl h2
  have b4 := fun k => x.iF (j := 140) (k := k) (m := 115) (by omega) rfl h2
  have c1 := x.iF (j := 47) (k := 3) (m := 15) (by omega) rfl h1
  have c2 := x.iF (j := 66) (k := 102) (m := 115) (by omega) rfl h2
  have c3 := x.iF (j := 47) (k := 5) (m := 15) (by omega) rfl h1
  have c4 := x.iF (j := 66) (k := 103) (m := 115) (by omega) rfl h2
  simp only [a1, a2, a3, a4, b1, b2, b3, b4, c1, c2, c3, c4]
  exact R
theorem RPl.up (R : RPl B h) (x : mY B ow ms h h') (h1 : 18 ∉ ms) (h2 : 118 ∉ ms) : RPl B h' := by
  unfold RPl RHi shF at *
  have a1 := fun k => x.iF (j := 38) (k := k) (m := 18) (by omega) rfl h1
  have a2 := fun k => x.iF (j := 40) (k := k) (m := 18) (by omega) rfl h1
  have a3 := fun k => x.iF (j := 46) (k := k) (m := 18) (by omega) rfl h1
  have a4 := fun k => x.iF (j := 37) (k := k) (m := 18) (by omega) rfl h1
  have a5 := fun k => x.jF (j := 37) (k := k) (m := 18) (by omega) rfl h1
  have b1 := fun k => x.iF (j := 127) (k := k) (m := 118) (by omega) rfl h2
  have b2 := fun k => x.iF (j := 128) (k := k) (m := 118) (by omega) rfl h2
  have c1 := x.iF (j := 66) (k := 88) (m := 118) (by omega) rfl h2
  have c2 := x.iF (j := 66) (k := 89) (m := 118) (by omega) rfl h2
  have c3 := x.iF (j := 66) (k := 90) (m := 118) (by omega) rfl h2
  have c4 := x.jF (j := 66) (k := 91) (m := 118) (by omega) rfl h2
  simp only [a1, a2, a3, a4, a5, b1, b2, c1, c2, c3, c4]
  exact R
theorem RBk.up (R : RBk B h) (x : mY B ow ms h h') (h1 : 16 ∉ ms) (h2 : 116 ∉ ms) : RBk B h' := by
  unfold RBk RBn RBj at *
  have a1 := fun k => x.iF (j := 53) (k := k) (m := 16) (by omega) rfl h1
  have a2 := fun k => x.iF (j := 55) (k := k) (m := 16) (by omega) rfl h1
  have a3 := fun k => x.iF (j := 56) (k := k) (m := 16) (by omega) rfl h1
  have a4 := fun k => x.iF (j := 58) (k := k) (m := 16) (by omega) rfl h1
  have a5 := fun k => x.iF (j := 59) (k := k) (m := 16) (by omega) rfl h1
  have a6 := fun k => x.iF (j := 61) (k := k) (m := 16) (by omega) rfl h1
  have a7 := fun k => x.iF (j := 62) (k := k) (m := 16) (by omega) rfl h1
  have a8 := fun k => x.iF (j := 63) (k := k) (m := 16) (by omega) rfl h1
  have a9 := fun k => x.iF (j := 52) (k := k) (m := 16) (by omega) rfl h1
  have b1 := fun k => x.iF (j := 141) (k := k) (m := 116) (by omega) rfl h2
  have b2 := fun k => x.iF (j := 142) (k := k) (m := 116) (by omega) rfl h2
  have b3 := fun k => x.iF (j := 143) (k := k) (m := 116) (by omega) rfl h2
  have b4 := fun k => x.iF (j := 144) (k := k) (m := 116) (by omega) rfl h2
  have b5 := fun k => x.iF (j := 145) (k := k) (m := 116) (by omega) rfl h2
  have c1 := x.iF (j := 66) (k := 108) (m := 116) (by omega) rfl h2
  have c2 := x.iF (j := 66) (k := 114) (m := 116) (by omega) rfl h2
  have c3 := x.iF (j := 66) (k := 115) (m := 116) (by omega) rfl h2
  simp only [a1, a2, a3, a4, a5, a6, a7, a8, a9, b1, b2, b3, b4, b5, c1, c2, c3]
  exact R
end UP
