def mm_ma (own : String) (n : Nat) (y : MethodName) (code : ByteArray) (maxL : Nat) (ty : FieldType) : Prop := Cond.methodLink own n y ∈ mm_tb ∧ Cond.static y ∈ mm_tb ∧ Cond.initialized "java/lang/Math" ∈ mm_tb ∧ Cond.code y code maxL (some ty) ∈ mm_tb
def mm_ca (own : String) (n ci : Nat) : Prop := ∃ (Cn : String) (T : u_T) (N : Nat), vwCl[ci]? = some (Cn, T, N) ∧ ci < 14 ∧ Cond.classLink own n Cn ∈ mm_tb
section MT
variable {X : mm_X} {cc : ByteArray} {y : MethodName} {lvl mc ms : Nat} {h h2 : mm_H} {cells slots pc q : Nat} {lv : List (Option mm_W)} {st : List mm_W}
theorem me_cast (C : mm_C X cc y lvl mc ms) {n ci : Nat} {o : Option Nat} {a : Nat} (hd : decode cc pc = .ok (.checkcast n, 3)) (hc : mm_ca y.cls n ci) (ho : o = some a) (hk : mm_kd h a = ci) (hq : pc + 3 = q) (k : mm_E X h cells slots q lv (vR o :: st)) : mm_E X h cells slots pc lv (vR o :: st) := by
  subst hq
  subst ho
  intro H locs ls hR hS hl
  obtain ⟨Cn, T, N, f1, f2, f3⟩ := hc
  have hat := ((hR.ob (a := a) (by omega)).1.1 (by omega))
  rw [hk] at hat
  obtain ⟨cell, q1, q2, q3, q4⟩ := hat
  obtain ⟨hSl, hfc, -⟩ := C.K.1 ci _ f1
  exact va_castE C.x C.b C.own (C.ts _ f3) ⟨cell, q1, by rw [q3]; rfl, by rw [q2]; exact hfc⟩ hd (k H locs ls hR hS hl)
theorem me_mmin (C : mm_C X cc y lvl mc ms) {a b : Int32} {n : Nat} (hd : decode cc pc = .ok (.invokestatic n, 3)) (hw : mm_ma y.cls n Lib.Math.min.name Lib.Math.min.code 2 .int) (hcat : Nat.ble (st.map mm_ct).sum 8 = true) (hlv : 1 ≤ lvl) (hq : pc + 3 = q) (k : mm_E X h cells slots q lv (vI (if b < a then b else a) :: st)) (hc : cells ≤ mc := by exact Nat.le_of_ble_eq_true rfl) (hs : slots ≤ ms := by exact Nat.le_of_ble_eq_true rfl) : mm_E X h cells slots pc lv (vI b :: vI a :: st) := by
  subst hq
  intro H locs ls hR hS hl
  have h9 : (List.map (fun v => v.category) (List.map mm_vv st)).sum ≤ 8 := by rw [mm_cats]; exact Nat.le_of_ble_eq_true hcat
  have h8 := C.rm
  exact va_mmin C.x C.b (by rw [C.ml]; exact hl.1.symm) C.own (C.ts _ hw.1) (C.ts _ hw.2.1) (C.ts _ hw.2.2.1) (C.ts _ hw.2.2.2) (Nat.le_trans hlv h8.1) (by omega) (Nat.le_trans hc h8.2.2.1) (Nat.le_trans hs h8.2.2.2) hd (k H locs ls hR hS hl)
theorem me_mmax (C : mm_C X cc y lvl mc ms) {a b : Int32} {n : Nat} (hd : decode cc pc = .ok (.invokestatic n, 3)) (hw : mm_ma y.cls n Lib.Math.max.name Lib.Math.max.code 2 .int) (hcat : Nat.ble (st.map mm_ct).sum 8 = true) (hlv : 1 ≤ lvl) (hq : pc + 3 = q) (k : mm_E X h cells slots q lv (vI (if a < b then b else a) :: st)) (hc : cells ≤ mc := by exact Nat.le_of_ble_eq_true rfl) (hs : slots ≤ ms := by exact Nat.le_of_ble_eq_true rfl) : mm_E X h cells slots pc lv (vI b :: vI a :: st) := by
  subst hq
  intro H locs ls hR hS hl
  have h9 : (List.map (fun v => v.category) (List.map mm_vv st)).sum ≤ 8 := by rw [mm_cats]; exact Nat.le_of_ble_eq_true hcat
  have h8 := C.rm
  exact va_mmax C.x C.b (by rw [C.ml]; exact hl.1.symm) C.own (C.ts _ hw.1) (C.ts _ hw.2.1) (C.ts _ hw.2.2.1) (C.ts _ hw.2.2.2) (Nat.le_trans hlv h8.1) (by omega) (Nat.le_trans hc h8.2.2.1) (Nat.le_trans hs h8.2.2.2) hd (k H locs ls hR hS hl)
theorem me_mabs (C : mm_C X cc y lvl mc ms) {a : Int32} {n : Nat} (hd : decode cc pc = .ok (.invokestatic n, 3)) (hw : mm_ma y.cls n Lib.Math.abs.name Lib.Math.abs.code 1 .int) (hcat : Nat.ble (st.map mm_ct).sum 8 = true) (hlv : 1 ≤ lvl) (hq : pc + 3 = q) (k : mm_E X h cells slots q lv (vI (if 0 ≤ a then a else 0 - a) :: st)) (hc : cells ≤ mc := by exact Nat.le_of_ble_eq_true rfl) (hs : slots ≤ ms := by exact Nat.le_of_ble_eq_true rfl) : mm_E X h cells slots pc lv (vI a :: st) := by
  subst hq
  intro H locs ls hR hS hl
  have h9 : (List.map (fun v => v.category) (List.map mm_vv st)).sum ≤ 8 := by rw [mm_cats]; exact Nat.le_of_ble_eq_true hcat
  have h8 := C.rm
  exact va_mabs C.x C.b (by rw [C.ml]; exact hl.1.symm) C.own (C.ts _ hw.1) (C.ts _ hw.2.1) (C.ts _ hw.2.2.1) (C.ts _ hw.2.2.2) (Nat.le_trans hlv h8.1) (by omega) (Nat.le_trans hc h8.2.2.1) (Nat.le_trans hs h8.2.2.2) hd (k H locs ls hR hS hl)
theorem me_mminJ (C : mm_C X cc y lvl mc ms) {a b : Int64} {n : Nat} (hd : decode cc pc = .ok (.invokestatic n, 3)) (hw : mm_ma y.cls n Lib.MathLoose.min_long.x Lib.MathLoose.min_long.code 4 .long) (hcat : Nat.ble (st.map mm_ct).sum 8 = true) (hlv : 1 ≤ lvl) (hq : pc + 3 = q) (k : mm_E X h cells slots q lv (vJ (if b < a then b else a) :: st)) (hc : cells ≤ mc := by exact Nat.le_of_ble_eq_true rfl) (hs : slots ≤ ms := by exact Nat.le_of_ble_eq_true rfl) : mm_E X h cells slots pc lv (vJ b :: vJ a :: st) := by
  subst hq
  intro H locs ls hR hS hl
  have h9 : (List.map (fun v => v.category) (List.map mm_vv st)).sum ≤ 8 := by rw [mm_cats]; exact Nat.le_of_ble_eq_true hcat
  have h8 := C.rm
  exact va_mmin_long C.x C.b (by rw [C.ml]; exact hl.1.symm) C.own (C.ts _ hw.1) (C.ts _ hw.2.1) (C.ts _ hw.2.2.1) (C.ts _ hw.2.2.2) (Nat.le_trans hlv h8.1) (by omega) (Nat.le_trans hc h8.2.2.1) (Nat.le_trans hs h8.2.2.2) hd (k H locs ls hR hS hl)
theorem me_mmaxJ (C : mm_C X cc y lvl mc ms) {a b : Int64} {n : Nat} (hd : decode cc pc = .ok (.invokestatic n, 3)) (hw : mm_ma y.cls n Lib.MathLoose.max_long.x Lib.MathLoose.max_long.code 4 .long) (hcat : Nat.ble (st.map mm_ct).sum 8 = true) (hlv : 1 ≤ lvl) (hq : pc + 3 = q) (k : mm_E X h cells slots q lv (vJ (if b < a then a else b) :: st)) (hc : cells ≤ mc := by exact Nat.le_of_ble_eq_true rfl) (hs : slots ≤ ms := by exact Nat.le_of_ble_eq_true rfl) : mm_E X h cells slots pc lv (vJ b :: vJ a :: st) := by
  subst hq
  intro H locs ls hR hS hl
  have h9 : (List.map (fun v => v.category) (List.map mm_vv st)).sum ≤ 8 := by rw [mm_cats]; exact Nat.le_of_ble_eq_true hcat
  have h8 := C.rm
  exact va_mmax_long C.x C.b (by rw [C.ml]; exact hl.1.symm) C.own (C.ts _ hw.1) (C.ts _ hw.2.1) (C.ts _ hw.2.2.1) (C.ts _ hw.2.2.2) (Nat.le_trans hlv h8.1) (by omega) (Nat.le_trans hc h8.2.2.1) (Nat.le_trans hs h8.2.2.2) hd (k H locs ls hR hS hl)
end MT
