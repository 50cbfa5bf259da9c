def mm_ca (own : String) (n ci : Nat) : Prop := ∃ (Cn : String) (T : u_T) (N : Nat), vwCl[ci]? = some (Cn, T, N) ∧ ci < 14 ∧ Cond.classLink own n Cn ∈ mm_tb ∧ Cond.castable Cn Cn ∈ mm_tb
section MT
variable {X : mm_X} {cc : ByteArray} {y : MethodName} {lvl mc ms : Nat} {h h2 : mm_H} {cells slots pc q : Nat} {lv : List (Option mm_W)} {st : List mm_W}
theorem me_cast (C : mm_C X cc y lvl mc ms) {n ci : Nat} {o : Option Nat} {a : Nat} (hd : decode cc pc = .ok (.checkcast n, 3)) (hc : mm_ca y.cls n ci) (ho : o = some a) (hk : mm_kd h a = ci) (hq : pc + 3 = q) (k : mm_E X h cells slots q lv (vR o :: st)) : mm_E X h cells slots pc lv (vR o :: st) := by
  subst hq
  subst ho
  intro H locs ls hR hS hl
  obtain ⟨Cn, T, N, f1, f2, f3, f4⟩ := hc
  have hat := ((hR.2.2.2 a (by omega)).1.1 (by omega))
  rw [hk] at hat
  obtain ⟨cell, q1, q2, q3, q4⟩ := hat
  obtain ⟨hSl, hfc, -⟩ := C.K.1 ci _ f1
  exact va_castY C.x C.b C.own (C.ts _ f3) (va_tabs rfl rfl (C.ts _ f4)) ⟨cell, q1, by rw [q3]; rfl, by rw [q2]; exact hfc⟩ hd (k H locs ls hR hS hl)
end MT
