section MZ
variable {X : mm_X} {cc : ByteArray} {y : MethodName} {lvl mc ms : Nat} {h : mm_H} {cells slots pc q : Nat} {lv : List (Option mm_W)} {st : List mm_W}
theorem mm_C.arr (C : mm_C X cc y lvl mc ms) (t : Nat) {ci : Nat} {ty : FieldType} (ht : (mm_tys (mx_cy X))[t]? = some ((mx_cy X) ci, ty)) (n : Nat) (z : Nat → Value) : (mx_s X).isArrayOf (arrV ((mx_cy X) ci) n z) ty := (C.K.2 t _ ht).1 n z

theorem me_iald (C : mm_C X cc y lvl mc ms) {o : Option Nat} {a : Nat} {i : Int32} (hd : decode cc pc = .ok (.iaload, 1)) (ho : o = some a) (hk : mm_kd h a = 14) (hi : mm_ix i (mm_n h a)) (hq : pc + 1 = q) (k : mm_E X h cells slots q lv (vI (mm_i h a i.toNatClampNeg) :: st)) : mm_E X h cells slots pc lv (vI i :: vR o :: st) := by
  subst hq
  subst ho
  intro H locs ls hR hS hl
  refine W.iald C.x C.b (hR.arr hk (by decide) (by decide)) (C.arr 0 rfl _ _) (fun q => by cases q) (by rw [arrV_size]; exact hi) (by rw [arrV_read _ _ hi.lt]; unfold mm_V; rw [hk]; rfl) rfl rfl hd (k H locs ls hR hS hl)
theorem me_lald (C : mm_C X cc y lvl mc ms) {o : Option Nat} {a : Nat} {i : Int32} (hd : decode cc pc = .ok (.laload, 1)) (ho : o = some a) (hk : mm_kd h a = 15) (hi : mm_ix i (mm_n h a)) (hq : pc + 1 = q) (k : mm_E X h cells slots q lv (vJ (mm_j h a i.toNatClampNeg) :: st)) : mm_E X h cells slots pc lv (vI i :: vR o :: st) := by
  subst hq
  subst ho
  intro H locs ls hR hS hl
  refine W.lald C.x C.b (hR.arr hk (by decide) (by decide)) (C.arr 1 rfl _ _) (fun q => by cases q) (by rw [arrV_size]; exact hi) (by rw [arrV_read _ _ hi.lt]; unfold mm_V; rw [hk]; rfl) rfl rfl hd (k H locs ls hR hS hl)
theorem me_bald (C : mm_C X cc y lvl mc ms) {o : Option Nat} {a : Nat} {i : Int32} (hd : decode cc pc = .ok (.baload, 1)) (ho : o = some a) (hk : mm_kd h a = 16) (hi : mm_ix i (mm_n h a)) (hq : pc + 1 = q) (k : mm_E X h cells slots q lv (vI (mm_i h a i.toNatClampNeg) :: st)) : mm_E X h cells slots pc lv (vI i :: vR o :: st) := by
  subst hq
  subst ho
  intro H locs ls hR hS hl
  refine W.bald C.x C.b (hR.arr hk (by decide) (by decide)) (C.arr 2 rfl _ _) (fun q => by cases q) (by rw [arrV_size]; exact hi) (by rw [arrV_read _ _ hi.lt]; unfold mm_V; rw [hk]; rfl) rfl rfl hd (k H locs ls hR hS hl)
theorem me_zald (C : mm_C X cc y lvl mc ms) {o : Option Nat} {a : Nat} {i : Int32} (hd : decode cc pc = .ok (.baload, 1)) (ho : o = some a) (hk : mm_kd h a = 17) (hi : mm_ix i (mm_n h a)) (hq : pc + 1 = q) (k : mm_E X h cells slots q lv (vI (mm_i h a i.toNatClampNeg) :: st)) : mm_E X h cells slots pc lv (vI i :: vR o :: st) := by
  subst hq
  subst ho
  intro H locs ls hR hS hl
  refine W.zald C.x C.b (hR.arr hk (by decide) (by decide)) (C.arr 3 rfl _ _) (fun q => by cases q) (by rw [arrV_size]; exact hi) (by rw [arrV_read _ _ hi.lt]; unfold mm_V; rw [hk]; rfl) rfl rfl hd (k H locs ls hR hS hl)
theorem me_aald (C : mm_C X cc y lvl mc ms) {o : Option Nat} {a : Nat} {i : Int32} (hd : decode cc pc = .ok (.aaload, 1)) (ho : o = some a) (hk : mm_kd h a = 18) (hi : mm_ix i (mm_n h a)) (hq : pc + 1 = q) (k : mm_E X h cells slots q lv (vR (mm_r h a i.toNatClampNeg) :: st)) : mm_E X h cells slots pc lv (vI i :: vR o :: st) := by
  subst hq
  subst ho
  intro H locs ls hR hS hl
  refine W.aald C.x C.b (hR.arr18 hk (Nat.lt_of_le_of_lt (Nat.zero_le _) hi.lt)).1 (C.arr 4 rfl _ _) rfl (fun q => by cases q) (by rw [arrV_size]; exact hi) (by rw [arrV_read _ _ hi.lt]; unfold mm_V; rw [hk]; rfl) rfl rfl hd (k H locs ls hR hS hl)
theorem me_aaldI (C : mm_C X cc y lvl mc ms) {o : Option Nat} {a : Nat} {i : Int32} (hd : decode cc pc = .ok (.aaload, 1)) (ho : o = some a) (hk : mm_kd h a = 19) (hi : mm_ix i (mm_n h a)) (hq : pc + 1 = q) (k : mm_E X h cells slots q lv (vR (mm_r h a i.toNatClampNeg) :: st)) : mm_E X h cells slots pc lv (vI i :: vR o :: st) := by
  subst hq
  subst ho
  intro H locs ls hR hS hl
  refine W.aald C.x C.b (hR.arr19 hk) (C.arr 5 rfl _ _) rfl (fun q => by cases q) (by rw [arrV_size]; exact hi) (by rw [arrV_read _ _ hi.lt]; unfold mm_V; rw [hk]; rfl) rfl rfl hd (k H locs ls hR hS hl)
theorem me_iast (C : mm_C X cc y lvl mc ms) {o : Option Nat} {a : Nat} {i : Int32} {x : Int32} (hd : decode cc pc = .ok (.iastore, 1)) (ho : o = some a) (hk : mm_kd h a = 14) (hi : mm_ix i (mm_n h a)) (hq : pc + 1 = q) (k : mm_E X (mm_setI h a i.toNatClampNeg (x)) cells slots q lv st) : mm_E X h cells slots pc lv (vI x :: vI i :: vR o :: st) := by
  subst hq
  subst ho
  intro H locs ls hR hS hl
  have hlo := hR.lo hk (by decide)
  refine W.iast C.x C.b (hR.arr hk (by decide) (by decide)) (C.arr 0 rfl _ _) (fun q => by cases q) (by rw [arrV_size]; exact hi) rfl rfl hd fun H1 e z oq => ?_
  exact k H1 _ ls (hR.ast hk (by decide) hlo rfl rfl rfl rfl (mm_V_setI (by rw [hk]; rfl)) e z oq) (hS.put z oq hlo) hl
theorem me_last (C : mm_C X cc y lvl mc ms) {o : Option Nat} {a : Nat} {i : Int32} {x : Int64} (hd : decode cc pc = .ok (.lastore, 1)) (ho : o = some a) (hk : mm_kd h a = 15) (hi : mm_ix i (mm_n h a)) (hq : pc + 1 = q) (k : mm_E X (mm_setJ h a i.toNatClampNeg (x)) cells slots q lv st) : mm_E X h cells slots pc lv (vJ x :: vI i :: vR o :: st) := by
  subst hq
  subst ho
  intro H locs ls hR hS hl
  have hlo := hR.lo hk (by decide)
  refine W.last C.x C.b (hR.arr hk (by decide) (by decide)) (C.arr 1 rfl _ _) (fun q => by cases q) (by rw [arrV_size]; exact hi) rfl rfl hd fun H1 e z oq => ?_
  exact k H1 _ ls (hR.ast hk (by decide) hlo rfl rfl rfl rfl (mm_V_setJ (by rw [hk]; rfl)) e z oq) (hS.put z oq hlo) hl
theorem me_bast (C : mm_C X cc y lvl mc ms) {o : Option Nat} {a : Nat} {i : Int32} {x : Int32} (hd : decode cc pc = .ok (.bastore, 1)) (ho : o = some a) (hk : mm_kd h a = 16) (hi : mm_ix i (mm_n h a)) (hq : pc + 1 = q) (k : mm_E X (mm_setI h a i.toNatClampNeg (x.toInt8.toInt32)) cells slots q lv st) : mm_E X h cells slots pc lv (vI x :: vI i :: vR o :: st) := by
  subst hq
  subst ho
  intro H locs ls hR hS hl
  have hlo := hR.lo hk (by decide)
  refine W.bast C.x C.b (hR.arr hk (by decide) (by decide)) (C.arr 2 rfl _ _) (fun q => by cases q) (by rw [arrV_size]; exact hi) rfl rfl hd fun H1 e z oq => ?_
  exact k H1 _ ls (hR.ast hk (by decide) hlo rfl rfl rfl rfl (mm_V_setI (by rw [hk]; rfl)) e z oq) (hS.put z oq hlo) hl
theorem me_zast (C : mm_C X cc y lvl mc ms) {o : Option Nat} {a : Nat} {i : Int32} {x : Int32} (hd : decode cc pc = .ok (.bastore, 1)) (ho : o = some a) (hk : mm_kd h a = 17) (hi : mm_ix i (mm_n h a)) (hq : pc + 1 = q) (k : mm_E X (mm_setI h a i.toNatClampNeg (x &&& 1)) cells slots q lv st) : mm_E X h cells slots pc lv (vI x :: vI i :: vR o :: st) := by
  subst hq
  subst ho
  intro H locs ls hR hS hl
  have hlo := hR.lo hk (by decide)
  refine W.zast C.x C.b (hR.arr hk (by decide) (by decide)) (C.arr 3 rfl _ _) (fun q => by cases q) (by rw [arrV_size]; exact hi) rfl rfl hd fun H1 e z oq => ?_
  exact k H1 _ ls (hR.ast hk (by decide) hlo rfl rfl rfl rfl (mm_V_setI (by rw [hk]; rfl)) e z oq) (hS.put z oq hlo) hl
theorem me_alen (C : mm_C X cc y lvl mc ms) {o : Option Nat} {a : Nat} (t : Nat) {ci : Nat} {ty : FieldType} (ht : (mm_tys (mx_cy X))[t]? = some ((mx_cy X) ci, ty)) (hc : 14 ≤ ci ∧ ci < 20) (hd : decode cc pc = .ok (.arraylength, 1)) (ho : o = some a) (hk : mm_kd h a = ci) (hq : pc + 1 = q) (k : mm_E X h cells slots q lv (vI (nI (mm_n h a)) :: st)) : mm_E X h cells slots pc lv (vR o :: st) := by
  subst hq
  subst ho
  intro H locs ls hR hS hl
  by_cases h18 : ci = 18
  · subst h18
    rcases hR.2.2.2.1 a (by omega) with ⟨q1, q2⟩ | ⟨q1, q2, q3, cell, c1, c2, c3, c4, c5⟩
    · have e := q1.2 (by omega)
      rw [hk] at e
      exact W.alen C.x C.b e (C.arr t ht _ _) (by rw [arrV_size]; rfl) rfl rfl hd (k H locs ls hR hS hl)
    · have hA := C.arr t ht 0 (fun _ => .null)
      have hA2 : (mx_s X).isArrayOf cell ty := ⟨fun x z => (by rw [z] at c4; cases c4), (by rw [c2]; exact hA.2)⟩
      exact W.alen C.x C.b c1 hA2 (by rw [c5, q2]; rfl) rfl rfl hd (k H locs ls hR hS hl)
  · by_cases h19 : ci = 19
    · subst h19
      exact W.alen C.x C.b (hR.arr19 hk) (C.arr t ht _ _) (by rw [arrV_size]; rfl) rfl rfl hd (k H locs ls hR hS hl)
    · exact W.alen C.x C.b (hR.arr hk hc.1 (by omega)) (C.arr t ht _ _) (by rw [arrV_size]; rfl) rfl rfl hd (k H locs ls hR hS hl)
theorem me_new (C : mm_C X cc y lvl mc ms) {n ci N c2 s2 : Nat} (hd : decode cc pc = .ok (.new n, 3)) (hf : mm_fn y.cls n ci N) (hc : cells + 1 = c2) (hc2 : c2 ≤ mc) (hs : slots + N = s2) (hs2 : s2 ≤ ms) (hq : pc + 3 = q) (k : mm_E X (mm_new h ci 0) c2 s2 q lv (vR (some (mm_sz h)) :: st)) : mm_E X h cells slots pc lv st := by
  subst hq
  subst hc
  subst hs
  intro H locs ls hR hS hl
  obtain ⟨Cn, T, ty0, f1, f2, f3, f4, f5, f6, f7, f8, f9⟩ := hf
  obtain ⟨hSl, hfc, kC0, hkC0, hkind⟩ := C.K.1 ci _ f1
  refine W.newcK C.x C.b C.own (C.ts _ f7) (C.ts _ f8) (C.ts _ f9) rfl hd (Nat.le_trans hc2 C.rm.2.2.1) (Nat.le_trans hs2 C.rm.2.2.2) hfc hR.1 fun H1 kC hkC e1 z1 o1 => ?_
  have hz : H1.size = H.size + 1 := by rw [z1, hR.1]
  have ho : ∀ q : Nat, q < H.size → H1[q]? = H[q]? := fun q hq => o1 q (by rw [← hR.1]; exact hq)
  refine k H1 locs ls (hR.new (by omega) ⟨fun _ => ?_, fun z => ?_⟩ hz ho) ⟨Nat.le_trans hS.1 (by omega), fun x h1 h2 => (ho x (Nat.lt_of_lt_of_le h1 hS.1)).trans (hS.2.1 x h1 h2), hS.2.2⟩ hl
  · rw [mm_kd_new, ← f3]
    exact (u_born ty0 C.ts f2 (C.K.1 ci _ f1) hkC e1 f5).to (fun j hj => by rw [f6 j hj, mm_V_new])
  · rw [mm_kd_new] at z
    omega
theorem me_newa (C : mm_C X cc y lvl mc ms) {atype : ArrayType} (t : Nat) {ci : Nat} {ty : FieldType} {n : Int32} {B c2 s2 : Nat} (hd : decode cc pc = .ok (.newarray atype, 2)) (ha : Cond.arrayClass (newarray.typeOf atype) ∈ mm_tb) (hty : newarray.typeOf atype = ty) (ht : (mm_tys (mx_cy X))[t]? = some ((mx_cy X) ci, ty)) (hci : 14 ≤ ci ∧ ci < 20) (hdv : defaultValue ty = mm_dv (mm_ty ci 0)) (hra : ∀ U cA, va_RA U cA ty = (U.vm.findClass ("[" ++ ty.toString) = some cA)) (hn : ¬ (n < 0)) (hB : n.toNatClampNeg ≤ B) (hB2 : B * componentBytes ty ≤ 536870912)
    (hc : cells + 1 = c2) (hc2 : c2 ≤ mc) (hs : slots + B = s2) (hs2 : s2 ≤ ms) (hq : pc + 2 = q) (k : mm_E X (mm_new h ci n.toNatClampNeg) c2 s2 q lv (vR (some (mm_sz h)) :: st)) : mm_E X h cells slots pc lv (vI n :: st) := by
  subst hq
  subst hc
  subst hs
  subst hty
  intro H locs ls hR hS hl
  refine va_newaK C.x C.b (C.ts _ ha) rfl hd rfl hn rfl (Nat.le_trans (Nat.mul_le_mul_right _ hB) hB2) (Nat.le_trans hc2 C.rm.2.2.1) (Nat.le_trans (Nat.add_le_add_left hB _) (Nat.le_trans hs2 C.rm.2.2.2)) hR.1 fun H1 cA e1 z1 o1 hAr hNm => ?_
  have h9 := (C.K.2 t _ ht).2
  rw [hra] at h9
  have ec : cA = (mx_cy X) ci := Option.some.inj (hNm.symm.trans h9)
  subst ec
  have hz : H1.size = H.size + 1 := by rw [z1, hR.1]
  have ho : ∀ q : Nat, q < H.size → H1[q]? = H[q]? := fun q hq => o1 q (by rw [← hR.1]; exact hq)
  refine W.widen (Nat.le_refl _) (Nat.add_le_add_left hB _) (k H1 locs ls (hR.new hci.2 ⟨fun z => ?_, fun _ => ?_⟩ hz ho) ⟨Nat.le_trans hS.1 (by omega), fun x h1 h2 => (ho x (Nat.lt_of_lt_of_le h1 hS.1)).trans (hS.2.1 x h1 h2), hS.2.2⟩ hl)
  · rw [mm_kd_new] at z
    omega
  · rw [mm_kd_new, mm_n_new, e1]
    congr 2
    funext j
    rw [mm_V_new, hdv]
    have e2 : ∀ j, mm_ty ci j = mm_ty ci 0 := fun j => by
      have e3 : ¬ ci < 14 := Nat.not_lt.mpr hci.1
      simp [mm_ty, e3]
    rw [e2 j]

theorem me_iret (C : mm_C X cc y lvl mc ms) {v : Int32}  {m2 s2 : Nat} {h1 : mm_H} {ret : Option FieldType} {ro : Option mm_W} (hE : mm_End X m2 s2 ret ro h1) (hc : cells ≤ m2) (hs : slots ≤ s2) (hr : ret = some .int) (hd : decode cc pc = .ok (.ireturn, 1)) (he : ro = some (vI v) ∧ h1 = h) : mm_E X h cells slots pc lv [vI v] := by
  intro H locs ls hR hS hl
  obtain ⟨rfl, rfl⟩ := he
  obtain ⟨e1, e2⟩ := hE
  refine W.widen hc hs ?_
  rw [e1]
  exact W.iret C.x C.b (e2.trans hr) (fun t ht _ => ⟨rfl, by rw [ht]; exact hR, hS.F ht⟩) hS.2.2 hd C.lk
theorem me_zret (C : mm_C X cc y lvl mc ms) {v : Int32} {m2 s2 : Nat} {h1 : mm_H} {ret : Option FieldType} {ro : Option mm_W} (hE : mm_End X m2 s2 ret ro h1) (hc : cells ≤ m2) (hs : slots ≤ s2) (hr : ret = some .boolean) (hv : v = 0 ∨ v = 1) (hd : decode cc pc = .ok (.ireturn, 1)) (he : ro = some (vI v) ∧ h1 = h) : mm_E X h cells slots pc lv [vI v] := by
  intro H locs ls hR hS hl
  obtain ⟨rfl, rfl⟩ := he
  obtain ⟨e1, e2⟩ := hE
  refine W.widen hc hs ?_
  rw [e1]
  exact W.zret (ty := .boolean) C.x C.b (e2.trans hr) (by show Value.int (v &&& 1) = _; rcases hv with e | e <;> (rw [e]; rfl)) (fun t ht _ => ⟨rfl, by rw [ht]; exact hR, hS.F ht⟩) hS.2.2 hd C.lk
theorem me_lret (C : mm_C X cc y lvl mc ms) {v : Int64} {m2 s2 : Nat} {h1 : mm_H} {ret : Option FieldType} {ro : Option mm_W} (hE : mm_End X m2 s2 ret ro h1) (hc : cells ≤ m2) (hs : slots ≤ s2) (hr : ret = some .long) (hd : decode cc pc = .ok (.lreturn, 1)) (he : ro = some (vJ v) ∧ h1 = h) : mm_E X h cells slots pc lv [vJ v] := by
  intro H locs ls hR hS hl
  obtain ⟨rfl, rfl⟩ := he
  obtain ⟨e1, e2⟩ := hE
  refine W.widen hc hs ?_
  rw [e1]
  exact W.lret C.x C.b (e2.trans hr) (fun t ht _ => ⟨rfl, by rw [ht]; exact hR, hS.F ht⟩) hS.2.2 hd C.lk
theorem me_vret (C : mm_C X cc y lvl mc ms)  {m2 s2 : Nat} {h1 : mm_H} {ret : Option FieldType} {ro : Option mm_W} (hE : mm_End X m2 s2 ret ro h1) (hc : cells ≤ m2) (hs : slots ≤ s2) (hr : ret = none) (hd : decode cc pc = .ok (.return_, 1)) (he : ro = none ∧ h1 = h) : mm_E X h cells slots pc lv [] := by
  intro H locs ls hR hS hl
  obtain ⟨rfl, rfl⟩ := he
  obtain ⟨e1, e2⟩ := hE
  refine W.widen hc hs ?_
  rw [e1]
  exact W.vret C.x C.b (e2.trans hr) (fun t ht _ => ⟨rfl, by rw [ht]; exact hR, hS.F ht⟩) hS.2.2 hd C.lk
theorem me_aret (C : mm_C X cc y lvl mc ms) {v : Option Nat} {rt : FieldType} {m2 s2 : Nat} {h1 : mm_H} {ret : Option FieldType} {ro : Option mm_W} (hE : mm_End X m2 s2 ret ro h1) (hc : cells ≤ m2) (hs : slots ≤ s2) (hr : ret = some rt) (hrt : (∃ n, rt = .object n) ∨ ∃ t, rt = .array t) (hd : decode cc pc = .ok (.areturn, 1)) (he : ro = some (vR v) ∧ h1 = h) : mm_E X h cells slots pc lv [vR v] := by
  intro H locs ls hR hS hl
  obtain ⟨rfl, rfl⟩ := he
  obtain ⟨e1, e2⟩ := hE
  refine W.widen hc hs ?_
  rw [e1]
  exact W.aret C.x C.b (e2.trans hr) hrt (by cases v with | none => exact Or.inl rfl | some a => exact Or.inr ⟨a, rfl⟩) (fun t ht _ => ⟨rfl, by rw [ht]; exact hR, hS.F ht⟩) hS.2.2 hd C.lk
end MZ
