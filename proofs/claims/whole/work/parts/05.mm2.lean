section MR
variable {X : mm_X} {cc : ByteArray} {y : MethodName} {lvl mc ms : Nat} {h : mm_H} {cells slots pc q : Nat} {lv : List (Option mm_W)} {st : List mm_W}
theorem me_iconst (C : mm_C X cc y lvl mc ms) {n : Int} {v : Int32} (hd : decode cc pc = .ok (.iconst n, 1)) (hv : Int32.ofInt n = v) (hq : pc + 1 = q) (k : mm_E X h cells slots q lv (vI v :: st)) : mm_E X h cells slots pc lv (st) := by
  subst hq
  exact fun H locs ls hR hS hl => lv_iconst C.x C.b hd hv (k H locs ls hR hS hl)
theorem me_bipush (C : mm_C X cc y lvl mc ms) {n : Int} {v : Int32} (hd : decode cc pc = .ok (.bipush n, 2)) (hv : (Int8.ofInt n).toInt32 = v) (hq : pc + 2 = q) (k : mm_E X h cells slots q lv (vI v :: st)) : mm_E X h cells slots pc lv (st) := by
  subst hq
  exact fun H locs ls hR hS hl => lv_bipush C.x C.b hd hv (k H locs ls hR hS hl)
theorem me_sipush (C : mm_C X cc y lvl mc ms) {n : Int} {v : Int32} (hd : decode cc pc = .ok (.sipush n, 3)) (hv : (Int16.ofInt n).toInt32 = v) (hq : pc + 3 = q) (k : mm_E X h cells slots q lv (vI v :: st)) : mm_E X h cells slots pc lv (st) := by
  subst hq
  exact fun H locs ls hR hS hl => lv_sipush C.x C.b hd hv (k H locs ls hR hS hl)
theorem me_lconst (C : mm_C X cc y lvl mc ms) {n : Fin 2} {v : Int64} (hd : decode cc pc = .ok (.lconst n, 1)) (hv : Int64.ofNat (n : Nat) = v) (hq : pc + 1 = q) (k : mm_E X h cells slots q lv (vJ v :: st)) : mm_E X h cells slots pc lv (st) := by
  subst hq
  exact fun H locs ls hR hS hl => lv_lconst C.x C.b hd hv (k H locs ls hR hS hl)
theorem me_ldc (C : mm_C X cc y lvl mc ms) {n : Nat} {v : Int32} (hd : decode cc pc = .ok (.ldc n, 2)) (hw : Cond.constant y.cls n v ∈ mm_tb) (hq : pc + 2 = q) (k : mm_E X h cells slots q lv (vI v :: st)) : mm_E X h cells slots pc lv (st) := by
  subst hq
  exact fun H locs ls hR hS hl => lv_ldc C.x C.b C.own (C.ts _ hw) hd (k H locs ls hR hS hl)
theorem me_ldc_w (C : mm_C X cc y lvl mc ms) {n : Nat} {v : Int32} (hd : decode cc pc = .ok (.ldc_w n, 3)) (hw : Cond.constant y.cls n v ∈ mm_tb) (hq : pc + 3 = q) (k : mm_E X h cells slots q lv (vI v :: st)) : mm_E X h cells slots pc lv (st) := by
  subst hq
  exact fun H locs ls hR hS hl => lv_ldcw C.x C.b C.own (C.ts _ hw) hd (k H locs ls hR hS hl)
theorem me_ldc2_w (C : mm_C X cc y lvl mc ms) {n : Nat} {v : Int64} (hd : decode cc pc = .ok (.ldc2_w n, 3)) (hw : Cond.constantLong y.cls n v ∈ mm_tb) (hq : pc + 3 = q) (k : mm_E X h cells slots q lv (vJ v :: st)) : mm_E X h cells slots pc lv (st) := by
  subst hq
  exact fun H locs ls hR hS hl => lv_ldc2 C.x C.b C.own (C.ts _ hw) hd (k H locs ls hR hS hl)
theorem me_null (C : mm_C X cc y lvl mc ms) (hd : decode cc pc = .ok (.aconst_null, 1)) (hq : pc + 1 = q) (k : mm_E X h cells slots q lv (vR none :: st)) : mm_E X h cells slots pc lv (st) := by
  subst hq
  exact fun H locs ls hR hS hl => lv_null C.x C.b hd (k H locs ls hR hS hl)
theorem me_iload_n (C : mm_C X cc y lvl mc ms) {k0 : Fin 4} {i : Nat} {x : Int32} (hd : decode cc pc = .ok (.iload_n k0, 1)) (hi : (k0 : Nat) = i) (hl0 : lv[i]? = some (some (vI x))) (hq : pc + 1 = q) (k : mm_E X h cells slots q lv (vI x :: st)) : mm_E X h cells slots pc lv (st) := by
  subst hq
  exact fun H locs ls hR hS hl => lv_iload_n C.x C.b hd hi (hl.2.2.2 i _ hl0) (k H locs ls hR hS hl)
theorem me_iload (C : mm_C X cc y lvl mc ms) {i : Nat} {x : Int32} (hd : decode cc pc = .ok (.iload i, 2)) (hl0 : lv[i]? = some (some (vI x))) (hq : pc + 2 = q) (k : mm_E X h cells slots q lv (vI x :: st)) : mm_E X h cells slots pc lv (st) := by
  subst hq
  exact fun H locs ls hR hS hl => lv_iload C.x C.b hd (hl.2.2.2 i _ hl0) (k H locs ls hR hS hl)
theorem me_lload_n (C : mm_C X cc y lvl mc ms) {k0 : Fin 4} {i : Nat} {x : Int64} (hd : decode cc pc = .ok (.lload_n k0, 1)) (hi : (k0 : Nat) = i) (hl0 : lv[i]? = some (some (vJ x))) (hq : pc + 1 = q) (k : mm_E X h cells slots q lv (vJ x :: st)) : mm_E X h cells slots pc lv (st) := by
  subst hq
  exact fun H locs ls hR hS hl => lv_lload_n C.x C.b hd hi (hl.2.2.2 i _ hl0) (k H locs ls hR hS hl)
theorem me_lload (C : mm_C X cc y lvl mc ms) {i : Nat} {x : Int64} (hd : decode cc pc = .ok (.lload i, 2)) (hl0 : lv[i]? = some (some (vJ x))) (hq : pc + 2 = q) (k : mm_E X h cells slots q lv (vJ x :: st)) : mm_E X h cells slots pc lv (st) := by
  subst hq
  exact fun H locs ls hR hS hl => lv_lload C.x C.b hd (hl.2.2.2 i _ hl0) (k H locs ls hR hS hl)
theorem me_aload_n (C : mm_C X cc y lvl mc ms) {k0 : Fin 4} {i : Nat} {x : Option Nat} (hd : decode cc pc = .ok (.aload_n k0, 1)) (hi : (k0 : Nat) = i) (hl0 : lv[i]? = some (some (vR x))) (hq : pc + 1 = q) (k : mm_E X h cells slots q lv (vR x :: st)) : mm_E X h cells slots pc lv st := by
  subst hq
  intro H locs ls hR hS hl
  have h1 := hl.2.2.2 i _ hl0
  have h2 := k H locs ls hR hS hl
  cases x with
  | none => exact lv_aload_nN C.x C.b hd hi h1 h2
  | some a => exact lv_aload_n C.x C.b hd hi h1 h2
theorem me_astore_n (C : mm_C X cc y lvl mc ms) {k0 : Fin 4} {i : Nat} {x : Option Nat} (hd : decode cc pc = .ok (.astore_n k0, 1)) (hi : (k0 : Nat) = i) {lv2 : List (Option mm_W)} (hn : i < lv.length) (ho : mm_nol lv i = true) (hl2 : lv.set i (some (vR x)) = lv2) (hq : pc + 1 = q) (k : mm_E X h cells slots q lv2 st) : mm_E X h cells slots pc lv (vR x :: st) := by
  subst hq
  subst hl2
  intro H locs ls hR hS hl
  have h2 := fun ls' h' => k H locs ls' hR hS (mm_ll.st1 hl.2.2.1 ho h')
  cases x with
  | none => exact lv_astore_nN C.x C.b hd hi hl.has (Nat.lt_of_lt_of_le hn hl.2.2.1) rfl h2
  | some a => exact lv_astore_n C.x C.b hd hi hl.has (Nat.lt_of_lt_of_le hn hl.2.2.1) rfl h2
theorem me_istore_n (C : mm_C X cc y lvl mc ms) {k0 : Fin 4} {i : Nat} {x : Int32} (hd : decode cc pc = .ok (.istore_n k0, 1)) (hi : (k0 : Nat) = i) {lv2 : List (Option mm_W)} (hn : i < lv.length) (ho : mm_nol lv i = true) (hl2 : lv.set i (some (vI x)) = lv2) (hq : pc + 1 = q) (k : mm_E X h cells slots q lv2 st) : mm_E X h cells slots pc lv (vI x :: st) := by
  subst hq
  subst hl2
  intro H locs ls hR hS hl
  exact lv_istore_n C.x C.b hd hi hl.has (Nat.lt_of_lt_of_le hn hl.2.2.1) rfl (fun ls' h' => k H locs ls' hR hS (mm_ll.st1 (v := vI x) hl.2.2.1 ho h'))
theorem me_lstore_n (C : mm_C X cc y lvl mc ms) {k0 : Fin 4} {i : Nat} {x : Int64} (hd : decode cc pc = .ok (.lstore_n k0, 1)) (hi : (k0 : Nat) = i) {lv2 : List (Option mm_W)} (hn : i + 1 < lv.length) (ho : mm_nol lv i = true) (hl2 : (lv.set (i + 1) none).set i (some (vJ x)) = lv2) (hq : pc + 1 = q) (k : mm_E X h cells slots q lv2 st) : mm_E X h cells slots pc lv (vJ x :: st) := by
  subst hq
  subst hl2
  intro H locs ls hR hS hl
  exact lv_lstore_n C.x C.b hd hi hl.has (Nat.lt_of_lt_of_le hn hl.2.2.1) rfl (fun ls' h' => k H locs ls' hR hS (mm_ll.st2 (v := vJ x) hl.2.2.1 ho h'))
theorem me_aload (C : mm_C X cc y lvl mc ms) {i : Nat} {x : Option Nat} (hd : decode cc pc = .ok (.aload i, 2)) (hl0 : lv[i]? = some (some (vR x))) (hq : pc + 2 = q) (k : mm_E X h cells slots q lv (vR x :: st)) : mm_E X h cells slots pc lv st := by
  subst hq
  intro H locs ls hR hS hl
  have h1 := hl.2.2.2 i _ hl0
  have h2 := k H locs ls hR hS hl
  cases x with
  | none => exact lv_aloadN C.x C.b hd h1 h2
  | some a => exact lv_aload C.x C.b hd h1 h2
theorem me_astore (C : mm_C X cc y lvl mc ms) {i : Nat} {x : Option Nat} (hd : decode cc pc = .ok (.astore i, 2)) {lv2 : List (Option mm_W)} (hn : i < lv.length) (ho : mm_nol lv i = true) (hl2 : lv.set i (some (vR x)) = lv2) (hq : pc + 2 = q) (k : mm_E X h cells slots q lv2 st) : mm_E X h cells slots pc lv (vR x :: st) := by
  subst hq
  subst hl2
  intro H locs ls hR hS hl
  have h2 := fun ls' h' => k H locs ls' hR hS (mm_ll.st1 hl.2.2.1 ho h')
  cases x with
  | none => exact lv_astoreN C.x C.b hd hl.has (Nat.lt_of_lt_of_le hn hl.2.2.1) rfl h2
  | some a => exact lv_astore C.x C.b hd hl.has (Nat.lt_of_lt_of_le hn hl.2.2.1) rfl h2
theorem me_istore (C : mm_C X cc y lvl mc ms) {i : Nat} {x : Int32} (hd : decode cc pc = .ok (.istore i, 2)) {lv2 : List (Option mm_W)} (hn : i < lv.length) (ho : mm_nol lv i = true) (hl2 : lv.set i (some (vI x)) = lv2) (hq : pc + 2 = q) (k : mm_E X h cells slots q lv2 st) : mm_E X h cells slots pc lv (vI x :: st) := by
  subst hq
  subst hl2
  intro H locs ls hR hS hl
  exact lv_istore C.x C.b hd hl.has (Nat.lt_of_lt_of_le hn hl.2.2.1) rfl (fun ls' h' => k H locs ls' hR hS (mm_ll.st1 (v := vI x) hl.2.2.1 ho h'))
theorem me_lstore (C : mm_C X cc y lvl mc ms) {i : Nat} {x : Int64} (hd : decode cc pc = .ok (.lstore i, 2)) {lv2 : List (Option mm_W)} (hn : i + 1 < lv.length) (ho : mm_nol lv i = true) (hl2 : (lv.set (i + 1) none).set i (some (vJ x)) = lv2) (hq : pc + 2 = q) (k : mm_E X h cells slots q lv2 st) : mm_E X h cells slots pc lv (vJ x :: st) := by
  subst hq
  subst hl2
  intro H locs ls hR hS hl
  exact lv_lstore C.x C.b hd hl.has (Nat.lt_of_lt_of_le hn hl.2.2.1) rfl (fun ls' h' => k H locs ls' hR hS (mm_ll.st2 (v := vJ x) hl.2.2.1 ho h'))
theorem me_iinc (C : mm_C X cc y lvl mc ms) {i : Nat} {n : Int} {x v : Int32} {lv2 : List (Option mm_W)} (hd : decode cc pc = .ok (.iinc i n, 3)) (hl0 : lv[i]? = some (some (vI x))) (hv : x + Int32.ofInt n = v) (hn : i < lv.length) (ho : mm_nol lv i = true) (hl2 : lv.set i (some (vI v)) = lv2) (hq : pc + 3 = q) (k : mm_E X h cells slots q lv2 st) : mm_E X h cells slots pc lv st := by
  subst hq
  subst hl2
  intro H locs ls hR hS hl
  have h1 := mm_ents_in lv 0 i _ hl0
  rw [Nat.zero_add] at h1
  obtain ⟨k1, h1⟩ := List.getElem?_of_mem h1
  exact lv_iinc C.x C.b hd hl.has (k := k1) h1 hv (Nat.lt_of_lt_of_le hn hl.2.2.1) rfl (fun ls' h' => k H locs ls' hR hS (mm_ll.st1 (v := vI v) hl.2.2.1 ho h'))
theorem me_iadd (C : mm_C X cc y lvl mc ms) {a b : Int32} (hd : decode cc pc = .ok (.iadd, 1)) (hq : pc + 1 = q) (k : mm_E X h cells slots q lv (vI (a + b) :: st)) : mm_E X h cells slots pc lv (vI b :: vI a :: st) := by
  subst hq
  exact fun H locs ls hR hS hl => lv_iadd C.x C.b hd (k H locs ls hR hS hl)
theorem me_isub (C : mm_C X cc y lvl mc ms) {a b : Int32} (hd : decode cc pc = .ok (.isub, 1)) (hq : pc + 1 = q) (k : mm_E X h cells slots q lv (vI (a - b) :: st)) : mm_E X h cells slots pc lv (vI b :: vI a :: st) := by
  subst hq
  exact fun H locs ls hR hS hl => lv_isub C.x C.b hd (k H locs ls hR hS hl)
theorem me_imul (C : mm_C X cc y lvl mc ms) {a b : Int32} (hd : decode cc pc = .ok (.imul, 1)) (hq : pc + 1 = q) (k : mm_E X h cells slots q lv (vI (a * b) :: st)) : mm_E X h cells slots pc lv (vI b :: vI a :: st) := by
  subst hq
  exact fun H locs ls hR hS hl => lv_imul C.x C.b hd (k H locs ls hR hS hl)
theorem me_iand (C : mm_C X cc y lvl mc ms) {a b : Int32} (hd : decode cc pc = .ok (.iand, 1)) (hq : pc + 1 = q) (k : mm_E X h cells slots q lv (vI (a &&& b) :: st)) : mm_E X h cells slots pc lv (vI b :: vI a :: st) := by
  subst hq
  exact fun H locs ls hR hS hl => lv_iand C.x C.b hd (k H locs ls hR hS hl)
theorem me_ior (C : mm_C X cc y lvl mc ms) {a b : Int32} (hd : decode cc pc = .ok (.ior, 1)) (hq : pc + 1 = q) (k : mm_E X h cells slots q lv (vI (a ||| b) :: st)) : mm_E X h cells slots pc lv (vI b :: vI a :: st) := by
  subst hq
  exact fun H locs ls hR hS hl => lv_ior C.x C.b hd (k H locs ls hR hS hl)
theorem me_ishl (C : mm_C X cc y lvl mc ms) {a b : Int32} (hd : decode cc pc = .ok (.ishl, 1)) (hq : pc + 1 = q) (k : mm_E X h cells slots q lv (vI (a <<< (b &&& 31)) :: st)) : mm_E X h cells slots pc lv (vI b :: vI a :: st) := by
  subst hq
  exact fun H locs ls hR hS hl => lv_ishl C.x C.b hd (k H locs ls hR hS hl)
theorem me_ishr (C : mm_C X cc y lvl mc ms) {a b : Int32} (hd : decode cc pc = .ok (.ishr, 1)) (hq : pc + 1 = q) (k : mm_E X h cells slots q lv (vI (a >>> (b &&& 31)) :: st)) : mm_E X h cells slots pc lv (vI b :: vI a :: st) := by
  subst hq
  exact fun H locs ls hR hS hl => lv_ishr C.x C.b hd (k H locs ls hR hS hl)
theorem me_iushr (C : mm_C X cc y lvl mc ms) {a b : Int32} (hd : decode cc pc = .ok (.iushr, 1)) (hq : pc + 1 = q) (k : mm_E X h cells slots q lv (vI ((a.toUInt32 >>> (b.toUInt32 &&& Int32.toUInt32 31)).toInt32) :: st)) : mm_E X h cells slots pc lv (vI b :: vI a :: st) := by
  subst hq
  exact fun H locs ls hR hS hl => lv_iushr C.x C.b hd rfl (k H locs ls hR hS hl)
theorem me_ladd (C : mm_C X cc y lvl mc ms) {a b : Int64} (hd : decode cc pc = .ok (.ladd, 1)) (hq : pc + 1 = q) (k : mm_E X h cells slots q lv (vJ (a + b) :: st)) : mm_E X h cells slots pc lv (vJ b :: vJ a :: st) := by
  subst hq
  exact fun H locs ls hR hS hl => lv_ladd C.x C.b hd (k H locs ls hR hS hl)
theorem me_lsub (C : mm_C X cc y lvl mc ms) {a b : Int64} (hd : decode cc pc = .ok (.lsub, 1)) (hq : pc + 1 = q) (k : mm_E X h cells slots q lv (vJ (a - b) :: st)) : mm_E X h cells slots pc lv (vJ b :: vJ a :: st) := by
  subst hq
  exact fun H locs ls hR hS hl => lv_lsub C.x C.b hd (k H locs ls hR hS hl)
theorem me_lmul (C : mm_C X cc y lvl mc ms) {a b : Int64} (hd : decode cc pc = .ok (.lmul, 1)) (hq : pc + 1 = q) (k : mm_E X h cells slots q lv (vJ (a * b) :: st)) : mm_E X h cells slots pc lv (vJ b :: vJ a :: st) := by
  subst hq
  exact fun H locs ls hR hS hl => lv_lmul C.x C.b hd (k H locs ls hR hS hl)
theorem me_land (C : mm_C X cc y lvl mc ms) {a b : Int64} (hd : decode cc pc = .ok (.land, 1)) (hq : pc + 1 = q) (k : mm_E X h cells slots q lv (vJ (a &&& b) :: st)) : mm_E X h cells slots pc lv (vJ b :: vJ a :: st) := by
  subst hq
  exact fun H locs ls hR hS hl => lv_land C.x C.b hd (k H locs ls hR hS hl)
theorem me_lor (C : mm_C X cc y lvl mc ms) {a b : Int64} (hd : decode cc pc = .ok (.lor, 1)) (hq : pc + 1 = q) (k : mm_E X h cells slots q lv (vJ (a ||| b) :: st)) : mm_E X h cells slots pc lv (vJ b :: vJ a :: st) := by
  subst hq
  exact fun H locs ls hR hS hl => lv_lor C.x C.b hd (k H locs ls hR hS hl)
theorem me_lshl (C : mm_C X cc y lvl mc ms) {a : Int64} {b : Int32} (hd : decode cc pc = .ok (.lshl, 1)) (hq : pc + 1 = q) (k : mm_E X h cells slots q lv (vJ (a <<< (b.toInt64 &&& 63)) :: st)) : mm_E X h cells slots pc lv (vI b :: vJ a :: st) := by
  subst hq
  exact fun H locs ls hR hS hl => lv_lshl C.x C.b hd rfl (k H locs ls hR hS hl)
theorem me_lshr (C : mm_C X cc y lvl mc ms) {a : Int64} {b : Int32} (hd : decode cc pc = .ok (.lshr, 1)) (hq : pc + 1 = q) (k : mm_E X h cells slots q lv (vJ (a >>> (b.toInt64 &&& 63)) :: st)) : mm_E X h cells slots pc lv (vI b :: vJ a :: st) := by
  subst hq
  exact fun H locs ls hR hS hl => lv_lshr C.x C.b hd rfl (k H locs ls hR hS hl)
theorem me_lushr (C : mm_C X cc y lvl mc ms) {a : Int64} {b : Int32} (hd : decode cc pc = .ok (.lushr, 1)) (hq : pc + 1 = q) (k : mm_E X h cells slots q lv (vJ ((a.toUInt64 >>> (b.toInt64.toUInt64 &&& Int64.toUInt64 63)).toInt64) :: st)) : mm_E X h cells slots pc lv (vI b :: vJ a :: st) := by
  subst hq
  exact fun H locs ls hR hS hl => lv_lushr C.x C.b hd rfl (k H locs ls hR hS hl)
theorem me_idiv (C : mm_C X cc y lvl mc ms) {a b : Int32} (hd : decode cc pc = .ok (.idiv, 1)) (hz : ¬ b = 0) (hq : pc + 1 = q) (k : mm_E X h cells slots q lv (vI (a / b) :: st)) : mm_E X h cells slots pc lv (vI b :: vI a :: st) := by
  subst hq
  exact fun H locs ls hR hS hl => lv_idiv C.x C.b hd hz (k H locs ls hR hS hl)
theorem me_irem (C : mm_C X cc y lvl mc ms) {a b : Int32} (hd : decode cc pc = .ok (.irem, 1)) (hz : ¬ b = 0) (hq : pc + 1 = q) (k : mm_E X h cells slots q lv (vI (a - a / b * b) :: st)) : mm_E X h cells slots pc lv (vI b :: vI a :: st) := by
  subst hq
  exact fun H locs ls hR hS hl => lv_irem C.x C.b hd hz (k H locs ls hR hS hl)
theorem me_ldiv (C : mm_C X cc y lvl mc ms) {a b : Int64} (hd : decode cc pc = .ok (.ldiv, 1)) (hz : ¬ b = 0) (hq : pc + 1 = q) (k : mm_E X h cells slots q lv (vJ (a / b) :: st)) : mm_E X h cells slots pc lv (vJ b :: vJ a :: st) := by
  subst hq
  exact fun H locs ls hR hS hl => lv_ldiv C.x C.b hd hz (k H locs ls hR hS hl)
theorem me_ineg (C : mm_C X cc y lvl mc ms) {a : Int32} (hd : decode cc pc = .ok (.ineg, 1)) (hq : pc + 1 = q) (k : mm_E X h cells slots q lv (vI (-a) :: st)) : mm_E X h cells slots pc lv (vI a :: st) := by
  subst hq
  exact fun H locs ls hR hS hl => lv_ineg C.x C.b hd (k H locs ls hR hS hl)
theorem me_i2l (C : mm_C X cc y lvl mc ms) {a : Int32} (hd : decode cc pc = .ok (.i2l, 1)) (hq : pc + 1 = q) (k : mm_E X h cells slots q lv (vJ a.toInt64 :: st)) : mm_E X h cells slots pc lv (vI a :: st) := by
  subst hq
  exact fun H locs ls hR hS hl => lv_i2l C.x C.b hd rfl (k H locs ls hR hS hl)
theorem me_l2i (C : mm_C X cc y lvl mc ms) {a : Int64} (hd : decode cc pc = .ok (.l2i, 1)) (hq : pc + 1 = q) (k : mm_E X h cells slots q lv (vI a.toInt32 :: st)) : mm_E X h cells slots pc lv (vJ a :: st) := by
  subst hq
  exact fun H locs ls hR hS hl => lv_l2i C.x C.b hd rfl (k H locs ls hR hS hl)
theorem me_i2b (C : mm_C X cc y lvl mc ms) {a : Int32} (hd : decode cc pc = .ok (.i2b, 1)) (hq : pc + 1 = q) (k : mm_E X h cells slots q lv (vI a.toInt8.toInt32 :: st)) : mm_E X h cells slots pc lv (vI a :: st) := by
  subst hq
  exact fun H locs ls hR hS hl => lv_i2b C.x C.b hd rfl (k H locs ls hR hS hl)
theorem me_i2c (C : mm_C X cc y lvl mc ms) {a : Int32} (hd : decode cc pc = .ok (.i2c, 1)) (hq : pc + 1 = q) (k : mm_E X h cells slots q lv (vI (a.toUInt32 % 65536).toInt32 :: st)) : mm_E X h cells slots pc lv (vI a :: st) := by
  subst hq
  exact fun H locs ls hR hS hl => lv_i2c C.x C.b hd rfl (k H locs ls hR hS hl)
theorem me_lcmp (C : mm_C X cc y lvl mc ms) {a b : Int64} (hd : decode cc pc = .ok (.lcmp, 1)) (hq : pc + 1 = q) (k : mm_E X h cells slots q lv (vI (lg_cmp a b) :: st)) : mm_E X h cells slots pc lv (vJ b :: vJ a :: st) := by
  subst hq
  exact fun H locs ls hR hS hl => W.lcmp C.x C.b hd (k H locs ls hR hS hl)
theorem me_dup (C : mm_C X cc y lvl mc ms) {a : mm_W} (hd : decode cc pc = .ok (.dup, 1)) (ha : mm_ct a = 1) (hq : pc + 1 = q) (k : mm_E X h cells slots q lv (a :: a :: st)) : mm_E X h cells slots pc lv (a :: st) := by
  subst hq
  exact fun H locs ls hR hS hl => lv_dup C.x C.b hd ((mm_ct_eq a).trans ha) (k H locs ls hR hS hl)
theorem me_pop (C : mm_C X cc y lvl mc ms) {a : mm_W} (hd : decode cc pc = .ok (.pop, 1)) (ha : mm_ct a = 1) (hq : pc + 1 = q) (k : mm_E X h cells slots q lv (st)) : mm_E X h cells slots pc lv (a :: st) := by
  subst hq
  exact fun H locs ls hR hS hl => lv_pop C.x C.b hd ((mm_ct_eq a).trans ha) (k H locs ls hR hS hl)
theorem me_dup_x1 (C : mm_C X cc y lvl mc ms) {a b : mm_W} (hd : decode cc pc = .ok (.dup_x1, 1)) (ha : mm_ct a = 1) (hb : mm_ct b = 1) (hq : pc + 1 = q) (k : mm_E X h cells slots q lv (a :: b :: a :: st)) : mm_E X h cells slots pc lv (a :: b :: st) := by
  subst hq
  exact fun H locs ls hR hS hl => lv_dup_x1 C.x C.b hd ((mm_ct_eq a).trans ha) ((mm_ct_eq b).trans hb) (k H locs ls hR hS hl)
theorem me_dup2_11 (C : mm_C X cc y lvl mc ms) {a b : mm_W} (hd : decode cc pc = .ok (.dup2, 1)) (ha : mm_ct a = 1) (hb : mm_ct b = 1) (hq : pc + 1 = q) (k : mm_E X h cells slots q lv (a :: b :: a :: b :: st)) : mm_E X h cells slots pc lv (a :: b :: st) := by
  subst hq
  exact fun H locs ls hR hS hl => lv_dup2_11 C.x C.b hd ((mm_ct_eq a).trans ha) ((mm_ct_eq b).trans hb) (k H locs ls hR hS hl)
theorem me_dup2_2 (C : mm_C X cc y lvl mc ms) {a : mm_W} (hd : decode cc pc = .ok (.dup2, 1)) (ha : mm_ct a = 2) (hq : pc + 1 = q) (k : mm_E X h cells slots q lv (a :: a :: st)) : mm_E X h cells slots pc lv (a :: st) := by
  subst hq
  exact fun H locs ls hR hS hl => lv_dup2_2 C.x C.b hd ((mm_ct_eq a).trans ha) (k H locs ls hR hS hl)
theorem me_goto (C : mm_C X cc y lvl mc ms) {off : Int} (hd : decode cc pc = .ok (.goto off, 3)) (hq : (pc : Int) + off = (q : Int)) (k : mm_E X h cells slots q lv st) : mm_E X h cells slots pc lv st := fun H locs ls hR hS hl => lv_goto C.x C.b hd hq (k H locs ls hR hS hl)
theorem me_if_eq (C : mm_C X cc y lvl mc ms) {a : Int32} {off : Int} {q2 : Nat} (hd : decode cc pc = .ok (.ifCond .eq off, 3)) (ht : (pc : Int) + off = (q2 : Int)) (hq : pc + 3 = q) (kt : a = 0 → mm_E X h cells slots q2 lv st) (kf : ¬ (a = 0) → mm_E X h cells slots q lv st) : mm_E X h cells slots pc lv (vI a :: st) := by
  subst hq
  intro H locs ls hR hS hl
  exact lv_if_eq C.x C.b hd ht (fun e => kt (by simpa using e) H locs ls hR hS hl) (fun e => kf (by simpa using e) H locs ls hR hS hl)
theorem me_icmp_eq (C : mm_C X cc y lvl mc ms) {a b : Int32} {off : Int} {q2 : Nat} (hd : decode cc pc = .ok (.if_icmp .eq off, 3)) (ht : (pc : Int) + off = (q2 : Int)) (hq : pc + 3 = q) (kt : a = b → mm_E X h cells slots q2 lv st) (kf : ¬ (a = b) → mm_E X h cells slots q lv st) : mm_E X h cells slots pc lv (vI b :: vI a :: st) := by
  subst hq
  intro H locs ls hR hS hl
  exact lv_icmp_eq C.x C.b hd ht (fun e => kt (by simpa using e) H locs ls hR hS hl) (fun e => kf (by simpa using e) H locs ls hR hS hl)
theorem me_if_ne (C : mm_C X cc y lvl mc ms) {a : Int32} {off : Int} {q2 : Nat} (hd : decode cc pc = .ok (.ifCond .ne off, 3)) (ht : (pc : Int) + off = (q2 : Int)) (hq : pc + 3 = q) (kt : ¬ a = 0 → mm_E X h cells slots q2 lv st) (kf : ¬ (¬ a = 0) → mm_E X h cells slots q lv st) : mm_E X h cells slots pc lv (vI a :: st) := by
  subst hq
  intro H locs ls hR hS hl
  exact lv_if_ne C.x C.b hd ht (fun e => kt (by simpa using e) H locs ls hR hS hl) (fun e => kf (by simpa using e) H locs ls hR hS hl)
theorem me_icmp_ne (C : mm_C X cc y lvl mc ms) {a b : Int32} {off : Int} {q2 : Nat} (hd : decode cc pc = .ok (.if_icmp .ne off, 3)) (ht : (pc : Int) + off = (q2 : Int)) (hq : pc + 3 = q) (kt : ¬ a = b → mm_E X h cells slots q2 lv st) (kf : ¬ (¬ a = b) → mm_E X h cells slots q lv st) : mm_E X h cells slots pc lv (vI b :: vI a :: st) := by
  subst hq
  intro H locs ls hR hS hl
  exact lv_icmp_ne C.x C.b hd ht (fun e => kt (by simpa using e) H locs ls hR hS hl) (fun e => kf (by simpa using e) H locs ls hR hS hl)
theorem me_if_lt (C : mm_C X cc y lvl mc ms) {a : Int32} {off : Int} {q2 : Nat} (hd : decode cc pc = .ok (.ifCond .lt off, 3)) (ht : (pc : Int) + off = (q2 : Int)) (hq : pc + 3 = q) (kt : a < 0 → mm_E X h cells slots q2 lv st) (kf : ¬ (a < 0) → mm_E X h cells slots q lv st) : mm_E X h cells slots pc lv (vI a :: st) := by
  subst hq
  intro H locs ls hR hS hl
  exact lv_if_lt C.x C.b hd ht (fun e => kt (by simpa using e) H locs ls hR hS hl) (fun e => kf (by simpa using e) H locs ls hR hS hl)
theorem me_icmp_lt (C : mm_C X cc y lvl mc ms) {a b : Int32} {off : Int} {q2 : Nat} (hd : decode cc pc = .ok (.if_icmp .lt off, 3)) (ht : (pc : Int) + off = (q2 : Int)) (hq : pc + 3 = q) (kt : a < b → mm_E X h cells slots q2 lv st) (kf : ¬ (a < b) → mm_E X h cells slots q lv st) : mm_E X h cells slots pc lv (vI b :: vI a :: st) := by
  subst hq
  intro H locs ls hR hS hl
  exact lv_icmp_lt C.x C.b hd ht (fun e => kt (by simpa using e) H locs ls hR hS hl) (fun e => kf (by simpa using e) H locs ls hR hS hl)
theorem me_if_ge (C : mm_C X cc y lvl mc ms) {a : Int32} {off : Int} {q2 : Nat} (hd : decode cc pc = .ok (.ifCond .ge off, 3)) (ht : (pc : Int) + off = (q2 : Int)) (hq : pc + 3 = q) (kt : 0 ≤ a → mm_E X h cells slots q2 lv st) (kf : ¬ (0 ≤ a) → mm_E X h cells slots q lv st) : mm_E X h cells slots pc lv (vI a :: st) := by
  subst hq
  intro H locs ls hR hS hl
  exact lv_if_ge C.x C.b hd ht (fun e => kt (by simpa using e) H locs ls hR hS hl) (fun e => kf (by simpa using e) H locs ls hR hS hl)
theorem me_icmp_ge (C : mm_C X cc y lvl mc ms) {a b : Int32} {off : Int} {q2 : Nat} (hd : decode cc pc = .ok (.if_icmp .ge off, 3)) (ht : (pc : Int) + off = (q2 : Int)) (hq : pc + 3 = q) (kt : b ≤ a → mm_E X h cells slots q2 lv st) (kf : ¬ (b ≤ a) → mm_E X h cells slots q lv st) : mm_E X h cells slots pc lv (vI b :: vI a :: st) := by
  subst hq
  intro H locs ls hR hS hl
  exact lv_icmp_ge C.x C.b hd ht (fun e => kt (by simpa using e) H locs ls hR hS hl) (fun e => kf (by simpa using e) H locs ls hR hS hl)
theorem me_if_gt (C : mm_C X cc y lvl mc ms) {a : Int32} {off : Int} {q2 : Nat} (hd : decode cc pc = .ok (.ifCond .gt off, 3)) (ht : (pc : Int) + off = (q2 : Int)) (hq : pc + 3 = q) (kt : 0 < a → mm_E X h cells slots q2 lv st) (kf : ¬ (0 < a) → mm_E X h cells slots q lv st) : mm_E X h cells slots pc lv (vI a :: st) := by
  subst hq
  intro H locs ls hR hS hl
  exact lv_if_gt C.x C.b hd ht (fun e => kt (by simpa using e) H locs ls hR hS hl) (fun e => kf (by simpa using e) H locs ls hR hS hl)
theorem me_icmp_gt (C : mm_C X cc y lvl mc ms) {a b : Int32} {off : Int} {q2 : Nat} (hd : decode cc pc = .ok (.if_icmp .gt off, 3)) (ht : (pc : Int) + off = (q2 : Int)) (hq : pc + 3 = q) (kt : b < a → mm_E X h cells slots q2 lv st) (kf : ¬ (b < a) → mm_E X h cells slots q lv st) : mm_E X h cells slots pc lv (vI b :: vI a :: st) := by
  subst hq
  intro H locs ls hR hS hl
  exact lv_icmp_gt C.x C.b hd ht (fun e => kt (by simpa using e) H locs ls hR hS hl) (fun e => kf (by simpa using e) H locs ls hR hS hl)
theorem me_if_le (C : mm_C X cc y lvl mc ms) {a : Int32} {off : Int} {q2 : Nat} (hd : decode cc pc = .ok (.ifCond .le off, 3)) (ht : (pc : Int) + off = (q2 : Int)) (hq : pc + 3 = q) (kt : a ≤ 0 → mm_E X h cells slots q2 lv st) (kf : ¬ (a ≤ 0) → mm_E X h cells slots q lv st) : mm_E X h cells slots pc lv (vI a :: st) := by
  subst hq
  intro H locs ls hR hS hl
  exact lv_if_le C.x C.b hd ht (fun e => kt (by simpa using e) H locs ls hR hS hl) (fun e => kf (by simpa using e) H locs ls hR hS hl)
theorem me_icmp_le (C : mm_C X cc y lvl mc ms) {a b : Int32} {off : Int} {q2 : Nat} (hd : decode cc pc = .ok (.if_icmp .le off, 3)) (ht : (pc : Int) + off = (q2 : Int)) (hq : pc + 3 = q) (kt : a ≤ b → mm_E X h cells slots q2 lv st) (kf : ¬ (a ≤ b) → mm_E X h cells slots q lv st) : mm_E X h cells slots pc lv (vI b :: vI a :: st) := by
  subst hq
  intro H locs ls hR hS hl
  exact lv_icmp_le C.x C.b hd ht (fun e => kt (by simpa using e) H locs ls hR hS hl) (fun e => kf (by simpa using e) H locs ls hR hS hl)
theorem me_acmp_eq (C : mm_C X cc y lvl mc ms) {a b : Option Nat} {off : Int} {q2 : Nat} (hd : decode cc pc = .ok (.if_acmp .eq off, 3)) (ht : (pc : Int) + off = (q2 : Int)) (hq : pc + 3 = q) (kt : a = b → mm_E X h cells slots q2 lv st) (kf : ¬ (a = b) → mm_E X h cells slots q lv st) : mm_E X h cells slots pc lv (vR b :: vR a :: st) := by
  subst hq
  intro H locs ls hR hS hl
  exact lv_acmp_eq C.x C.b hd ht (fun e => kt (by simpa using e) H locs ls hR hS hl) (fun e => kf (by simpa using e) H locs ls hR hS hl)
theorem me_acmp_ne (C : mm_C X cc y lvl mc ms) {a b : Option Nat} {off : Int} {q2 : Nat} (hd : decode cc pc = .ok (.if_acmp .ne off, 3)) (ht : (pc : Int) + off = (q2 : Int)) (hq : pc + 3 = q) (kt : ¬ a = b → mm_E X h cells slots q2 lv st) (kf : ¬ (¬ a = b) → mm_E X h cells slots q lv st) : mm_E X h cells slots pc lv (vR b :: vR a :: st) := by
  subst hq
  intro H locs ls hR hS hl
  exact lv_acmp_ne C.x C.b hd ht (fun e => kt (by simpa using e) H locs ls hR hS hl) (fun e => kf (by simpa using e) H locs ls hR hS hl)
theorem me_ifnull (C : mm_C X cc y lvl mc ms) {a : Option Nat} {off : Int} {q2 : Nat} (hd : decode cc pc = .ok (.ifnull off, 3)) (ht : (pc : Int) + off = (q2 : Int)) (hq : pc + 3 = q) (kt : a = none → mm_E X h cells slots q2 lv st) (kf : ¬ (a = none) → mm_E X h cells slots q lv st) : mm_E X h cells slots pc lv (vR a :: st) := by
  subst hq
  intro H locs ls hR hS hl
  cases a with
  | none => exact lv_ifnullN C.x C.b hd ht (kt rfl H locs ls hR hS hl)
  | some w => exact lv_ifnull C.x C.b hd (kf (by simp) H locs ls hR hS hl)
theorem me_ifnonnull (C : mm_C X cc y lvl mc ms) {a : Option Nat} {off : Int} {q2 : Nat} (hd : decode cc pc = .ok (.ifnonnull off, 3)) (ht : (pc : Int) + off = (q2 : Int)) (hq : pc + 3 = q) (kt : ¬ a = none → mm_E X h cells slots q2 lv st) (kf : ¬ (¬ a = none) → mm_E X h cells slots q lv st) : mm_E X h cells slots pc lv (vR a :: st) := by
  subst hq
  intro H locs ls hR hS hl
  cases a with
  | none => exact lv_ifnonnullN C.x C.b hd (kf (by simp) H locs ls hR hS hl)
  | some w => exact lv_ifnonnull C.x C.b hd ht (kt (by simp) H locs ls hR hS hl)
theorem me_mask (bs : List Bool) {lv2 : List (Option mm_W)} (hm : mm_mask bs lv = lv2) (k : mm_E X h cells slots pc lv2 st) : mm_E X h cells slots pc lv st := by
  subst hm
  exact fun H locs ls hR hS hl => k H locs ls hR hS (hl.mask bs)
theorem me_widen {c2 s2 : Nat} (h1 : cells ≤ c2) (h2 : slots ≤ s2) (k : mm_E X h c2 s2 pc lv st) : mm_E X h cells slots pc lv st := fun H locs ls hR hS hl => W.widen h1 h2 (k H locs ls hR hS hl)
theorem me_tabIn (C : mm_C X cc y lvl mc ms) {dflt lo hi : Int} {offs : Array Int} {len : Nat} {x : Int32} {off : Int} (hd : decode cc pc = .ok (.tableswitch dflt lo hi offs, len)) (h1 : ¬ x.toInt < lo) (h2 : ¬ hi < x.toInt) (ho : offs[(x.toInt - lo).toNat]? = some off) (ht : (pc : Int) + off = (q : Int)) (k : mm_E X h cells slots q lv st) : mm_E X h cells slots pc lv (vI x :: st) := fun H locs ls hR hS hl => lv_tableIn C.x C.b hd h1 h2 ho ht (k H locs ls hR hS hl)
theorem me_tabOut (C : mm_C X cc y lvl mc ms) {dflt lo hi : Int} {offs : Array Int} {len : Nat} {x : Int32} (hd : decode cc pc = .ok (.tableswitch dflt lo hi offs, len)) (hx : x.toInt < lo ∨ hi < x.toInt) (ht : (pc : Int) + dflt = (q : Int)) (k : mm_E X h cells slots q lv st) : mm_E X h cells slots pc lv (vI x :: st) := fun H locs ls hR hS hl => lv_tableOut C.x C.b hd hx ht (k H locs ls hR hS hl)
theorem me_lookup (C : mm_C X cc y lvl mc ms) {dflt : Int} {ps : Array (Int × Int)} {len : Nat} {x : Int32} {off : Int} (hd : decode cc pc = .ok (.lookupswitch dflt ps, len)) (hp : (ps.toList.zip (ps.toList.drop 1)).all (fun (a, next) => a.1 < next.1) = true) (ho : Op.lookupswitch.offset ps.toList dflt x.toInt = off) (ht : (pc : Int) + off = (q : Int)) (k : mm_E X h cells slots q lv st) : mm_E X h cells slots pc lv (vI x :: st) := fun H locs ls hR hS hl => lv_lookup C.x C.b hd hp ho ht (k H locs ls hR hS hl)
end MR
