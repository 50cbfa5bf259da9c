/-! statics, texts, class objects, arrays of references, copies -/
section M9
variable {p : Program} {l : Launch} {e : Env} {R : Room} {s : State} {m : MethodId} {args : Array Value} {below : List Frame} {meth : Method} {c : Code} {H : Heap} {locs : List Loc} {cells slots : Nat} {Q : State → Prop}
variable {cc : ByteArray} {pc : Nat} {ls : Array Slot} {rest : List Value}
theorem mm_nn {z : Int32} (hz : ¬ z < 0) : z.toInt = (z.toNatClampNeg : Int) := by
  have hz0 : (0 : Int) ≤ z.toInt := by
    have := Int32.not_lt.mp hz
    simpa using Int32.le_iff_toInt_le.mp this
  show z.toInt = ((z.toInt.toNat : Nat) : Int)
  omega
/-- System.arraycopy between two arrays of one kind of values -/
theorem mm_acopy (hexec : p.tables.exec = Jvm.exec) (hb : c.code = cc) (hml : c.maxLocals = ls.size) {own : String} {index : Nat} (hown : s.vm.findClass own = some m.cls) (hlink : (Cond.methodLink own index arraycopyName).before args s = true) (hnat : (Cond.native arraycopyName).before args s = true) (hstat : (Cond.static arraycopyName).before args s = true) (hini : (Cond.initialized "java/lang/System").before args s = true)
    {a0 a : Nat} {cA : ClassId} {n0 n1 : Nat} {ty : FieldType} {f g : Nat → Value} {kA : Class} {comp : ClassId} (hc0 : H[a0]? = some (arrV cA n0 f)) (hc1 : H[a]? = some (arrV cA n1 g)) (hkA : s.vm.classes[cA]? = some kA) (hkk : kA.kind = .array comp ty)
    {sp dp n : Int32} (h1 : ¬ sp < 0) (h2 : ¬ dp < 0) (h3 : ¬ n < 0) (h4 : sp.toNatClampNeg + n.toNatClampNeg ≤ n0) (h5 : dp.toNatClampNeg + n.toNatClampNeg ≤ n1)
    (hvals : ∀ T : State, T.heap = H → ∀ vm', s.vm.Alike vm' → ∀ i, i < n.toNatClampNeg → fits ty (f (sp.toNatClampNeg + i)) = true ∧ (T.setVm vm').takes comp (f (sp.toNatClampNeg + i)))
    (hframes : 1 ≤ R.frames) (hlocals : (rest.map fun v => v.category).sum + (nativeFrameWords "java/lang/System" "arraycopy" 5 + 11) ≤ R.locals) (hdg : decode cc pc = .ok (.invokestatic index, 3))
    (kk : ∀ (H1 : Heap) (L : List Loc), H1[a]? = some (arrV cA n1 (va_cpy f g sp.toNatClampNeg dp.toNatClampNeg n.toNatClampNeg)) → H1.size = H.size → (∀ q : Nat, q ≠ a → H1[q]? = H[q]?) → (∀ q ∈ L, q.base = a) → W p l e R s m args below meth c H1 (locs ++ L) cells slots Q (F0 m (pc + 3) ls rest)) : W p l e R s m args below meth c H locs cells slots Q (F0 m pc ls (.int n :: .int dp :: .ref a :: .int sp :: .ref a0 :: rest)) := by
  intro T hT X
  obtain ⟨vm', X', step⟩ := X.arraycopy hexec hown hlink hnat hstat hini (src := a0) (dst := a) (cs := arrV cA n0 f) (cd := arrV cA n1 g) (srcPos := sp) (destPos := dp) (n := n) (by rw [hT]; exact hc0) (by rw [hT]; exact hc1)
    (fun _ h => by cases h) (fun _ h => by cases h) (fun h => by cases h) (fun h => by cases h) hkA hkA hkk hkk (by cases refKind ty <;> simp) h1 h2 h3
    (by rw [mm_nn h1, mm_nn h3, arrV_size]; omega)
    (by rw [mm_nn h2, mm_nn h3, arrV_size]; omega)
    (fun vm₁ hal i hi => by
      have e : (arrV cA n0 f).slots.getD (sp.toNatClampNeg + i) .null = f (sp.toNatClampNeg + i) := by
        rw [Array.getD_eq_getD_getElem?, arrV_read _ _ (by omega)]
        rfl
      rw [e]
      exact hvals T hT vm₁ hal i hi)
    (g := F0 m pc ls (.int n :: .int dp :: .ref a :: .int sp :: .ref a0 :: rest)) rfl (by rw [hml]) (rest := rest) rfl (by rw [hb]; exact hdg) hframes (by show 2 * 0 + _ + _ ≤ _; omega)
  have e1 : copied (arrV cA n0 f) (arrV cA n1 g) sp dp n = arrV cA n1 (va_cpy f g sp.toNatClampNeg dp.toNatClampNeg n.toNatClampNeg) := va_copied (fun z => z) cA cA f g h4
  rw [e1] at X' step
  have hl : a < H.size := (Array.getElem?_eq_some_iff.mp hc1).1
  obtain ⟨t, a1, b1⟩ := kk ((T.setVm vm').setCell a (arrV cA n1 (va_cpy f g sp.toNatClampNeg dp.toNatClampNeg n.toNatClampNeg))).heap _ (heapAt_setCell_self _ (by show a < T.heap.size; rw [hT]; exact hl)) (by rw [size_setCell]; show T.heap.size = _; rw [hT]) (fun q hq => by rw [heapAt_setCell_ne _ (Ne.symm hq)]; show T.heap[q]? = _; rw [hT])
    (fun q hq => by
      obtain ⟨z, -, hz⟩ := List.mem_map.mp hq
      rw [← hz]) _ rfl X'
  exact ⟨t, step t a1, b1⟩
end M9
/-- a stretch of references is copied from a0 to a -/
def mm_cpR (h : mm_H) (a0 sp a dp n : Nat) : mm_H := (h.1, h.2.1, h.2.2.1, h.2.2.2.1, (fun b j => if b = a then va_cpy (h.2.2.2.2.1 a0) (h.2.2.2.2.1 a) sp dp n j else h.2.2.2.2.1 b j), h.2.2.2.2.2)
def mm_cpI (h : mm_H) (a0 sp a dp n : Nat) : mm_H := (h.1, h.2.1, (fun b j => if b = a then va_cpy (h.2.2.1 a0) (h.2.2.1 a) sp dp n j else h.2.2.1 b j), h.2.2.2)
theorem mm_R.cp {D : va_G} {cy : Nat → ClassId} {Hs H H1 : Heap} {h h1 : mm_H} (hR : mm_R D cy Hs h H) {a ci : Nat} {f : Nat → Value} (hk : mm_kd h a = ci) (hc : 14 ≤ ci) (hlo : Hs.size ≤ a) (e1 : mm_sz h1 = mm_sz h) (e2 : mm_kd h1 = mm_kd h) (e3 : mm_n h1 = mm_n h) (e4 : mm_c h1 = mm_c h) (hV : ∀ b j : Nat, mm_V h1 b j = if b = a then f j else mm_V h b j) (e : H1[a]? = some (arrV (cy ci) (mm_n h a) f)) (z : H1.size = H.size) (oq : ∀ q : Nat, q ≠ a → H1[q]? = H[q]?) : mm_R D cy Hs h1 H1 := by
  refine hR.put e1 e2 e3 e4 (fun b j hb => by rw [hV b j, if_neg hb]) hlo ⟨fun q => ?_, fun _ => ?_⟩ z oq
  · rw [e2] at q; omega
  · rw [e, e2, e3, hk]
    congr 2
    funext j
    rw [hV a j, if_pos rfl]
section M8
variable {X : mm_X} {cc : ByteArray} {y : MethodName} {lvl mc ms : Nat} {h h2 : mm_H} {cells slots pc q : Nat} {lv : List (Option mm_W)} {st : List mm_W}
theorem mm_Zin {D : va_G} {cy : Nat → ClassId} {Hs H : Heap} {h : mm_H} {s : State} {C n d : String} {v : Value} (hZ : va_Z C n d v (mm_A Hs) s Hs) (hR : mm_R D cy Hs h H) : va_Z C n d v (mm_A Hs) s H := hZ.kept (fun a ha _ => hR.2.2.1 a ha)
theorem mm_getZ (C : mm_C X cc y lvl mc ms) {H : Heap} {locs : List Loc} {ls : Array Slot} {Cn nm d ref : String} {n : Nat} {v : Value} {st : List Value} (hZ : va_Z Cn nm d v (mm_A (mx_Hs X)) (mx_s X) H) (hw : Cond.fieldLink y.cls n ref nm d ∈ mm_tb) (hs : ref = Cn ∨ Cond.sameField ref Cn nm d ∈ mm_tb) (hd : decode cc pc = .ok (.getstatic n, 3)) (k : mm_Wx X H locs cells slots (F0 (mx_m X) (pc + 3) ls (v :: st))) : mm_Wx X H locs cells slots (F0 (mx_m X) pc ls st) := by
  obtain ⟨cf, kf, fi, f, a, cell, h1, h2, h3, h4, h5, h6, h7, h8⟩ := hZ
  exact W.gets C.x C.b C.own (C.ts _ hw) (mm_same C.ts hs _ h1) h2 h3 h4 h5 (fun e => by rw [e] at h6; cases h6) h7 rfl hd k
theorem me_gsR (C : mm_C X cc y lvl mc ms) {n : Nat} (hd : decode cc pc = .ok (.getstatic n, 3)) (hw : Cond.fieldLink y.cls n "java/util/ArrayList" "DEFAULTCAPACITY_EMPTY_ELEMENTDATA" "[Ljava/lang/Object;" ∈ mm_tb) (hq : pc + 3 = q) (k : mm_E X h cells slots q lv (vR (some (mm_c h 0)) :: st)) : mm_E X h cells slots pc lv st := by
  subst hq
  intro H locs ls hR hS hl
  have k2 := k H locs ls hR hS hl
  refine mm_getZ C (mm_Zin C.G.1 hR) hw (Or.inl rfl) hd ?_
  rw [← hR.2.2.2.2.1 0]
  exact k2
theorem me_gsI (C : mm_C X cc y lvl mc ms) {n : Nat} (hd : decode cc pc = .ok (.getstatic n, 3)) (hw : Cond.fieldLink y.cls n "java/lang/String" "COMPACT_STRINGS" "Z" ∈ mm_tb) (hq : pc + 3 = q) (k : mm_E X h cells slots q lv (vI 1 :: st)) : mm_E X h cells slots pc lv st := by
  subst hq
  intro H locs ls hR hS hl
  exact mm_getZ C (mm_Zin C.G.2.1 hR) hw (Or.inl rfl) hd (k H locs ls hR hS hl)
theorem me_gsQ (C : mm_C X cc y lvl mc ms) {n : Nat} (hd : decode cc pc = .ok (.getstatic n, 3)) (hw : Cond.fieldLink y.cls n "jdk/internal/util/Preconditions" "SIOOBE_FORMATTER" "Ljava/util/function/BiFunction;" ∈ mm_tb) (hq : pc + 3 = q) (k : ∀ o : Option Nat, mm_E X h cells slots q lv (vR o :: st)) : mm_E X h cells slots pc lv st := by
  subst hq
  intro H locs ls hR hS hl
  rcases C.G.2.2.1 with hZ | ⟨t, hZ⟩
  · exact mm_getZ C (mm_Zin hZ hR) hw (Or.inl rfl) hd (k none H locs ls hR hS hl)
  · exact mm_getZ C (mm_Zin hZ hR) hw (Or.inl rfl) hd (k (some t) H locs ls hR hS hl)
theorem me_ldcM (C : mm_C X cc y lvl mc ms) {n : Nat} (hd : decode cc pc = .ok (.ldc n, 2)) (hw : Cond.classLink y.cls n "[Ljava/lang/Object;" ∈ mm_tb) (hq : pc + 2 = q) (k : mm_E X h cells slots q lv (vR (some (mm_c h 1)) :: st)) : mm_E X h cells slots pc lv st := by
  subst hq
  intro H locs ls hR hS hl
  have k2 := k H locs ls hR hS hl
  refine va_ldcM C.x C.b C.own (C.ts _ hw) C.G.2.2.2.1 hd ?_
  rw [← hR.2.2.2.2.1 1]
  exact k2
theorem me_ldcS (C : mm_C X cc y lvl mc ms) {n i : Nat} {tx : String} (hd : decode cc pc = .ok (.ldc n, 2)) (hi : mm_lit[i]? = some (y.cls, n, tx)) (hq : pc + 2 = q) (k : mm_E X h cells slots q lv (vR (some (mm_c h (10 + i))) :: st)) : mm_E X h cells slots pc lv st := by
  subst hq
  intro H locs ls hR hS hl
  have k2 := k H locs ls hR hS hl
  refine va_ldcS C.x C.b C.own (C.G.2.2.2.2.2.2.2.2.2 i _ hi) hd ?_
  rw [show 110 + i = 100 + (10 + i) by omega, ← hR.2.2.2.2.1 (10 + i)]
  exact k2
theorem me_anew (C : mm_C X cc y lvl mc ms) {n : Nat} {x : Int32} {B c2 s2 : Nat} (e : h2 = mm_new h 18 x.toNatClampNeg) (hd : decode cc pc = .ok (.anewarray n, 3)) (hw : Cond.classLink y.cls n "java/lang/Object" ∈ mm_tb) (hn : ¬ (x < 0) ∧ x.toNatClampNeg ≤ B) (hB2 : B * 8 ≤ 536870912) (hc : cells + 1 = c2) (hc2 : c2 ≤ mc) (hs : slots + B = s2) (hs2 : s2 ≤ ms) (hq : pc + 3 = q) (k : mm_E X h2 c2 s2 q lv (vR (some (mm_sz h)) :: st)) : mm_E X h cells slots pc lv (vI x :: st) := by
  subst hq
  subst hc
  subst hs
  subst e
  obtain ⟨hn, hB⟩ := hn
  intro H locs ls hR hS hl
  refine W.anew C.x C.b C.own (C.ts _ hw) (va_AO.use C.G.2.2.2.2.2.1) rfl hd rfl hn (by omega) (Nat.le_trans hc2 C.rm.2.2.1) (Nat.le_trans (Nat.add_le_add_left hB _) (Nat.le_trans hs2 C.rm.2.2.2)) fun cA kA comp f1 f2 f3 f4 => ?_
  obtain ⟨kA', comp', g1, g2, g3, g4⟩ := (C.K.2 4 _ rfl).2
  have ec : cA = (mx_cy X) 18 := Option.some.inj (f1.symm.trans g4)
  subst ec
  generalize hH1 : H.push ({ cls := (mx_cy X) 18, slots := Array.replicate x.toNatClampNeg .null, vm := .none } : Cell) = H1
  have hz : H1.size = H.size + 1 := by rw [← hH1, Array.size_push]
  have e1 : H1[H.size]? = some (arrV ((mx_cy X) 18) x.toNatClampNeg (fun _ => .null)) := by rw [← hH1, Array.getElem?_push_size, ← arrV_new]
  have ho : ∀ q : Nat, q < H.size → H1[q]? = H[q]? := fun q hq => by rw [← hH1, Array.getElem?_push, if_neg (Nat.ne_of_lt hq)]
  have hsz : H.size = mm_sz h := hR.1
  rw [hsz]
  refine W.widen (Nat.le_refl _) (Nat.add_le_add_left hB _) (k H1 locs ls (hR.new (by decide) ⟨fun z => ?_, fun _ => ?_⟩ hz ho) ⟨Nat.le_trans hS.1 (by omega), fun x h1 h2 => (ho x (Nat.lt_of_lt_of_le h1 hS.1)).trans (hS.2.1 x h1 h2), hS.2.2⟩ hl)
  · rw [mm_kd_new] at z
    omega
  · rw [mm_kd_new, mm_n_new, ← hsz, e1]
    congr 2
    funext j
    rw [hsz, mm_V_new]
    rfl
theorem mm_asg (C : mm_C X cc y lvl mc ms) {D : va_G} {H : Heap} {h : mm_H} (hR : mm_R (mx_D X) (mx_cy X) (mx_Hs X) h H) {v : Nat} (hv : mm_kd h v < 14) : ∃ (cell : Cell) (comp : ClassId) (kC kE : Class), H[v]? = some cell ∧ cell.vm = .none ∧ (mx_s X).vm.classes[cell.cls]? = some kC ∧ (mx_s X).vm.findClass "java/lang/Object" = some comp ∧ (mx_s X).vm.classes[comp]? = some kE ∧ (mx_s X).vm.assignable cell.cls comp = true := by
  obtain ⟨cell, q1, q2, q3, q4⟩ := (hR.ob (a := v) (by omega)).1.1 hv
  have hl : mm_kd h v < vwCl.length := hv
  obtain ⟨hSl, hfc, kC0, hkC0, hkind⟩ := C.K.1 (mm_kd h v) _ (List.getElem?_eq_getElem hl)
  obtain ⟨c0, t1, f1, f2, f3⟩ := Cond.castable_spec (va_Nw.use (A := #[]) rfl (C.G.2.2.2.2.2.2.2.1 (mm_kd h v) _ (List.getElem?_eq_getElem hl)))
  cases hfc.symm.trans f1
  obtain ⟨kE, hkE, -⟩ := Vm.findClass_spec f2
  exact ⟨cell, t1, kC0, kE, q1, q3, by rw [q2]; exact hkC0, f2, hkE, by rw [q2]; exact f3⟩
theorem me_aast (C : mm_C X cc y lvl mc ms) {o ov : Option Nat} {a v : Nat} {i : Int32} (e : h2 = mm_setR h a i.toNatClampNeg (some v)) (hd : decode cc pc = .ok (.aastore, 1)) (ho : o = some a) (hov : ov = some v) (hk : mm_kd h a = 18) (hkv : mm_kd h v < 14) (hlo : 0 < mm_n h a) (hi : mm_ix i (mm_n h a)) (hq : pc + 1 = q) (k : mm_E X h2 cells slots q lv st) : mm_E X h cells slots pc lv (vR ov :: vI i :: vR o :: st) := by
  subst hq
  subst ho
  subst hov
  subst e
  intro H locs ls hR hS hl
  obtain ⟨cell, comp, kC, kE, q1, q2, q3, q4, q5, q6⟩ := mm_asg (D := mx_D X) C hR hkv
  obtain ⟨kA, comp', g1, g2, g3, g4⟩ := (C.K.2 4 _ rfl).2
  cases q4.symm.trans g3
  have hlo2 : (mx_Hs X).size ≤ a := (hR.arr18 hk hlo).2
  have h0 : ¬ i < 0 := fun z => hi (Or.inl z)
  refine W.aast C.x C.b (hR.arr18 hk hlo).1 (fun q h => by cases h) (fun h => by cases h) g1 g2 rfl q5 ⟨h0, by rw [arrV_size]; exact hi.lt⟩ q1 (fun q z => by rw [q2] at z; cases z) q3 q6 rfl rfl hd fun H1 e z oq => ?_
  exact k H1 _ ls (hR.ast hk (by decide) hlo2 rfl rfl rfl rfl (mm_V_setR (by rw [hk]; rfl)) e z oq) (hS.put z oq hlo2) hl
def mm_cw (own : String) (n : Nat) : Prop := Cond.methodLink own n arraycopyName ∈ mm_tb ∧ Cond.native arraycopyName ∈ mm_tb ∧ Cond.static arraycopyName ∈ mm_tb ∧ Cond.initialized "java/lang/System" ∈ mm_tb
/-- both stretches lie within their arrays -/
def mm_cr (sp dp n : Int32) (n0 n1 : Nat) : Prop := ¬ sp < 0 ∧ ¬ dp < 0 ∧ ¬ n < 0 ∧ sp.toNatClampNeg + n.toNatClampNeg ≤ n0 ∧ dp.toNatClampNeg + n.toNatClampNeg ≤ n1
theorem me_cpI (C : mm_C X cc y lvl mc ms) {o0 o : Option Nat} {a0 a n : Nat} {sp dp x : Int32} (e : h2 = mm_cpI h a0 sp.toNatClampNeg a dp.toNatClampNeg x.toNatClampNeg) (hd : decode cc pc = .ok (.invokestatic n, 3)) (hw : mm_cw y.cls n) (ho0 : o0 = some a0) (ho : o = some a) (hk0 : mm_kd h a0 = 14) (hk : mm_kd h a = 14) (hr : mm_cr sp dp x (mm_n h a0) (mm_n h a)) (hcat : Nat.ble (st.map mm_ct).sum 8 = true) (hlv : 1 ≤ lvl) (hq : pc + 3 = q) (k : mm_E X h2 cells slots q lv st) : mm_E X h cells slots pc lv (vI x :: vI dp :: vR o :: vI sp :: vR o0 :: st) := by
  subst hq
  subst ho
  subst ho0
  subst e
  intro H locs ls hR hS hl
  obtain ⟨w1, w2, w3, w4⟩ := hw
  obtain ⟨r1, r2, r3, r4, r5⟩ := hr
  obtain ⟨-, kA, hkA, comp, hkk⟩ := (C.K.2 0 _ rfl).1 0 (fun _ => .int 0)
  have h8 := C.rm
  have h9 : (List.map (fun v => v.category) (List.map mm_vv st)).sum ≤ 8 := by rw [mm_cats]; exact Nat.le_of_ble_eq_true hcat
  have hlo := hR.lo hk (by decide)
  have hz : nativeFrameWords "java/lang/System" "arraycopy" 5 ≤ 30 := by decide
  have h10 : (List.map (fun v => v.category) (List.map mm_vv st)).sum + (nativeFrameWords "java/lang/System" "arraycopy" 5 + 11) ≤ (mx_R X).locals := by omega
  refine mm_acopy C.x C.b (by rw [C.ml]; exact hl.1.symm) C.own (C.ts _ w1) (C.ts _ w2) (C.ts _ w3) (C.ts _ w4) (hR.arr hk0 (by decide) (by decide)) (hR.arr hk (by decide) (by decide)) hkA hkk r1 r2 r3 r4 r5 (fun T hT vm' hal i hi => ?_) (Nat.le_trans hlv h8.1) h10 hd fun H1 L e z oq hL => ?_
  · have e : mm_V h a0 (sp.toNatClampNeg + i) = .int (mm_i h a0 (sp.toNatClampNeg + i)) := by unfold mm_V; rw [hk0]; rfl
    rw [e]
    exact ⟨rfl, trivial⟩
  · refine k H1 _ ls (hR.cp hk (by decide) hlo rfl rfl rfl rfl (fun b j => ?_) e z oq) ⟨by rw [z]; exact hS.1, fun q g1 g2 => ?_, fun q hq => ?_⟩ hl
    · by_cases hb : b = a
      · subst hb
        rw [if_pos rfl]
        unfold mm_V
        show mm_val (mm_ty (mm_kd h b) j) (mm_cpI h a0 _ b _ _) b j = _
        rw [hk]
        show Value.int (if b = b then _ else _) = _
        rw [if_pos rfl]
        unfold va_cpy
        split
        · rw [hk0]; rfl
        · rfl
      · rw [if_neg hb]
        unfold mm_V
        show mm_val (mm_ty (mm_kd h b) j) (mm_cpI h a0 _ a _ _) b j = _
        generalize mm_ty (mm_kd h b) j = t
        match t with
        | 0 => show Value.int (if b = a then _ else _) = _; rw [if_neg hb]; rfl
        | 1 => rfl
        | (_ + 2) => rfl
    · rw [oq q (fun e => g2 (by rw [e]; exact hlo))]
      exact hS.2.1 q g1 g2
    · rcases List.mem_append.mp hq with z | z
      · exact hS.2.2 q z
      · show (mx_Hs X).size ≤ q.base
        rw [hL q z]; exact hlo
theorem me_cpR (C : mm_C X cc y lvl mc ms) {o0 o : Option Nat} {a0 a n : Nat} {sp dp x : Int32} (e : h2 = mm_cpR h a0 sp.toNatClampNeg a dp.toNatClampNeg x.toNatClampNeg) (hd : decode cc pc = .ok (.invokestatic n, 3)) (hw : mm_cw y.cls n) (ho0 : o0 = some a0) (ho : o = some a) (hk0 : mm_kd h a0 = 18) (hk : mm_kd h a = 18) (hlo : 0 < mm_n h a) (hlo0 : 0 < mm_n h a0) (hr : mm_cr sp dp x (mm_n h a0) (mm_n h a)) (hel : ∀ i, i < x.toNatClampNeg → ∀ v, mm_r h a0 (sp.toNatClampNeg + i) = some v → mm_kd h v < 14) (hcat : Nat.ble (st.map mm_ct).sum 8 = true) (hlv : 1 ≤ lvl) (hq : pc + 3 = q) (k : mm_E X h2 cells slots q lv st) : mm_E X h cells slots pc lv (vI x :: vI dp :: vR o :: vI sp :: vR o0 :: st) := by
  subst hq
  subst ho
  subst ho0
  subst e
  intro H locs ls hR hS hl
  obtain ⟨w1, w2, w3, w4⟩ := hw
  obtain ⟨r1, r2, r3, r4, r5⟩ := hr
  obtain ⟨-, kA, hkA, comp, hkk⟩ := (C.K.2 4 _ rfl).1 0 (fun _ => .null)
  obtain ⟨kA', comp', g1, g2, g3, g4⟩ := (C.K.2 4 _ rfl).2
  have h8 := C.rm
  have h9 : (List.map (fun v => v.category) (List.map mm_vv st)).sum ≤ 8 := by rw [mm_cats]; exact Nat.le_of_ble_eq_true hcat
  have hlo2 : (mx_Hs X).size ≤ a := (hR.arr18 hk hlo).2
  have hz : nativeFrameWords "java/lang/System" "arraycopy" 5 ≤ 30 := by decide
  have h10 : (List.map (fun v => v.category) (List.map mm_vv st)).sum + (nativeFrameWords "java/lang/System" "arraycopy" 5 + 11) ≤ (mx_R X).locals := by omega
  refine mm_acopy C.x C.b (by rw [C.ml]; exact hl.1.symm) C.own (C.ts _ w1) (C.ts _ w2) (C.ts _ w3) (C.ts _ w4) (hR.arr18 hk0 hlo0).1 (hR.arr18 hk hlo).1 g1 g2 r1 r2 r3 r4 r5 (fun T hT vm' hal i hi => ?_) (Nat.le_trans hlv h8.1) h10 hd fun H1 L e z oq hL => ?_
  · have e : mm_V h a0 (sp.toNatClampNeg + i) = va_rf (mm_r h a0 (sp.toNatClampNeg + i)) := by unfold mm_V; rw [hk0]; rfl
    rw [e]
    cases hy : mm_r h a0 (sp.toNatClampNeg + i) with
    | none => exact ⟨rfl, trivial⟩
    | some v =>
      obtain ⟨cell, comp2, kC, kE, q1, q2, q3, q4, q5, q6⟩ := mm_asg (D := mx_D X) C hR (hel i hi v hy)
      cases q4.symm.trans g3
      obtain ⟨kC', hkC', -⟩ := hal.2.2 _ _ q3
      obtain ⟨kE', hkE', -⟩ := hal.2.2 _ _ q5
      refine ⟨rfl, cell, (show T.heap[v]? = some cell by rw [hT]; exact q1), (fun q h => by rw [q2] at h; cases h), ⟨kC', hkC'⟩, ⟨kE', hkE'⟩, ?_⟩
      show vm'.assignable _ _ = true
      rw [hal.assignable]
      exact q6
  · refine k H1 _ ls (hR.cp hk (by decide) hlo2 rfl rfl rfl rfl (fun b j => ?_) e z oq) ⟨by rw [z]; exact hS.1, fun q g1 g2 => ?_, fun q hq => ?_⟩ hl
    · by_cases hb : b = a
      · subst hb
        rw [if_pos rfl]
        unfold mm_V
        show mm_val (mm_ty (mm_kd h b) j) (mm_cpR h a0 _ b _ _) b j = _
        rw [hk]
        show va_rf (if b = b then _ else _) = _
        rw [if_pos rfl]
        unfold va_cpy
        split
        · rw [hk0]; rfl
        · rfl
      · rw [if_neg hb]
        unfold mm_V
        show mm_val (mm_ty (mm_kd h b) j) (mm_cpR h a0 _ a _ _) b j = _
        generalize mm_ty (mm_kd h b) j = t
        match t with
        | 0 => rfl
        | 1 => rfl
        | (_ + 2) => show va_rf (if b = a then _ else _) = _; rw [if_neg hb]; rfl
    · rw [oq q (fun e => g2 (by rw [e]; exact hlo2))]
      exact hS.2.1 q g1 g2
    · rcases List.mem_append.mp hq with z | z
      · exact hS.2.2 q z
      · show (mx_Hs X).size ≤ q.base
        rw [hL q z]; exact hlo2
def mm_gcw (own : String) (n : Nat) : Prop := Cond.methodLink own n ⟨"java/lang/Object", "getClass", "()Ljava/lang/Class;"⟩ ∈ mm_tb ∧ Cond.selects "[Ljava/lang/Object;" ⟨"java/lang/Object", "getClass", "()Ljava/lang/Class;"⟩ ⟨"java/lang/Object", "getClass", "()Ljava/lang/Class;"⟩ ∈ mm_tb ∧ Cond.instanceMethod ⟨"java/lang/Object", "getClass", "()Ljava/lang/Class;"⟩ ∈ mm_tb ∧ Cond.native ⟨"java/lang/Object", "getClass", "()Ljava/lang/Class;"⟩ ∈ mm_tb
theorem me_getC (C : mm_C X cc y lvl mc ms) {n : Nat} {o : Option Nat} {a : Nat} (hd : decode cc pc = .ok (.invokevirtual n, 3)) (hw : mm_gcw y.cls n) (ho : o = some a) (hk : mm_kd h a = 18) (hlo : 0 < mm_n h a) (hcat : Nat.ble (st.map mm_ct).sum 8 = true) (hlv : 1 ≤ lvl) (hq : pc + 3 = q) (k : mm_E X h cells slots q lv (vR (some (mm_c h 1)) :: st)) : mm_E X h cells slots pc lv (vR o :: st) := by
  subst hq
  subst ho
  intro H locs ls hR hS hl
  have k2 := k H locs ls hR hS hl
  have h8 := C.rm
  have h9 : (List.map (fun v => v.category) (List.map mm_vv st)).sum ≤ 8 := by rw [mm_cats]; exact Nat.le_of_ble_eq_true hcat
  obtain ⟨kA', comp', g1, g2, g3, g4⟩ := (C.K.2 4 _ rfl).2
  obtain ⟨w1, w2, w3, w4⟩ := hw
  refine va_getC C.x C.b (by rw [C.ml]; exact hl.1.symm) C.own (C.ts _ w1) (va_Dc.use C.G.2.2.2.2.1) (C.ts _ w2) (C.ts _ w3) (C.ts _ w4) C.G.2.2.2.1 ⟨_, (hR.arr18 hk hlo).1, rfl, g4⟩ (Nat.le_trans hlv h8.1) (by omega) hd ?_
  rw [← hR.2.2.2.2.1 1]
  exact k2
/-- the text i's coder and value -/
theorem me_strC (C : mm_C X cc y lvl mc ms) {n : Nat} {o : Option Nat} {a : Nat} (hd : decode cc pc = .ok (.getfield n, 3)) (hw : Cond.fieldLink y.cls n "java/lang/String" "coder" "B" ∈ mm_tb) (ho : o = some a) (hk : 20 ≤ mm_kd h a ∧ mm_kd h a < 42) (hq : pc + 3 = q) (k : mm_E X h cells slots q lv (vI 0 :: st)) : mm_E X h cells slots pc lv (vR o :: st) := by
  subst hq
  subst ho
  intro H locs ls hR hS hl
  have e := hR.2.2.2.2.2.1 a hk.1 hk.2
  rw [hR.2.2.2.2.1] at e
  obtain ⟨cf, k0, fi, f, cell, h1, h2, h3, h4, h5, h6⟩ := (C.G.2.2.2.2.2.2.2.2.1.1 (mm_kd h a - 20) (by omega)).2.1.kept (fun b hb _ => hR.2.2.1 b hb)
  have e2 : mx_cy X (110 + (mm_kd h a - 20)) = a := by
    rw [show 110 + (mm_kd h a - 20) = 100 + (10 + (mm_kd h a - 20)) by omega]
    exact e.symm
  replace h3 : H[mx_cy X (110 + (mm_kd h a - 20))]? = some cell := h3
  rw [e2] at h3
  exact W.getf C.x C.b C.own (C.ts _ hw) h1 h2 h3 h4 (v := .int 0) h5 rfl rfl hd (k H locs ls hR hS hl)
theorem me_strV (C : mm_C X cc y lvl mc ms) {n : Nat} {o : Option Nat} {a : Nat} (hd : decode cc pc = .ok (.getfield n, 3)) (hw : Cond.fieldLink y.cls n "java/lang/String" "value" "[B" ∈ mm_tb) (ho : o = some a) (hk : 20 ≤ mm_kd h a ∧ mm_kd h a < 42) (hq : pc + 3 = q) (k : mm_E X h cells slots q lv (vR (some (mm_c h (40 + (mm_kd h a - 20)))) :: st)) : mm_E X h cells slots pc lv (vR o :: st) := by
  subst hq
  subst ho
  intro H locs ls hR hS hl
  have k2 := k H locs ls hR hS hl
  have e := hR.2.2.2.2.2.1 a hk.1 hk.2
  rw [hR.2.2.2.2.1] at e
  obtain ⟨cf, k0, fi, f, cell, h1, h2, h3, h4, h5, h6⟩ := (C.G.2.2.2.2.2.2.2.2.1.1 (mm_kd h a - 20) (by omega)).2.2.1.kept (fun b hb _ => hR.2.2.1 b hb)
  have e2 : mx_cy X (110 + (mm_kd h a - 20)) = a := by
    rw [show 110 + (mm_kd h a - 20) = 100 + (10 + (mm_kd h a - 20)) by omega]
    exact e.symm
  replace h3 : H[mx_cy X (110 + (mm_kd h a - 20))]? = some cell := h3
  rw [e2] at h3
  have e5 : mx_cy X (140 + (mm_kd h a - 20)) = mm_c h (40 + (mm_kd h a - 20)) := by
    rw [show 140 + (mm_kd h a - 20) = 100 + (40 + (mm_kd h a - 20)) by omega]
    exact (hR.2.2.2.2.1 _).symm
  replace h5 : cell.slots[f.slot]? = some (.ref (mx_cy X (140 + (mm_kd h a - 20)))) := h5
  rw [e5] at h5
  exact W.getf C.x C.b C.own (C.ts _ hw) h1 h2 h3 h4 (v := .ref (mm_c h (40 + (mm_kd h a - 20)))) h5 rfl rfl hd k2
def mm_sb (k : Nat) (j : Nat) : Int32 := (mm_byt.getD k []).getD j 0
def mm_sl (k : Nat) : Nat := mm_len.getD k 0
/-- which text's bytes lie at u -/
def mm_fb (h : mm_H) (u : Nat) : Option Nat := (List.range 22).find? (fun i => mm_c h (40 + i) == u)
theorem mm_fb_ok {h : mm_H} {u i : Nat} (e : mm_fb h u = some i) : i < 22 ∧ mm_c h (40 + i) = u := by
  unfold mm_fb at e
  have h1 := List.mem_of_find?_eq_some e
  have h2 := List.find?_some e
  exact ⟨List.mem_range.mp h1, by simpa using h2⟩
theorem me_sbald (C : mm_C X cc y lvl mc ms) {o : Option Nat} {a w : Nat} {i : Int32} (hd : decode cc pc = .ok (.baload, 1)) (ho : o = some a) (hw : mm_fb h a = some w) (hi : mm_ix i (mm_sl w)) (hq : pc + 1 = q) (k : mm_E X h cells slots q lv (vI (mm_sb w i.toNatClampNeg) :: st)) : mm_E X h cells slots pc lv (vI i :: vR o :: st) := by
  subst hq
  subst ho
  intro H locs ls hR hS hl
  obtain ⟨w1, w2⟩ := mm_fb_ok hw
  rw [hR.2.2.2.2.1] at w2
  obtain ⟨cell, h1, h2, h3, h4, h5, h6, h7⟩ := (C.G.2.2.2.2.2.2.2.2.1.1 w w1).2.2.2.kept (fun b hb _ => hR.2.2.1 b hb)
  have e2 : mx_cy X (140 + w) = a := by
    rw [show 140 + w = 100 + (40 + w) by omega]
    exact w2
  replace h1 : H[mx_cy X (140 + w)]? = some cell := h1
  rw [e2] at h1
  refine W.bald C.x C.b h1 h2 h3 (fun z => ?_) (h6 _ hi.lt) rfl rfl hd (k H locs ls hR hS hl)
  rcases z with z | z
  · exact hi (Or.inl z)
  · exact absurd (Nat.lt_of_lt_of_le hi.lt h4) (by omega)
theorem me_salen (C : mm_C X cc y lvl mc ms) {o : Option Nat} {a w : Nat} (hd : decode cc pc = .ok (.arraylength, 1)) (ho : o = some a) (hw : mm_fb h a = some w) (hq : pc + 1 = q) (k : mm_E X h cells slots q lv (vI (nI (mm_sl w)) :: st)) : mm_E X h cells slots pc lv (vR o :: st) := by
  subst hq
  subst ho
  intro H locs ls hR hS hl
  obtain ⟨w1, w2⟩ := mm_fb_ok hw
  rw [hR.2.2.2.2.1] at w2
  obtain ⟨cell, h1, h2, h3, h4, h5, h6, h7⟩ := (C.G.2.2.2.2.2.2.2.2.1.1 w w1).2.2.2.kept (fun b hb _ => hR.2.2.1 b hb)
  have e2 : mx_cy X (140 + w) = a := by
    rw [show 140 + w = 100 + (40 + w) by omega]
    exact w2
  replace h1 : H[mx_cy X (140 + w)]? = some cell := h1
  rw [e2] at h1
  exact W.alen C.x C.b h1 h2 (by rw [h5]; rfl) rfl rfl hd (k H locs ls hR hS hl)
end M8
section MU
variable {X : mm_X} {cc : ByteArray} {y : MethodName} {lvl mc ms : Nat} {h : mm_H} {cells slots pc q : Nat} {lv : List (Option mm_W)} {st : List mm_W}
variable {n : Nat} {y2 : MethodName} {code2 : ByteArray} {maxL2 : Nat} {ret2 : Option FieldType} {lvl2 mc2 ms2 : Nat} {av : List mm_W} {ro : Option mm_W} {h1 : mm_H} {np : Nat} {c2 s2 : Nat}
/-- a call on a text -/
theorem me_callT (C : mm_C X cc y lvl mc ms) {b : Nat} {o : Option Nat} (hM : mm_M (mx_l X) y2 code2 maxL2 ret2 lvl2 mc2 ms2 (vR (some b) :: av) h ro h1) (ht : mm_tg y.cls n y2 code2 maxL2 ret2 np) (hs : Cond.instanceMethod y2 ∈ mm_tb ∧ Cond.selects "java/lang/String" y2 y2 ∈ mm_tb) (hd : decode cc pc = .ok (.invokevirtual n, 3)) (ho : o = some b) (hk : 20 ≤ mm_kd h b ∧ mm_kd h b < 42) {st1 : List mm_W} (hst : av.reverse ++ vR o :: st = st1) (hn : av.length = np) (hcat : Nat.ble (st.map mm_ct).sum 8 = true) (hlv : lvl2 + 1 ≤ lvl) (hc : cells + mc2 = c2) (hc2 : c2 ≤ mc) (hsl : slots + ms2 = s2) (hs2 : s2 ≤ ms) (hq : pc + 3 = q) {st3 : List mm_W} (hro : ro.toList ++ st = st3) (k : mm_E X h1 c2 s2 q lv st3) : mm_E X h cells slots pc lv st1 := by
  subst hq
  subst hc
  subst hsl
  subst hst
  subst hro
  subst ho
  intro H locs ls hR hS hl
  obtain ⟨t1, t2, t3, t4, t5⟩ := ht
  have e := hR.2.2.2.2.2.1 b hk.1 hk.2
  rw [hR.2.2.2.2.1] at e
  obtain ⟨cell, q1, q2, q3, -⟩ := (C.G.2.2.2.2.2.2.2.2.1.1 (mm_kd h b - 20) (by omega)).1.kept (fun b hb _ => hR.2.2.1 b hb)
  have e2 : mx_cy X (110 + (mm_kd h b - 20)) = b := by
    rw [show 110 + (mm_kd h b - 20) = 100 + (10 + (mm_kd h b - 20)) by omega]
    exact e.symm
  replace q1 : H[mx_cy X (110 + (mm_kd h b - 20))]? = some cell := q1
  rw [e2] at q1
  have hr := va_runV (l := mx_l X) (e := mx_e X) (R := mx_R X) (below := mx_b X) (meth := mx_me X) (H := H) (locs := locs) (cells := cells) (slots := slots) (C := "java/lang/String") (b := b) (g := F0 (mx_m X) pc ls (((av.reverse ++ vR (some b) :: st)).map mm_vv)) (As := av.map mm_vv) (rest := st.map mm_vv) ⟨C.x, C.b, C.ml, C.own, C.ts⟩ (hM (mx_D X) (mx_cy X) (mx_Hs X))
    ⟨callB_of (maxL := maxL2) np C.ts (mm_goodIn t2) rfl rfl rfl (C.ts _ t3) (C.ts _ t1) t4 ⟨Nat.le_trans hlv C.rm.1, by have := C.rm.2.1; show 8 + (maxL2 + 11) + 64 * lvl2 ≤ _; omega⟩, C.ts _ hs.1, C.ts _ hs.2⟩ ⟨mm_blind, ⟨cell, q1, q2, q3⟩, fun U hU hW => ⟨rfl, by rw [hU]; exact hR, va_K.moved hW.alike C.K, mm_G.warm hW C.G⟩⟩ rfl (by rw [List.length_map]; exact hn) hl.1 (by simp [mm_vv, va_rf]) (lv_room (by rw [mm_cats]; exact Nat.le_of_ble_eq_true hcat)) hd ⟨Nat.le_trans hc2 C.rm.2.2.1, Nat.le_trans hs2 C.rm.2.2.2⟩
  exact mm_goes C hr hS hl k
end MU
def mm_elb (h : mm_H) (a sp n : Nat) : Bool := (List.range n).all (fun i => match mm_r h a (sp + i) with
  | none => true
  | some v => Nat.blt (mm_kd h v) 14)
abbrev mm_el (h : mm_H) (a sp n : Nat) : Prop := mm_elb h a sp n = true
theorem mm_el_ok {h : mm_H} {a sp n : Nat} (e : mm_el h a sp n) : ∀ i, i < n → ∀ v, mm_r h a (sp + i) = some v → mm_kd h v < 14 := by
  intro i hi v hv
  have h1 := List.all_eq_true.mp e i (List.mem_range.mpr hi)
  rw [hv] at h1
  simp [Nat.blt] at h1
  omega
theorem mm_kcI {h h2 : mm_H} {a0 sp a dp n b c : Nat} (e : h2 = mm_cpI h a0 sp a dp n) (hk : mm_kd h b = c) : mm_kd h2 b = c := by subst e; exact hk
theorem mm_kcR {h h2 : mm_H} {a0 sp a dp n b c : Nat} (e : h2 = mm_cpR h a0 sp a dp n) (hk : mm_kd h b = c) : mm_kd h2 b = c := by subst e; exact hk
/-- new int[2][10] -/
def mm_mul (h : mm_H) : mm_H := mm_setR (mm_new (mm_setR (mm_new (mm_new h 19 2) 14 10) (mm_sz h) 0 (some (mm_sz h + 1))) 14 10) (mm_sz h) 1 (some (mm_sz h + 2))
section ML
variable {X : mm_X} {cc : ByteArray} {y : MethodName} {lvl mc ms : Nat} {h h2 : mm_H} {cells slots pc q : Nat} {lv : List (Option mm_W)} {st : List mm_W}
theorem me_ldc_wS (C : mm_C X cc y lvl mc ms) {n i : Nat} {tx : String} (hd : decode cc pc = .ok (.ldc_w n, 3)) (hi : mm_lit[i]? = some (y.cls, n, tx)) (hq : pc + 3 = q) (k : mm_E X h cells slots q lv (vR (some (mm_c h (10 + i))) :: st)) : mm_E X h cells slots pc lv st := by
  subst hq
  intro H locs ls hR hS hl
  have k2 := k H locs ls hR hS hl
  rw [hR.2.2.2.2.1 (10 + i), show 100 + (10 + i) = 110 + i by omega] at k2
  have hZ := C.G.2.2.2.2.2.2.2.2.2 i _ hi
  obtain ⟨k0, cf, i0, a', hk, hcf, hcp, -, hr, hev'⟩ := Cond.stringRef_spec C.own hZ.1
  cases hZ.2.symm.trans hev'
  intro T hT XS
  obtain ⟨t, a1, b1⟩ := k2 T hT XS
  obtain ⟨k', hk', he⟩ := XS.warmed.alike.2.2 _ _ hk
  have hr' : k'.resolved[n]? = some (some (.string (mx_cy X (110 + i)))) := by
    rcases XS.warmed.entry hk hk' n with h | ⟨h, -⟩
    · rw [h]; exact hr
    · rw [hr] at h; cases h
  refine ⟨t, ?_, b1⟩
  have hx := C.x
  have hb := C.b
  jvm_step XS.here [hx, hb, hd, ldc_w.wp_string (e := mx_e X) (s := T) (f := F0 (mx_m X) pc ls (st.map mm_vv)) XS.here.top hk' (by rw [he]; exact hcf) hcp hr']
  exact a1
theorem me_nret (C : mm_C X cc y lvl mc ms) {v : Int32} {ty : FieldType} {m2 s2 : Nat} {h1 : mm_H} {ret : Option FieldType} {ro : Option mm_W} (hE : mm_End X m2 s2 ret ro h1) (hc : cells ≤ m2) (hs : slots ≤ s2) (hr : ret = some ty) (hv : narrow ty (.int v) = .int v) (hd : decode cc pc = .ok (.ireturn, 1)) (he : ro = some (vI v) ∧ h1 = h) : mm_E X h cells slots pc lv [vI v] := by
  intro H locs ls hR hS hl
  obtain ⟨rfl, rfl⟩ := he
  obtain ⟨e1, e2⟩ := hE
  refine W.widen hc hs ?_
  rw [e1]
  exact W.zret (ty := ty) C.x C.b (e2.trans hr) hv (fun t ht _ => ⟨rfl, by rw [ht]; exact hR, hS.F ht⟩) hS.2.2 hd C.lk
end ML
