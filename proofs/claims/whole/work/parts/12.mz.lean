/-! new int[2][10], step by step -/
def mm_oc (c : ClassId) : Cell := { cls := c, slots := Array.replicate 2 .null, vm := .none }
def mm_ic (c : ClassId) : Cell := { cls := c, slots := Array.replicate 10 (.int 0), vm := .none }
def mm_fl1 (s : State) (cA cI : ClassId) : State := ((s.pushCell (mm_oc cA)).pushCell (mm_ic cI)).setCell s.heap.size ((mm_oc cA).setSlot 0 (.ref (s.heap.size + 1)))
def mm_fl2 (s : State) (cA cI : ClassId) : State := ((mm_fl1 s cA cI).pushCell (mm_ic cI)).setCell s.heap.size (((mm_oc cA).setSlot 0 (.ref (s.heap.size + 1))).setSlot 1 (.ref (s.heap.size + 2)))
section MUL
variable {E : CtlPost} {e : Env} {d : Bool} {acts : List Action} {s : State}
theorem mm_mk2 {cA cI cc : ClassId} {kA kI : Class} (hkA : s.vm.classes[cA]? = some kA) (hA : kA.kind = .array cI (.array .int)) (hkI : s.vm.classes[cI]? = some kI) (hI : kI.kind = .array cc .int) (hl : ¬ 10 > e.platform.arrayLengthLimit) (hh : ¬ 40 > e.platform.maxHeapBytes) (hc : s.heap.size + 3 ≤ e.platform.maxCells) (hs : s.slotsUsed + 22 ≤ e.platform.maxSlots) {Q : Addr → Pre} (hq : ∀ d' acts', Q s.heap.size d' acts' (mm_fl2 s cA cI)) : wp (Jvm.Op.multianewarray.make cA [2, 10]) Q E e d acts s := by
  have e2 : (2 : Int32).toNatClampNeg = 2 := by decide
  have e10 : (10 : Int32).toNatClampNeg = 10 := by decide
  have n2 : ¬ (2 : Int32) < 0 := by decide
  have n10 : ¬ (10 : Int32) < 0 := by decide
  have z2 : ((2 : Int32) == 0) = false := by decide
  rw [Jvm.Op.multianewarray.make]
  simp only [wp_bind', W.ite, n2, if_false, wp_pure', W.theClass, hkA, hA, Option.some.injEq, exists_eq_left', e2]
  refine W.newArray_of hkA hA (by omega) (by show ¬ 2 * 4 > _; omega) (by omega) (by omega) rfl (fun acts1 => ?_)
  simp only [z2, Bool.false_eq_true, if_false, wp_bind', Std.Legacy.Range.forIn_eq_forIn_range']
  rw [show ([:2] : Std.Legacy.Range).size = 2 from rfl, show List.range' 0 2 1 = [0, 1] from rfl]
  simp only [List.forIn_cons, List.forIn_nil, wp_bind']
  have hz1 : (s.pushCell (mm_oc cA)).heap.size = s.heap.size + 1 := by simp
  have hu1 : (s.pushCell (mm_oc cA)).slotsUsed = s.slotsUsed + 2 := by simp [mm_oc]
  rw [Jvm.Op.multianewarray.make]
  simp only [wp_bind', W.ite, n10, if_false, wp_pure', W.theClass, State.vm_pushCell, hkI, hI, Option.some.injEq, exists_eq_left', e10]
  refine W.newArray_of (k := kI) (comp := cc) (type := .int) hkI hI hl (by show ¬ 10 * 4 > _; omega) (by show (s.pushCell (mm_oc cA)).heap.size < _; omega) (by show (s.pushCell (mm_oc cA)).slotsUsed + 10 ≤ _; omega) rfl (fun acts2 => ?_)
  show wp _ _ E e d acts2 ((s.pushCell (mm_oc cA)).pushCell (mm_ic cI))
  have g0 : ((s.pushCell (mm_oc cA)).pushCell (mm_ic cI)).heap[s.heap.size]? = some (mm_oc cA) := by
    exact (State.heap_pushCell_of_lt (s.pushCell (mm_oc cA)) (mm_ic cI) (show s.heap.size < (s.pushCell (mm_oc cA)).heap.size by rw [hz1]; omega)).trans (by simp)
  simp only [wp_bind', W.writeLoc, wp_pure']
  refine ⟨mm_oc cA, g0, by simp [mm_oc], by simp [mm_oc], ?_, ?_⟩
  · simp [mm_oc, State.fitsSlot, State.slotType?, hkA, hA]
    rfl
  · rw [show (s.pushCell ({ cls := cA, slots := Array.replicate 2 Value.null } : Cell)).heap.size = s.heap.size + 1 from hz1]
    have hS1 : ((s.pushCell (mm_oc cA)).pushCell (mm_ic cI)).setCell s.heap.size ((mm_oc cA).setSlot 0 (.ref (s.heap.size + 1))) = mm_fl1 s cA cI := rfl
    rw [hS1]
    have v1 : (mm_fl1 s cA cI).vm = s.vm := rfl
    have v2 : (mm_fl1 s cA cI).heap.size = s.heap.size + 2 := by rw [← hS1, size_setCell]; simp
    have v3 : (mm_fl1 s cA cI).slotsUsed = s.slotsUsed + 12 := by
      show ((s.pushCell (mm_oc cA)).pushCell (mm_ic cI)).slotsUsed = _
      simp [mm_oc, mm_ic]
    have v4 : (mm_fl1 s cA cI).heap[s.heap.size]? = some ((mm_oc cA).setSlot 0 (.ref (s.heap.size + 1))) := by
      rw [← hS1]
      exact State.heap_setCell_self g0
    simp only [W.theClass, v1, hkI, hI, Option.some.injEq, exists_eq_left']
    refine W.newArray_of (k := kI) (comp := cc) (type := .int) (by rw [v1]; exact hkI) hI hl (by show ¬ 10 * 4 > _; omega) (by omega) (by omega) rfl (fun acts3 => ?_)
    simp only [wp_bind', W.writeLoc, wp_pure']
    have g1 : ((mm_fl1 s cA cI).pushCell (mm_ic cI)).heap[s.heap.size]? = some ((mm_oc cA).setSlot 0 (.ref (s.heap.size + 1))) := by
      exact (State.heap_pushCell_of_lt (mm_fl1 s cA cI) (mm_ic cI) (show s.heap.size < (mm_fl1 s cA cI).heap.size by rw [v2]; omega)).trans v4
    refine ⟨(mm_oc cA).setSlot 0 (.ref (s.heap.size + 1)), g1, by simp [mm_oc, Cell.setSlot], by simp [mm_oc, Cell.setSlot], ?_, ?_⟩
    · simp [mm_oc, Cell.setSlot, State.fitsSlot, State.slotType?, v1, hkA, hA]
      rfl
    · rw [v2]
      exact hq _ _
end MUL
section ML2
variable {X : mm_X} {cc : ByteArray} {y : MethodName} {lvl mc ms : Nat} {h h2 : mm_H} {cells slots pc q : Nat} {lv : List (Option mm_W)} {st : List mm_W}
theorem me_mul (C : mm_C X cc y lvl mc ms) {n c2 s2 : Nat} (e : h2 = mm_mul h) (hd : decode cc pc = .ok (.multianewarray n 2, 4)) (hw : Cond.classLink y.cls n "[[I" ∈ mm_tb) (ha : Cond.arrayClass .int ∈ mm_tb) (hc : cells + 3 = c2) (hc2 : c2 ≤ mc) (hs : slots + 22 = s2) (hs2 : s2 ≤ ms) (hq : pc + 4 = q) (k : mm_E X h2 c2 s2 q lv (vR (some (mm_sz h)) :: st)) : mm_E X h cells slots pc lv (vI 10 :: vI 2 :: st) := by
  subst hq
  subst hc
  subst hs
  subst e
  intro H locs ls hR hS hl T hT XS
  subst hT
  have hpl : (mx_e X).platform.magicAccessors = ({} : Platform).magicAccessors := by rw [XS.admits.platform]
  obtain ⟨comp, cA, kA, hcomp, -, hkA, hkindA, hnameA⟩ := arrayOverA_spec (args := #[]) C.G.2.2.2.2.2.2.1
  obtain ⟨cI, kI, cc0, hcI, hkI, hkindI⟩ := Cond.arrayClass_spec (C.ts _ ha)
  cases hcomp.symm.trans hcI
  obtain ⟨c0, hfc0, hcl⟩ := Cond.classLink_spec C.own (C.ts _ hw) (mx_e X).platform hpl
  cases hnameA.symm.trans hfc0
  obtain ⟨hg₁, hwarm₁, hready₁⟩ := State.classEntry (e := mx_e X) XS.warmed hcl
  generalize T.vm.noted (mx_m X).cls n (.cls cA) = vm₁ at hg₁ hwarm₁ hready₁
  have hal : (mx_s X).vm.Alike vm₁ := hwarm₁.alike
  obtain ⟨kA₁, hkA₁, heA⟩ := hal.2.2 _ _ hkA
  obtain ⟨kI₁, hkI₁, heI⟩ := hal.2.2 _ _ hkI
  have hkindA₁ : kA₁.kind = .array comp (.array .int) := by rw [heA]; exact hkindA
  have hkindI₁ : kI₁.kind = .array cc0 .int := by rw [heI]; exact hkindI
  have X₁ := XS.noted hwarm₁
  have h8 := C.rm
  have hcells : cells + 3 ≤ (mx_R X).cells := Nat.le_trans hc2 h8.2.2.1
  have hslots : slots + 22 ≤ (mx_R X).slots := Nat.le_trans hs2 h8.2.2.2
  obtain ⟨hr1, hr2⟩ := XS.roomAbove hcells hslots
  have o2 : (mm_oc cA).slots.size = 2 := by simp [mm_oc]
  have i10 : (mm_ic comp).slots.size = 10 := by simp [mm_ic]
  have z1 : ((T.setVm vm₁).pushCell (mm_oc cA)).heap.size = T.heap.size + 1 := by simp
  have g0 : (((T.setVm vm₁).pushCell (mm_oc cA)).pushCell (mm_ic comp)).heap[T.heap.size]? = some (mm_oc cA) :=
    (State.heap_pushCell_of_lt ((T.setVm vm₁).pushCell (mm_oc cA)) (mm_ic comp) (show T.heap.size < ((T.setVm vm₁).pushCell (mm_oc cA)).heap.size by rw [z1]; omega)).trans (by simp)
  have X₃ := (((X₁.pushed (mm_oc cA)).pushed (mm_ic comp)).stored g0 0 (.ref (T.heap.size + 1))).pushed (mm_ic comp)
  have v2 : (mm_fl1 (T.setVm vm₁) cA comp).heap.size = T.heap.size + 2 := by
    show ((((T.setVm vm₁).pushCell (mm_oc cA)).pushCell (mm_ic comp)).setCell _ _).heap.size = _
    rw [size_setCell]; simp
  have g1 : ((mm_fl1 (T.setVm vm₁) cA comp).pushCell (mm_ic comp)).heap[T.heap.size]? = some ((mm_oc cA).setSlot 0 (.ref (T.heap.size + 1))) :=
    (State.heap_pushCell_of_lt (mm_fl1 (T.setVm vm₁) cA comp) (mm_ic comp) (show T.heap.size < (mm_fl1 (T.setVm vm₁) cA comp).heap.size by rw [v2]; omega)).trans (State.heap_setCell_self g0)
  have X₄ := X₃.stored g1 1 (.ref (T.heap.size + 2))
  rw [o2, i10] at X₄
  have eA : cA = (mx_cy X) 19 := by
    have := (C.K.2 5 _ rfl).2
    exact Option.some.inj (hnameA.symm.trans this)
  have eI : comp = (mx_cy X) 14 := by
    have := (C.K.2 0 _ rfl).2
    exact Option.some.inj (hcI.symm.trans this)
  have hsz : T.heap.size = mm_sz h := hR.1
  have hlo : (mx_Hs X).size ≤ T.heap.size := hR.2.1
  -- the pure heap, step by step
  have R1 : mm_R (mx_D X) (mx_cy X) (mx_Hs X) (mm_new h 19 2) ((T.setVm vm₁).pushCell (mm_oc cA)).heap := by
    refine hR.new (by decide) ⟨fun z => ?_, fun _ => ?_⟩ z1 (fun q hq => State.heap_pushCell_of_lt (T.setVm vm₁) (mm_oc cA) hq)
    · rw [mm_kd_new] at z; omega
    · rw [mm_kd_new, mm_n_new, ← hsz]
      refine (show ((T.setVm vm₁).pushCell (mm_oc cA)).heap[T.heap.size]? = some (mm_oc cA) by simp).trans ?_
      have hV : mm_V (mm_new h 19 2) T.heap.size = fun _ => .null := by
        funext j
        rw [hsz, mm_V_new]; rfl
      rw [eA, hV]
      exact congrArg some (arrV_new ((mx_cy X) 19) 2 .null)
  have R2 : mm_R (mx_D X) (mx_cy X) (mx_Hs X) (mm_new (mm_new h 19 2) 14 10) (((T.setVm vm₁).pushCell (mm_oc cA)).pushCell (mm_ic comp)).heap := by
    have hs1 : mm_sz (mm_new h 19 2) = T.heap.size + 1 := by rw [hsz]; rfl
    refine R1.new (by decide) ⟨fun z => ?_, fun _ => ?_⟩ (by simp) (fun q hq => State.heap_pushCell_of_lt _ _ hq)
    · rw [mm_kd_new] at z; omega
    · rw [mm_kd_new, mm_n_new, hs1]
      have hV : mm_V (mm_new (mm_new h 19 2) 14 10) (T.heap.size + 1) = fun _ => .int 0 := by
        funext j
        rw [← hs1, mm_V_new]; rfl
      have q1 := State.heap_pushCell_size ((T.setVm vm₁).pushCell (mm_oc cA)) (mm_ic comp)
      rw [z1] at q1
      rw [q1, eI, hV]
      exact congrArg some (arrV_new ((mx_cy X) 14) 10 (.int 0))
  have hs1 : mm_sz (mm_new h 19 2) = T.heap.size + 1 := by rw [hsz]; rfl
  have hs2 : mm_sz (mm_new (mm_new h 19 2) 14 10) = T.heap.size + 2 := by rw [hsz]; rfl
  have k1 : mm_kd (mm_new (mm_new h 19 2) 14 10) T.heap.size = 19 := by
    show (if T.heap.size = mm_sz (mm_new h 19 2) then 14 else mm_kd (mm_new h 19 2) T.heap.size) = 19
    rw [hs1, if_neg (by omega), hsz, mm_kd_new]
  have n1 : mm_n (mm_new (mm_new h 19 2) 14 10) T.heap.size = 2 := by
    show (if T.heap.size = mm_sz (mm_new h 19 2) then 10 else mm_n (mm_new h 19 2) T.heap.size) = 2
    rw [hs1, if_neg (by omega), hsz, mm_n_new]
  have st2 : ∀ (c : ClassId) (N i : Nat) (V : Nat → Value) (v : Value), (arrV c N V).setSlot i v = arrV c N (updV V i v) := fun c N i V v => arrV_store ..
  have R3 : mm_R (mx_D X) (mx_cy X) (mx_Hs X) (mm_setR (mm_new (mm_new h 19 2) 14 10) (mm_sz h) 0 (some (mm_sz h + 1))) (mm_fl1 (T.setVm vm₁) cA comp).heap := by
    refine R2.ast (a := mm_sz h) (i := 0) (v := .ref (T.heap.size + 1)) (ci := 19) (by rw [← hsz]; exact k1) (by decide) (by rw [← hsz]; exact hlo) rfl rfl rfl rfl (fun b j => ?_) ?_ ?_ ?_
    · rw [mm_V_setR (by rw [← hsz, k1]; rfl), hsz]; rfl
    · have e3 := R2.arr19 (a := T.heap.size) k1
      rw [g0] at e3
      rw [← hsz, n1]
      refine (State.heap_setCell_self g0).trans (congrArg some ?_)
      rw [Option.some.inj e3, n1]
      rfl
    · show ((((T.setVm vm₁).pushCell (mm_oc cA)).pushCell (mm_ic comp)).setCell _ _).heap.size = _
      rw [size_setCell]
    · intro q hq
      exact heapAt_setCell_ne _ (fun e => hq (by rw [← hsz]; exact e.symm))
  generalize hp3 : mm_setR (mm_new (mm_new h 19 2) 14 10) (mm_sz h) 0 (some (mm_sz h + 1)) = p3 at R3
  have p3k : mm_kd p3 T.heap.size = 19 := by rw [← hp3]; exact k1
  have p3n : mm_n p3 T.heap.size = 2 := by rw [← hp3]; exact n1
  have p3s : mm_sz p3 = T.heap.size + 2 := by rw [← hp3]; exact hs2
  have R4 : mm_R (mx_D X) (mx_cy X) (mx_Hs X) (mm_new p3 14 10) ((mm_fl1 (T.setVm vm₁) cA comp).pushCell (mm_ic comp)).heap := by
    refine R3.new (by decide) ⟨fun z => ?_, fun _ => ?_⟩ (by simp) (fun q hq => State.heap_pushCell_of_lt _ _ hq)
    · rw [mm_kd_new] at z; omega
    · rw [mm_kd_new, mm_n_new, p3s]
      have hV : mm_V (mm_new p3 14 10) (T.heap.size + 2) = fun _ => .int 0 := by
        funext j
        rw [← p3s, mm_V_new]; rfl
      have q1 := State.heap_pushCell_size (mm_fl1 (T.setVm vm₁) cA comp) (mm_ic comp)
      rw [v2] at q1
      rw [q1, eI, hV]
      exact congrArg some (arrV_new ((mx_cy X) 14) 10 (.int 0))
  have k4 : mm_kd (mm_new p3 14 10) T.heap.size = 19 := by
    show (if T.heap.size = mm_sz p3 then 14 else mm_kd p3 T.heap.size) = 19
    rw [p3s, if_neg (by omega), p3k]
  have n4 : mm_n (mm_new p3 14 10) T.heap.size = 2 := by
    show (if T.heap.size = mm_sz p3 then 10 else mm_n p3 T.heap.size) = 2
    rw [p3s, if_neg (by omega), p3n]
  have R5 : mm_R (mx_D X) (mx_cy X) (mx_Hs X) (mm_setR (mm_new p3 14 10) (mm_sz h) 1 (some (mm_sz h + 2))) (mm_fl2 (T.setVm vm₁) cA comp).heap := by
    refine R4.ast (a := mm_sz h) (i := 1) (v := .ref (T.heap.size + 2)) (ci := 19) (by rw [← hsz]; exact k4) (by decide) (by rw [← hsz]; exact hlo) rfl rfl rfl rfl (fun b j => ?_) ?_ ?_ ?_
    · rw [mm_V_setR (by rw [← hsz, k4]; rfl), hsz]; rfl
    · have e3 := R4.arr19 (a := T.heap.size) k4
      rw [g1] at e3
      rw [← hsz, n4]
      refine (State.heap_setCell_self g1).trans (congrArg some ?_)
      have e4 : (mm_oc cA).setSlot 0 (.ref ((T.setVm vm₁).heap.size + 1)) = _ := Option.some.inj e3
      rw [e4, n4]
      rfl
    · show (((mm_fl1 (T.setVm vm₁) cA comp).pushCell (mm_ic comp)).setCell _ _).heap.size = _
      rw [size_setCell]
    · intro q hq
      exact heapAt_setCell_ne _ (fun e => hq (by rw [← hsz]; exact e.symm))
  have eh : mm_mul h = mm_setR (mm_new p3 14 10) (mm_sz h) 1 (some (mm_sz h + 2)) := by rw [← hp3]; rfl
  rw [eh] at k
  have hfin : ∀ q : Nat, q < T.heap.size → (mm_fl2 (T.setVm vm₁) cA comp).heap[q]? = T.heap[q]? := fun q hq => by
    have w1 : (mm_fl2 (T.setVm vm₁) cA comp).heap[q]? = ((mm_fl1 (T.setVm vm₁) cA comp).pushCell (mm_ic comp)).heap[q]? := heapAt_setCell_ne _ (fun e => absurd e (by show ¬ T.heap.size = q; omega))
    have w2 : ((mm_fl1 (T.setVm vm₁) cA comp).pushCell (mm_ic comp)).heap[q]? = (mm_fl1 (T.setVm vm₁) cA comp).heap[q]? := State.heap_pushCell_of_lt _ _ (show q < (mm_fl1 (T.setVm vm₁) cA comp).heap.size by rw [v2]; omega)
    have w3 : (mm_fl1 (T.setVm vm₁) cA comp).heap[q]? = (((T.setVm vm₁).pushCell (mm_oc cA)).pushCell (mm_ic comp)).heap[q]? := heapAt_setCell_ne _ (fun e => absurd e (by show ¬ T.heap.size = q; omega))
    have w4 : (((T.setVm vm₁).pushCell (mm_oc cA)).pushCell (mm_ic comp)).heap[q]? = ((T.setVm vm₁).pushCell (mm_oc cA)).heap[q]? := State.heap_pushCell_of_lt _ _ (show q < ((T.setVm vm₁).pushCell (mm_oc cA)).heap.size by rw [z1]; omega)
    have w5 : ((T.setVm vm₁).pushCell (mm_oc cA)).heap[q]? = T.heap[q]? := State.heap_pushCell_of_lt (T.setVm vm₁) (mm_oc cA) hq
    rw [w1, w2, w3, w4, w5]
  have hfs : (mm_fl2 (T.setVm vm₁) cA comp).heap.size = T.heap.size + 3 := by
    show (((mm_fl1 (T.setVm vm₁) cA comp).pushCell (mm_ic comp)).setCell _ _).heap.size = _
    rw [size_setCell]
    simp [v2]
  have kk := k (mm_fl2 (T.setVm vm₁) cA comp).heap (locs ++ [⟨T.heap.size, 0⟩] ++ [⟨T.heap.size, 1⟩]) ls R5 ⟨by rw [hfs]; exact Nat.le_trans hS.1 (by omega), fun q q1 q2 => (hfin q (Nat.lt_of_lt_of_le q1 hS.1)).trans (hS.2.1 q q1 q2), fun q hq => by
    rcases List.mem_append.mp hq with z | z
    · rcases List.mem_append.mp z with z | z
      · exact hS.2.2 q z
      · rw [List.mem_singleton.mp z]; exact hlo
    · rw [List.mem_singleton.mp z]; exact hlo⟩ hl
  obtain ⟨t, a1, b1⟩ := kk (mm_fl2 (T.setVm vm₁) cA comp) rfl X₄
  refine ⟨t, ?_, b1⟩
  have hx := C.x
  have hb := C.b
  jvm_step XS.here [hx, hb, hd]
  have hm9 : (T.setTop (F0 (mx_m X) pc ls (mm_vv (vI 10) :: mm_vv (vI 2) :: List.map mm_vv st))).method? = some (mx_m X) := State.method?_setTop (F0 (mx_m X) pc ls (mm_vv (vI 10) :: mm_vv (vI 2) :: List.map mm_vv st)) XS.here.top
  simp only [Jvm.Op.multianewarray.sem, wp_bind']
  rw [W.resolveClassAt_links hm9 hg₁]
  generalize hg0 : F0 (mx_m X) pc ls (mm_vv (vI 10) :: mm_vv (vI 2) :: List.map mm_vv st) = g0f
  have hst : g0f.stack = .int 10 :: .int 2 :: List.map mm_vv st := by rw [← hg0]; rfl
  simp only [wp_bind']
  rw [W.popN, if_neg (by decide)]
  refine ⟨g0f, State.topJava?_setTop' (s := T.setVm vm₁) g0f XS.here.top, [.int 2, .int 10], List.map mm_vv st, rfl, hst, ?_⟩
  simp only [List.mapM_cons, List.mapM_nil, wp_bind', wp_pure']
  have eS : ((T.setTop g0f).setVm vm₁).setTop { g0f with stack := List.map mm_vv st } = (T.setVm vm₁).setTop { g0f with stack := List.map mm_vv st } := by
    show ((T.setVm vm₁).setTop g0f).setTop _ = _
    rw [State.setTop_setTop]
  rw [eS]
  refine mm_mk2 (cc := cc0) hkA₁ hkindA₁ hkI₁ hkindI₁ (by rw [Launch.admits_arrayLengthLimit XS.admits]; omega) (by rw [Launch.admits_maxHeapBytes XS.admits]; omega) (by show T.heap.size + 3 ≤ _; omega) (by show T.slotsUsed + 22 ≤ _; omega) (fun d' acts' => ?_)
  have eF : mm_fl2 ((T.setVm vm₁).setTop { g0f with stack := List.map mm_vv st }) cA comp = (mm_fl2 (T.setVm vm₁) cA comp).setTop { g0f with stack := List.map mm_vv st } := by
    simp only [mm_fl2, mm_fl1, State.heap_setTop, State.pushCell_setTop, State.setCell_setTop]
  rw [eF]
  have htop : (mm_fl2 (T.setVm vm₁) cA comp).topJava?.isSome := X₄.here.top
  simp only [wp_bind', W.mark, W.pushRef, State.topJava?_setTop' _ htop, Option.some.injEq, exists_eq_left', State.setTop_setTop, State.heap_setTop]
  intro acts
  simp [jvm, htop]
  rw [← hg0]
  rw [← hsz] at a1
  exact a1
end ML2
