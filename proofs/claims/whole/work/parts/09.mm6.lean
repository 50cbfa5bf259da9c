/-! entry and calls -/
theorem mm_goodIn {y : MethodName} {code : ByteArray} {maxL : Nat} {ret : Option FieldType} (hc : Cond.code y code maxL ret ∈ mm_tb) : GoodIn mm_tb (Cond.code y code maxL ret :: mm_tb) := by
  intro w hw
  have hm : w ∈ mm_tb := by
    rcases List.mem_cons.mp hw with e | e
    · rw [e]; exact hc
    · exact e
  exact ⟨hm, good_of_word (List.mem_filter.mp hm).2⟩
theorem mm_enter {l : Launch} {y : MethodName} {code : ByteArray} {maxL : Nat} {ret : Option FieldType} {lvl mc ms : Nat} {av : List mm_W} {h : mm_H} {ro : Option mm_W} {h1 : mm_H} (hy : plainName y.cls = true) {lv : List (Option mm_W)} (hlv : mm_padL av ++ List.replicate (maxL - (mm_padL av).length) none = lv) (hlen : (mm_padL av).length ≤ maxL)
    (body : ∀ X : mm_X, mx_l X = l → mm_C X code y lvl mc ms → mm_End X mc ms ret ro h1 → mm_E X h 0 0 0 lv []) : mm_M l y code maxL ret lvl mc ms av h ro h1 := by
  intro D cy Hs
  refine Met.ofW (cc := code) (maxL := maxL) (ret := ret) hy rfl ?_
  intro p e s m args below meth c s₁ B hml hv
  obtain ⟨rfl, hR, hK, hG⟩ := hv
  have hts := atoms_spec (ws := Cond.code y code maxL ret :: mm_tb) B.pre
  have hown : s.vm.findClass y.cls = some m.cls := findClass_of_methodNamed B.named
  have hnm : meth.name = y.name := (name_of_methodNamed B.named B.method).1
  have b := body (p, l, e, (headSpec (Cond.code y code maxL ret :: mm_tb) { frames := lvl, cells := mc, slots := ms, locals := 64 * lvl }).room, s, m, (av.map mm_vv).toArray, below, meth, c, MQ below (mm_Qc D cy Hs ro h1) (av.map mm_vv).toArray s mc ms (mm_A Hs), D, cy, Hs, maxL) rfl
    ⟨B.exec, B.bytes, hml, hown, fun w hw => hts w (List.mem_cons_of_mem _ hw), hK, B.notSynchronized, hR.2.1, hnm, ⟨Nat.le_refl _, Nat.le_refl _, Nat.le_refl _, Nat.le_refl _⟩, hG⟩ ⟨rfl, B.returns⟩
  rw [lg_entry_eq]
  refine b s.heap [] _ hR va_S.rf ?_
  have hl := lv_entry (av.map mm_vv) (n := maxL) (by rw [← mm_padL_len]; exact hlen)
  refine ⟨hl.1, hl.2.1, ?_, fun i v hi => ?_⟩
  · subst hlv
    show _ ≤ maxL
    rw [List.length_append, List.length_replicate]
    omega
  · subst hlv
    have hi2 : (mm_padL av)[i]? = some (some v) := by
      by_cases e : i < (mm_padL av).length
      · rw [List.getElem?_append_left e] at hi
        exact hi
      · rw [List.getElem?_append_right (by omega)] at hi
        have := List.mem_of_getElem? hi
        have := List.eq_of_mem_replicate this
        cases this
    have h2 := mm_padL_at av 0 i v hi2
    rw [Nat.zero_add] at h2
    exact hl.2.2 _ h2
/-- a call's target: link, code, class, and the facts of its descriptor -/
def mm_tg (own : String) (n : Nat) (y : MethodName) (code : ByteArray) (maxL : Nat) (ret : Option FieldType) (np : Nat) : Prop := Cond.methodLink own n y ∈ mm_tb ∧ Cond.code y code maxL ret ∈ mm_tb ∧ Cond.initialized y.cls ∈ mm_tb ∧ (y.cls ≠ "java/lang/invoke/MethodHandle" ∧ y.cls ≠ "java/lang/invoke/VarHandle" ∧ (parseMethodDescriptor y.desc).map (fun d => d.parameters.length) = some np) ∧ maxL ≤ 45
theorem mm_blind {D : va_G} {cy : Nat → ClassId} {Hs : Heap} {h : mm_H} {av : List Value} : FrameBlind (va_Pc av (fun U => mm_R D cy Hs h U.heap ∧ mm_K D cy U ∧ mm_G cy Hs U)) := fun a U g mk hq => by
  obtain ⟨q0, q1, q2, q3⟩ := hq
  exact ⟨q0, q1, va_K.moved (u := U) (U := U.calling g mk a) (Vm.Alike.refl U.vm) q2, mm_G.warm (u := U) (U := U.calling g mk a) (State.WarmedH.refl U) q3⟩
section MK
variable {X : mm_X} {cc : ByteArray} {y : MethodName} {lvl mc ms : Nat} {h : mm_H} {cells slots pc q : Nat} {lv : List (Option mm_W)} {st : List mm_W}
variable {n : Nat} {y2 : MethodName} {code2 : ByteArray} {maxL2 : Nat} {ret2 : Option FieldType} {lvl2 mc2 ms2 : Nat} {av : List mm_W} {ro : Option mm_W} {h1 : mm_H} {np : Nat} {c2 s2 : Nat}
theorem mm_goes (C : mm_C X cc y lvl mc ms) {H : Heap} {locs : List Loc} {ls : Array Slot} {st0 : List Value} {a : Array Value} (hr : va_Run (mx_p X) (mx_l X) (mx_e X) (mx_R X) (mx_s X) (mx_m X) (mx_a X) (mx_b X) (mx_me X) (mx_c X) H locs cells slots mc2 ms2 (F0 (mx_m X) pc ls st0) (st.map mm_vv) (mm_Qc (mx_D X) (mx_cy X) (mx_Hs X) ro h1 a) (mm_A (mx_Hs X))) (hS : va_S (mm_A (mx_Hs X)) (mx_s X).heap H locs) (hl : mm_ll ls (mx_n X) lv)
    (k : mm_E X h1 (cells + mc2) (slots + ms2) (pc + 3) lv (ro.toList ++ st)) : mm_Wx X H locs cells slots (F0 (mx_m X) pc ls st0) := by
  intro T hT XS
  obtain ⟨v, st₀, t, T', L, h0, X', hL, e1, e2, ⟨hv, hR1, hz, hk⟩, stp⟩ := hr T hT XS
  have hv2 : v = ro.map mm_vv := by injection hv
  subst hv2
  rw [h0] at hz hk
  have kk := k T'.heap (locs ++ L) ls (by rw [e1]; exact hR1) ⟨Nat.le_trans hS.1 (by rw [e1]; exact hz), fun q h1 h2 => by rw [e1, hk q (Nat.lt_of_lt_of_le h1 hS.1) h2]; exact hS.2.1 q h1 h2, fun q hq => by
      rcases List.mem_append.mp hq with h | h
      · exact hS.2.2 q h
      · exact hL q h⟩ hl
  have e3 : (ro.toList ++ st).map mm_vv = (ro.map mm_vv).toList ++ st.map mm_vv := by cases ro <;> simp
  rw [e3] at kk
  obtain ⟨t2, a1, b1⟩ := kk T' rfl X'
  exact ⟨t2, stp t2 a1, b1⟩
theorem mm_cats {st : List mm_W} : (st.map mm_vv).map (fun v => v.category) = st.map mm_ct := by
  rw [List.map_map]
  apply List.map_congr_left
  intro v _
  exact mm_ct_eq v
theorem me_callS (C : mm_C X cc y lvl mc ms) (hM : mm_M (mx_l X) y2 code2 maxL2 ret2 lvl2 mc2 ms2 av h ro h1) (ht : mm_tg y.cls n y2 code2 maxL2 ret2 np) (hs : Cond.static y2 ∈ mm_tb) (hd : decode cc pc = .ok (.invokestatic n, 3)) {st1 : List mm_W} (hst : av.reverse ++ st = st1) (hn : av.length = np) (hcat : Nat.ble (st.map mm_ct).sum 8 = true) (hlv : lvl2 + 1 ≤ lvl) (hc : cells + mc2 = c2) (hc2 : c2 ≤ mc) (hsl : slots + ms2 = s2) (hs2 : s2 ≤ ms) (hq : pc + 3 = q) {st3 : List mm_W} (hro : ro.toList ++ st = st3) (k : mm_E X h1 c2 s2 q lv st3) : mm_E X h cells slots pc lv st1 := by
  subst hq
  subst hc
  subst hsl
  subst hst
  subst hro
  intro H locs ls hR hS hl
  obtain ⟨t1, t2, t3, t4, t5⟩ := ht
  have hr := va_runS (l := mx_l X) (e := mx_e X) (R := mx_R X) (below := mx_b X) (meth := mx_me X) (H := H) (locs := locs) (cells := cells) (slots := slots) (g := F0 (mx_m X) pc ls (((av.reverse ++ st)).map mm_vv)) (As := av.map mm_vv) (rest := st.map mm_vv) ⟨C.x, C.b, C.ml, C.own, C.ts⟩ (hM (mx_D X) (mx_cy X) (mx_Hs X))
    ⟨callB_of (maxL := maxL2) np C.ts (mm_goodIn t2) rfl rfl rfl (C.ts _ t3) (C.ts _ t1) t4 ⟨Nat.le_trans hlv C.rm.1, by have := C.rm.2.1; show 8 + (maxL2 + 11) + 64 * lvl2 ≤ _; omega⟩, C.ts _ hs⟩ ⟨mm_blind, fun U hU hW => ⟨rfl, by rw [hU]; exact hR, va_K.moved hW.alike C.K, mm_G.warm hW C.G⟩⟩ rfl (by rw [List.length_map]; exact hn) hl.1 (by simp) (lv_room (by rw [mm_cats]; exact Nat.le_of_ble_eq_true hcat)) hd ⟨Nat.le_trans hc2 C.rm.2.2.1, Nat.le_trans hs2 C.rm.2.2.2⟩
  exact mm_goes C hr hS hl k
theorem me_callV (C : mm_C X cc y lvl mc ms) {ci : Nat} {Cn : String} {T : u_T} {N b : Nat} {o : Option Nat} (hM : mm_M (mx_l X) y2 code2 maxL2 ret2 lvl2 mc2 ms2 (vR (some b) :: av) h ro h1) (ht : mm_tg y.cls n y2 code2 maxL2 ret2 np) (hs : Cond.instanceMethod y2 ∈ mm_tb ∧ Cond.selects Cn y2 y2 ∈ mm_tb) (hci : vwCl[ci]? = some (Cn, T, N)) (hci2 : ci < 14) (hd : decode cc pc = .ok (.invokevirtual n, 3)) (ho : o = some b) (hk : mm_kd h b = ci) {st1 : List mm_W} (hst : av.reverse ++ vR o :: st = st1) (hn : av.length = np) (hcat : Nat.ble (st.map mm_ct).sum 8 = true) (hlv : lvl2 + 1 ≤ lvl) (hc : cells + mc2 = c2) (hc2 : c2 ≤ mc) (hsl : slots + ms2 = s2) (hs2 : s2 ≤ ms) (hq : pc + 3 = q) {st3 : List mm_W} (hro : ro.toList ++ st = st3) (k : mm_E X h1 c2 s2 q lv st3) : mm_E X h cells slots pc lv st1 := by
  subst hq
  subst hc
  subst hsl
  subst hst
  subst hro
  subst ho
  intro H locs ls hR hS hl
  obtain ⟨t1, t2, t3, t4, t5⟩ := ht
  have hat := ((hR.ob (a := b) (by omega)).1.1 (by omega))
  rw [hk] at hat
  obtain ⟨cell, q1, q2, q3, q4⟩ := hat
  obtain ⟨hSl, hfc, -⟩ := C.K.1 ci _ hci
  have hr := va_runV (l := mx_l X) (e := mx_e X) (R := mx_R X) (below := mx_b X) (meth := mx_me X) (H := H) (locs := locs) (cells := cells) (slots := slots) (C := Cn) (b := b) (g := F0 (mx_m X) pc ls (((av.reverse ++ vR (some b) :: st)).map mm_vv)) (As := av.map mm_vv) (rest := st.map mm_vv) ⟨C.x, C.b, C.ml, C.own, C.ts⟩ (hM (mx_D X) (mx_cy X) (mx_Hs X))
    ⟨callB_of (maxL := maxL2) np C.ts (mm_goodIn t2) rfl rfl rfl (C.ts _ t3) (C.ts _ t1) t4 ⟨Nat.le_trans hlv C.rm.1, by have := C.rm.2.1; show 8 + (maxL2 + 11) + 64 * lvl2 ≤ _; omega⟩, C.ts _ hs.1, C.ts _ hs.2⟩ ⟨mm_blind, ⟨cell, q1, by rw [q3]; rfl, by rw [q2]; exact hfc⟩, fun U hU hW => ⟨rfl, by rw [hU]; exact hR, va_K.moved hW.alike C.K, mm_G.warm hW C.G⟩⟩ rfl (by rw [List.length_map]; exact hn) hl.1 (by simp [mm_vv, va_rf]) (lv_room (by rw [mm_cats]; exact Nat.le_of_ble_eq_true hcat)) hd ⟨Nat.le_trans hc2 C.rm.2.2.1, Nat.le_trans hs2 C.rm.2.2.2⟩
  exact mm_goes C hr hS hl k
theorem me_callI (C : mm_C X cc y lvl mc ms) {b : Nat} {o : Option Nat} (hM : mm_M (mx_l X) y2 code2 maxL2 none lvl2 mc2 ms2 (vR (some b) :: av) h ro h1) (ht : mm_tg y.cls n y2 code2 maxL2 none np) (hs : Cond.instanceMethod y2 ∈ mm_tb ∧ y2.name = "<init>") (hd : decode cc pc = .ok (.invokespecial n, 3)) (ho : o = some b) {st1 : List mm_W} (hst : av.reverse ++ vR o :: st = st1) (hn : av.length = np) (hcat : Nat.ble (st.map mm_ct).sum 8 = true) (hlv : lvl2 + 1 ≤ lvl) (hc : cells + mc2 = c2) (hc2 : c2 ≤ mc) (hsl : slots + ms2 = s2) (hs2 : s2 ≤ ms) (hq : pc + 3 = q) {st3 : List mm_W} (hro : ro.toList ++ st = st3) (k : mm_E X h1 c2 s2 q lv st3) : mm_E X h cells slots pc lv st1 := by
  subst hq
  subst hc
  subst hsl
  subst hst
  subst hro
  subst ho
  intro H locs ls hR hS hl
  obtain ⟨t1, t2, t3, t4, t5⟩ := ht
  have hr := va_runI (l := mx_l X) (e := mx_e X) (R := mx_R X) (below := mx_b X) (meth := mx_me X) (H := H) (locs := locs) (cells := cells) (slots := slots) (b := b) (g := F0 (mx_m X) pc ls (((av.reverse ++ vR (some b) :: st)).map mm_vv)) (As := av.map mm_vv) (rest := st.map mm_vv) ⟨C.x, C.b, C.ml, C.own, C.ts⟩ (hM (mx_D X) (mx_cy X) (mx_Hs X))
    ⟨callB_of (maxL := maxL2) np C.ts (mm_goodIn t2) rfl rfl rfl (C.ts _ t3) (C.ts _ t1) t4 ⟨Nat.le_trans hlv C.rm.1, by have := C.rm.2.1; show 8 + (maxL2 + 11) + 64 * lvl2 ≤ _; omega⟩, hs.2, C.ts _ hs.1⟩ ⟨mm_blind, fun U hU hW => ⟨rfl, by rw [hU]; exact hR, va_K.moved hW.alike C.K, mm_G.warm hW C.G⟩⟩ rfl (by rw [List.length_map]; exact hn) hl.1 (by simp [mm_vv, va_rf]) (lv_room (by rw [mm_cats]; exact Nat.le_of_ble_eq_true hcat)) hd ⟨Nat.le_trans hc2 C.rm.2.2.1, Nat.le_trans hs2 C.rm.2.2.2⟩
  exact mm_goes C hr hS hl k
theorem me_objInit (C : mm_C X cc y lvl mc ms) {o : Option Nat} {b : Nat} (hd : decode cc pc = .ok (.invokespecial n, 3)) (hw : Cond.methodLink y.cls n Lib.objectInit ∈ mm_tb ∧ Cond.instanceMethod Lib.objectInit ∈ mm_tb ∧ Cond.code Lib.objectInit ⟨#[0xb1]⟩ 1 none ∈ mm_tb) (ho : o = some b) (hcat : Nat.ble (st.map mm_ct).sum 8 = true) (hlv : 1 ≤ lvl) (hq : pc + 3 = q) (k : mm_E X h cells slots q lv st) : mm_E X h cells slots pc lv (vR o :: st) := by
  subst hq
  subst ho
  intro H locs ls hR hS hl
  have h9 : (List.map (fun v => v.category) (List.map mm_vv st)).sum ≤ 8 := by rw [mm_cats]; exact Nat.le_of_ble_eq_true hcat
  refine W.objInit C.x C.b C.own (C.ts _ hw.1) (C.ts _ hw.2.1) (C.ts _ hw.2.2) rfl (by rw [C.ml]; exact hl.1) rfl hd (Nat.le_trans hlv C.rm.1) ?_ (k H locs ls hR hS hl)
  have h8 := lv_room (m := mx_m X) (pc := pc) (ls := ls) (rest := List.map mm_vv (vR (some b) :: st)) h9
  have := C.rm.2.1
  omega
end MK
