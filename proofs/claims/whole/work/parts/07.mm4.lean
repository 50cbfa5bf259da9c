/-! arrays, new things, calls, ends -/
abbrev mm_ix (i : Int32) (n : Nat) : Prop := ¬ (i < 0 ∨ n ≤ i.toNatClampNeg)
theorem mm_ix.lt {i : Int32} {n : Nat} (h : mm_ix i n) : i.toNatClampNeg < n := Nat.not_le.mp fun q => h (Or.inr q)
theorem mm_R.arr {D : va_G} {cy : Nat → ClassId} {Hs H : Heap} {h : mm_H} (hR : mm_R D cy Hs h H) {a ci : Nat} (hk : mm_kd h a = ci) (hc : 14 ≤ ci) (hc2 : ci < 18) : H[a]? = some (arrV (cy ci) (mm_n h a) (mm_V h a)) := by
  have := (hR.ob (a := a) (by omega)).1.2 (by omega)
  rw [hk] at this
  exact this
theorem mm_R.arr19 {D : va_G} {cy : Nat → ClassId} {Hs H : Heap} {h : mm_H} (hR : mm_R D cy Hs h H) {a : Nat} (hk : mm_kd h a = 19) : H[a]? = some (arrV (cy 19) (mm_n h a) (mm_V h a)) := by
  rcases hR.2.2.2.1 a (by omega) with q | ⟨q, -⟩
  · have := q.1.2 (by omega)
    rw [hk] at this
    exact this
  · omega
theorem mm_R.arr18 {D : va_G} {cy : Nat → ClassId} {Hs H : Heap} {h : mm_H} (hR : mm_R D cy Hs h H) {a : Nat} (hk : mm_kd h a = 18) (hz : 0 < mm_n h a) : H[a]? = some (arrV (cy 18) (mm_n h a) (mm_V h a)) ∧ Hs.size ≤ a := by
  rcases hR.2.2.2.1 a (by omega) with q | ⟨-, q, -⟩
  · have := q.1.2 (by omega)
    rw [hk] at this
    exact ⟨this, q.2⟩
  · omega
theorem mm_R.ast {D : va_G} {cy : Nat → ClassId} {Hs H H1 : Heap} {h h1 : mm_H} (hR : mm_R D cy Hs h H) {a ci i : Nat} {v : Value} (hk : mm_kd h a = ci) (hc : 14 ≤ ci) (hlo : Hs.size ≤ a) (e1 : mm_sz h1 = mm_sz h) (e2 : mm_kd h1 = mm_kd h) (e3 : mm_n h1 = mm_n h) (e4 : mm_c h1 = mm_c h) (hV : ∀ b j : Nat, mm_V h1 b j = if b = a ∧ j = i then v else mm_V h b j) (e : H1[a]? = some ((arrV (cy ci) (mm_n h a) (mm_V h a)).setSlot i v)) (z : H1.size = H.size) (oq : ∀ q : Nat, q ≠ a → H1[q]? = H[q]?) : mm_R D cy Hs h1 H1 := by
  refine hR.put e1 e2 e3 e4 (fun b j hb => by rw [hV b j, if_neg (fun z => hb z.1)]) hlo ⟨fun q => ?_, fun _ => ?_⟩ z oq
  · rw [e2] at q; omega
  · rw [e, arrV_store, e2, e3, hk]
    congr 2
    funext j
    rw [hV a j]
    unfold updV
    by_cases e : j = i
    · simp [e]
    · simp [e]
theorem mm_kc_new {cy : Nat → ClassId} {h : mm_H} {kd n : Nat} (hkd : kd < 20) (r : mm_kc cy h) : mm_kc cy (mm_new h kd n) := by
  obtain ⟨r1, r2, r3⟩ := r
  refine ⟨r1, fun a h1 h2 => ?_, fun a h1 h2 => ?_⟩
  · have e : mm_kd (mm_new h kd n) a = if a = mm_sz h then kd else mm_kd h a := rfl
    rw [e] at h1 h2 ⊢
    by_cases z : a = mm_sz h
    · rw [if_pos z] at h1; omega
    · rw [if_neg z] at h1 h2 ⊢; exact r2 a h1 h2
  · have e : mm_kd (mm_new h kd n) a = if a = mm_sz h then kd else mm_kd h a := rfl
    rw [e] at h1 h2 ⊢
    by_cases z : a = mm_sz h
    · rw [if_pos z] at h1; omega
    · rw [if_neg z] at h1 h2 ⊢; exact r3 a h1 h2
theorem mm_R.new {D : va_G} {cy : Nat → ClassId} {Hs H H1 : Heap} {h : mm_H} (hR : mm_R D cy Hs h H) {kd n : Nat} (hkd : kd < 20) (hat : mm_at D cy (mm_new h kd n) (mm_sz h) H1) (z : H1.size = H.size + 1) (oq : ∀ q : Nat, q < H.size → H1[q]? = H[q]?) : mm_R D cy Hs (mm_new h kd n) H1 := by
  obtain ⟨r1, r2, r3, r4, r5⟩ := hR
  refine ⟨by rw [z, r1]; rfl, by omega, fun q hq => ?_, fun b hb => ?_, mm_kc_new hkd r5⟩
  · rw [oq q (by omega)]
    exact r3 q hq
  · by_cases e : b = mm_sz h
    · subst e
      exact Or.inl ⟨hat, by omega⟩
    · have ek : mm_kd (mm_new h kd n) b = mm_kd h b := by
        show mm_u1 _ _ _ b = _
        unfold mm_u1
        rw [if_neg (show ¬ b = h.1 from e)]; rfl
      have en : mm_n (mm_new h kd n) b = mm_n h b := by
        show mm_u1 _ _ _ b = _
        unfold mm_u1
        rw [if_neg (show ¬ b = h.1 from e)]; rfl
      have eV : ∀ j, mm_V (mm_new h kd n) b j = mm_V h b j := by
        intro j
        unfold mm_V
        rw [ek]
        generalize mm_ty (mm_kd h b) j = t
        have e' : ¬ b = h.1 := e
        match t with
        | 0 => show Value.int (mm_u1 h.2.2.1 h.1 (fun _ => 0) b j) = Value.int (h.2.2.1 b j); simp [mm_u1, e']
        | 1 => show Value.long (mm_u1 h.2.2.2.1 h.1 (fun _ => 0) b j) = Value.long (h.2.2.2.1 b j); simp [mm_u1, e']
        | (_ + 2) => show va_rf (mm_u1 h.2.2.2.2.1 h.1 (fun _ => none) b j) = va_rf (h.2.2.2.2.1 b j); simp [mm_u1, e']
      rw [ek] at hb
      rcases r4 b hb with ⟨⟨t1, t2⟩, t3⟩ | ⟨g1, g2, g3, g4⟩
      · refine Or.inl ⟨⟨fun q => ?_, fun q => ?_⟩, t3⟩
        · rw [ek] at q ⊢
          obtain ⟨cell, c1, c2⟩ := t1 q
          have hl : b < H.size := (Array.getElem?_eq_some_iff.mp c1).1
          exact ((t1 q).kept (oq b hl)).to (fun k _ => (eV k).symm)
        · rw [ek] at q ⊢
          have c1 := t2 q
          have hl : b < H.size := (Array.getElem?_eq_some_iff.mp c1).1
          rw [oq b hl, c1, en]
          congr 2
          funext j
          exact (eV j).symm
      · refine Or.inr ⟨by rw [ek]; exact g1, by rw [en]; exact g2, g3, ?_⟩
        obtain ⟨cell, c1, c2⟩ := g4
        exact ⟨cell, by rw [oq b (by omega)]; exact c1, c2⟩
def mm_dv (t : Nat) : Value := match t with
  | 0 => .int 0
  | 1 => .long 0
  | _ => .null
theorem mm_V_new (h : mm_H) (kd n j : Nat) : mm_V (mm_new h kd n) (mm_sz h) j = mm_dv (mm_ty kd j) := by
  have ek : mm_kd (mm_new h kd n) (mm_sz h) = kd := by
    show mm_u1 _ _ _ h.1 = _
    simp [mm_u1]
  unfold mm_V
  rw [ek]
  generalize mm_ty kd j = t
  match t with
  | 0 => show Value.int (mm_u1 h.2.2.1 h.1 (fun _ => 0) h.1 j) = Value.int 0; simp [mm_u1]
  | 1 => show Value.long (mm_u1 h.2.2.2.1 h.1 (fun _ => 0) h.1 j) = Value.long 0; simp [mm_u1]
  | (_ + 2) => show va_rf (mm_u1 h.2.2.2.2.1 h.1 (fun _ => none) h.1 j) = Value.null; simp [mm_u1, va_rf]
theorem mm_kd_new (h : mm_H) (kd n : Nat) : mm_kd (mm_new h kd n) (mm_sz h) = kd := by
  show mm_u1 _ _ _ h.1 = _
  simp [mm_u1]
theorem mm_n_new (h : mm_H) (kd n : Nat) : mm_n (mm_new h kd n) (mm_sz h) = n := by
  show mm_u1 _ _ _ h.1 = _
  simp [mm_u1]
def mm_fn (own : String) (n ci N : Nat) : Prop := ∃ (Cn : String) (T : u_T) (ty0 : Nat → FieldType), vwCl[ci]? = some (Cn, T, N) ∧ (∀ w ∈ u_ws Cn T N, w ∈ mm_tb) ∧ N = mm_nf ci ∧ ci < 14 ∧ (∀ k, k < N → parseFieldDescriptor (T k).2.2.1 = some (ty0 k)) ∧ (∀ k, k < N → defaultValue (ty0 k) = mm_dv (mm_ty ci k)) ∧ Cond.classLink own n Cn ∈ mm_tb ∧ Cond.instantiable Cn N ∈ mm_tb ∧ Cond.initialized Cn ∈ mm_tb
/-- the end of a method -/
def mm_Qc (D : va_G) (cy : Nat → ClassId) (Hs : Heap) (ro : Option mm_W) (h1 : mm_H) : Array Value → State → Outcome → State → Prop := fun _ st oc t => oc = .returned (ro.map mm_vv) ∧ mm_R D cy Hs h1 t.heap ∧ va_F (mm_A Hs) st t
def mm_End (X : mm_X) (mc ms : Nat) (ret : Option FieldType) (ro : Option mm_W) (h1 : mm_H) : Prop := mx_Q X = MQ (mx_b X) (mm_Qc (mx_D X) (mx_cy X) (mx_Hs X) ro h1) (mx_a X) (mx_s X) mc ms (mm_A (mx_Hs X)) ∧ (mx_me X).sig.returnType = ret
/-- a method's contract -/
def mm_M (l : Launch) (y : MethodName) (code : ByteArray) (maxL : Nat) (ret : Option FieldType) (lvl mc ms : Nat) (av : List mm_W) (h : mm_H) (ro : Option mm_W) (h1 : mm_H) : Prop :=
  ∀ (D : va_G) (cy : Nat → ClassId) (Hs : Heap), Met l y (Cond.code y code maxL ret :: mm_tb) { frames := lvl, cells := mc, slots := ms, locals := 64 * lvl } (va_Pc (av.map mm_vv) (fun U => mm_R D cy Hs h U.heap ∧ mm_K D cy U ∧ mm_G cy Hs U)) (mm_Qc D cy Hs ro h1) mc ms (mm_A Hs)
def mm_pad (av : List mm_W) (n : Nat) : List (Option mm_W) := let l := (av.map (fun v => if mm_ct v = 2 then [some v, none] else [some v])).flatten; l ++ List.replicate (n - l.length) none
def mm_padL (av : List mm_W) : List (Option mm_W) := (av.map (fun v => if mm_ct v = 2 then [some v, none] else [some v])).flatten
theorem mm_padL_cons (v : mm_W) (av : List mm_W) : mm_padL (v :: av) = (if mm_ct v = 2 then [some v, none] else [some v]) ++ mm_padL av := rfl
theorem mm_padL_at : ∀ (av : List mm_W) (k i : Nat) (v : mm_W), (mm_padL av)[i]? = some (some v) → (k + i, mm_vv v) ∈ lv_args k (av.map mm_vv) := by
  intro av
  induction av with
  | nil => intro k i v h; simp [mm_padL] at h
  | cons w av ih =>
    intro k i v h
    rw [mm_padL_cons] at h
    show _ ∈ (k, mm_vv w) :: lv_args (if (mm_vv w).category = 2 then k + 2 else k + 1) (av.map mm_vv)
    rw [mm_ct_eq]
    by_cases e : mm_ct w = 2
    · rw [if_pos e] at h ⊢
      match i, h with
      | 0, h =>
        have hh : w = v := by simpa using h
        subst hh
        exact List.mem_cons_self
      | 1, h => simp at h
      | i + 2, h =>
        have h2 := ih (k + 2) i v (by simpa using h)
        rw [show k + 2 + i = k + (i + 2) by omega] at h2
        exact List.mem_cons_of_mem _ h2
    · rw [if_neg e] at h ⊢
      match i, h with
      | 0, h =>
        have hh : w = v := by simpa using h
        subst hh
        exact List.mem_cons_self
      | i + 1, h =>
        have h2 := ih (k + 1) i v (by simpa using h)
        rw [show k + 1 + i = k + (i + 1) by omega] at h2
        exact List.mem_cons_of_mem _ h2
theorem mm_padL_len : ∀ av : List mm_W, (mm_padL av).length = (lg_sl (av.map mm_vv)).length := by
  intro av
  induction av with
  | nil => rfl
  | cons w av ih =>
    rw [mm_padL_cons, List.length_append, ih]
    rcases w with x | x | o
    · simp [mm_ct, lg_sl, mm_vv, Value.category] <;> omega
    · simp [mm_ct, lg_sl, mm_vv, Value.category] <;> omega
    · cases o <;> simp [mm_ct, lg_sl, mm_vv, va_rf, Value.category] <;> omega
