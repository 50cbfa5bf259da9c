/-! rows that touch the heap -/
theorem mm_V_setI {h : mm_H} {a k : Nat} {v : Int32} (ht : mm_ty (mm_kd h a) k = 0) (b j : Nat) : mm_V (mm_setI h a k v) b j = if b = a ∧ j = k then .int v else mm_V h b j := by
  by_cases e : b = a ∧ j = k
  · obtain ⟨rfl, rfl⟩ := e
    rw [if_pos ⟨rfl, rfl⟩]
    show mm_val (mm_ty (mm_kd h b) j) _ b j = _
    rw [ht]
    show Value.int (mm_u2 _ b j v b j) = _
    simp [mm_u2]
  · rw [if_neg e]
    show mm_val (mm_ty (mm_kd h b) j) (mm_setI h a k v) b j = mm_val (mm_ty (mm_kd h b) j) h b j
    generalize mm_ty (mm_kd h b) j = t
    match t with
    | 0 => show Value.int (mm_u2 _ a k v b j) = _; simp [mm_u2, e, mm_val, mm_i]
    | 1 => rfl
    | (_ + 2) => rfl
theorem mm_V_setJ {h : mm_H} {a k : Nat} {v : Int64} (ht : mm_ty (mm_kd h a) k = 1) (b j : Nat) : mm_V (mm_setJ h a k v) b j = if b = a ∧ j = k then .long v else mm_V h b j := by
  by_cases e : b = a ∧ j = k
  · obtain ⟨rfl, rfl⟩ := e
    rw [if_pos ⟨rfl, rfl⟩]
    show mm_val (mm_ty (mm_kd h b) j) _ b j = _
    rw [ht]
    show Value.long (mm_u2 _ b j v b j) = _
    simp [mm_u2]
  · rw [if_neg e]
    show mm_val (mm_ty (mm_kd h b) j) (mm_setJ h a k v) b j = mm_val (mm_ty (mm_kd h b) j) h b j
    generalize mm_ty (mm_kd h b) j = t
    match t with
    | 0 => rfl
    | 1 => show Value.long (mm_u2 _ a k v b j) = _; simp [mm_u2, e, mm_val, mm_j]
    | (_ + 2) => rfl
theorem mm_V_setR {h : mm_H} {a k : Nat} {v : Option Nat} (ht : mm_ty (mm_kd h a) k = 2) (b j : Nat) : mm_V (mm_setR h a k v) b j = if b = a ∧ j = k then va_rf v else mm_V h b j := by
  by_cases e : b = a ∧ j = k
  · obtain ⟨rfl, rfl⟩ := e
    rw [if_pos ⟨rfl, rfl⟩]
    show mm_val (mm_ty (mm_kd h b) j) _ b j = _
    rw [ht]
    show va_rf (mm_u2 _ b j v b j) = _
    simp [mm_u2]
  · rw [if_neg e]
    show mm_val (mm_ty (mm_kd h b) j) (mm_setR h a k v) b j = mm_val (mm_ty (mm_kd h b) j) h b j
    generalize mm_ty (mm_kd h b) j = t
    match t with
    | 0 => rfl
    | 1 => rfl
    | (_ + 2) => show va_rf (mm_u2 _ a k v b j) = _; simp [mm_u2, e, mm_val, mm_r]
/-- one cell changes -/
theorem mm_R.put {D : va_G} {cy : Nat → ClassId} {Hs H H1 : Heap} {h h1 : mm_H} (hR : mm_R D cy Hs h H) {a : Nat} (e1 : mm_sz h1 = mm_sz h) (e2 : mm_kd h1 = mm_kd h) (e3 : mm_n h1 = mm_n h) (e4 : mm_c h1 = mm_c h) (hV : ∀ b j : Nat, b ≠ a → mm_V h1 b j = mm_V h b j) (ha : Hs.size ≤ a) (hat : mm_at D cy h1 a H1) (z : H1.size = H.size) (oq : ∀ q : Nat, q ≠ a → H1[q]? = H[q]?) : mm_R D cy Hs h1 H1 := by
  obtain ⟨r1, r2, r3, r4, r5⟩ := hR
  refine ⟨by rw [z, r1, e1], by rw [z]; exact r2, fun q hq => ?_, fun b hb => ?_, by unfold mm_kc at *; rw [e2, e4]; exact r5⟩
  · rw [oq q (by omega)]
    exact r3 q hq
  · by_cases e : b = a
    · subst e
      exact Or.inl ⟨hat, ha⟩
    · rw [e2] at hb
      rcases r4 b hb with ⟨⟨t1, t2⟩, t3⟩ | ⟨g1, g2, g3, g4⟩
      · refine Or.inl ⟨⟨fun q => ?_, fun q => ?_⟩, t3⟩
        · rw [e2] at q ⊢
          exact ((t1 q).kept (oq b e)).to (fun k _ => (hV b k e).symm)
        · rw [e2] at q ⊢
          rw [oq b e, t2 q, e3]
          congr 2
          funext j
          exact (hV b j e).symm
      · refine Or.inr ⟨by rw [e2]; exact g1, by rw [e3]; exact g2, g3, ?_⟩
        obtain ⟨cell, c1, c2⟩ := g4
        exact ⟨cell, by rw [oq b e]; exact c1, c2⟩
theorem mm_R.ob {D : va_G} {cy : Nat → ClassId} {Hs H : Heap} {h : mm_H} (hR : mm_R D cy Hs h H) {a : Nat} (hk : mm_kd h a < 18) : mm_at D cy h a H ∧ Hs.size ≤ a := by
  rcases hR.2.2.2.1 a (by omega) with q | ⟨q, -⟩
  · exact q
  · omega
theorem mm_R.lo {D : va_G} {cy : Nat → ClassId} {Hs H : Heap} {h : mm_H} (hR : mm_R D cy Hs h H) {a ci : Nat} (hk : mm_kd h a = ci) (hc : ci < 18) : Hs.size ≤ a := by
  exact (hR.ob (a := a) (by omega)).2
/-- a field's link, and the class that it is of -/
def mm_fl (own : String) (n ci k : Nat) : Prop := ∃ (Cn : String) (T : u_T) (N : Nat) (rf : String), vwCl[ci]? = some (Cn, T, N) ∧ (∀ w ∈ u_ws Cn T N, w ∈ mm_tb) ∧ k < N ∧ N = mm_nf ci ∧ ci < 14 ∧ Cond.fieldLink own n rf (T k).2.1 (T k).2.2.1 ∈ mm_tb ∧ (rf = (T k).1 ∨ Cond.sameField rf (T k).1 (T k).2.1 (T k).2.2.1 ∈ mm_tb)
/-- what a put asks besides: the type, whether final -/
def mm_fp (own : String) (ci k : Nat) (ty : FieldType) (fin : Bool) : Prop := ∃ (Cn : String) (T : u_T) (N : Nat) (ty0 : Nat → FieldType), vwCl[ci]? = some (Cn, T, N) ∧ (∀ k, k < N → parseFieldDescriptor (T k).2.2.1 = some (ty0 k)) ∧ (∀ a, a < N → ∀ b, b < N → a ≠ b → (T a).2.1 ≠ (T b).2.1) ∧ (T k).2.2.2 = fin ∧ ty0 k = ty ∧ (fin = true → (T k).1 = own)
section MH
variable {X : mm_X} {cc : ByteArray} {y : MethodName} {lvl mc ms : Nat} {h : mm_H} {cells slots pc q : Nat} {lv : List (Option mm_W)} {st : List mm_W}
theorem mm_same {s : State} {args : Array Value} (hts : ∀ w ∈ mm_tb, w.before args s = true) {rf O f d : String} (hs : rf = O ∨ Cond.sameField rf O f d ∈ mm_tb) : ∀ x, s.fieldFound? O f d = some x → s.fieldFound? rf f d = some x := by
  intro x hx
  rcases hs with e | e
  · rw [e]; exact hx
  · exact u_same (hts _ e) x hx
theorem me_get (C : mm_C X cc y lvl mc ms) {n ci k : Nat} {o : Option Nat} {a : Nat} {v : mm_W} (hd : decode cc pc = .ok (.getfield n, 3)) (hf : mm_fl y.cls n ci k) (ho : o = some a) (hk : mm_kd h a = ci) (hv : mm_V h a k = mm_vv v) (hq : pc + 3 = q) (kk : mm_E X h cells slots q lv (v :: st)) : mm_E X h cells slots pc lv (vR o :: st) := by
  subst hq
  subst ho
  intro H locs ls hR hS hl
  obtain ⟨Cn, T, N, rf, f1, f2, f3, f4, f5, f6, f7⟩ := hf
  have hat := ((hR.ob (a := a) (by omega)).1.1 (by omega))
  rw [hk] at hat
  obtain ⟨cell, q1, q2, q3, q4⟩ := hat
  obtain ⟨hSl, hfc, kC, hkC, hkind⟩ := C.K.1 ci _ f1
  obtain ⟨cf, kf, fi, f, hi, hsl⟩ := hSl k f3
  refine W.getf C.x C.b C.own (C.ts _ f6) (mm_same C.ts f7 _ hi) (u_facts hfc hkC (u_lays C.ts f2 f3) hi).1 q1 (by rw [q3]; exact fun h => by cases h) (v := mm_vv v) ?_ rfl rfl hd (kk H locs ls hR hS hl)
  rw [hsl, q4 k (by omega), hv]
theorem me_put (C : mm_C X cc y lvl mc ms) {n ci k : Nat} {ty : FieldType} {fin : Bool} {o : Option Nat} {a : Nat} {v : mm_W} {h1 : mm_H} (hd : decode cc pc = .ok (.putfield n, 3)) (hf : mm_fl y.cls n ci k) (hp : mm_fp y.cls ci k ty fin) (hfi : fin = true → y.name = "<init>") (ho : o = some a) (hk : mm_kd h a = ci) (hn : narrow ty (mm_vv v) = mm_vv v) (hfit : fits ty (mm_vv v) = true)
    (e1 : mm_sz h1 = mm_sz h) (e2 : mm_kd h1 = mm_kd h) (e3 : mm_n h1 = mm_n h) (e4 : mm_c h1 = mm_c h) (hV : ∀ b j : Nat, mm_V h1 b j = if b = a ∧ j = k then mm_vv v else mm_V h b j) (hq : pc + 3 = q) (kk : mm_E X h1 cells slots q lv st) : mm_E X h cells slots pc lv (v :: vR o :: st) := by
  subst hq
  subst ho
  intro H locs ls hR hS hl
  obtain ⟨Cn, T, N, rf, f1, f2, f3, f4, f5, f6, f7⟩ := hf
  obtain ⟨Cn', T', N', ty0, g1, g2, g3, g4, g5, g6⟩ := hp
  have eq1 : (Cn, T, N) = (Cn', T', N') := Option.some.inj (f1.symm.trans g1)
  cases eq1
  have hat := ((hR.ob (a := a) (by omega)).1.1 (by omega))
  rw [hk] at hat
  have hlo := hR.lo hk (by omega)
  have hap := va_apart (own := y.cls) C.ts f2 ty0 g2 g3 C.K f1
  obtain ⟨cell, q1, q2, q3, q4⟩ := hat
  obtain ⟨hSl, hfc, kC, hkC, hkind⟩ := C.K.1 ci _ f1
  obtain ⟨cf, kf, fi, f, hi, hsl⟩ := hSl k f3
  have hty := g2 k f3
  rw [g5] at hty
  have hlay := C.ts _ (f2 _ (u_in_lay f3))
  unfold u_lay at hlay
  have hst := (u_facts hfc hkC (u_lays C.ts f2 f3) hi).1
  have key : ∀ H1 : Heap, H1[a]? = some (cell.setSlot f.slot (mm_vv v)) → H1.size = H.size → (∀ q, q ≠ a → H1[q]? = H[q]?) → mm_Wx X H1 (locs ++ [⟨a, f.slot⟩]) cells slots { F0 (mx_m X) pc ls (mm_vv v :: va_rf (some a) :: st.map mm_vv) with pc := pc + 3, stack := st.map mm_vv } := by
    intro H1 b1 b2 b3
    refine kk H1 _ ls (hR.put e1 e2 e3 e4 (fun b j hb => by rw [hV b j, if_neg (fun z => hb z.1)]) hlo ⟨fun _ => ?_, fun z => ?_⟩ b2 b3) (hS.put b2 b3 hlo) hl
    · rw [e2, hk]
      rw [hsl] at b1
      refine t_OB.to (V := updV (mm_V h a) k (mm_vv v)) ⟨_, b1, q2, q3, t_set q4 (fun x y hx hy => hap x y (by omega) (by omega)) (by omega) (mm_vv v)⟩ (fun j _ => ?_)
      rw [hV a j]
      unfold updV
      by_cases e : j = k
      · simp [e]
      · simp [e]
    · rw [e2, hk] at z
      omega
  cases fin with
  | false =>
    rw [if_neg (by rw [g4]; decide)] at hlay
    have h6 := u_store hfc hkC hkind hlay hi hty hn hfit
    exact W.putK C.x C.b (f := f) ⟨C.own, C.ts _ f6, ⟨_, _, _, mm_same C.ts f7 _ hi⟩, hst⟩ (by rw [q2]; exact h6) q1 q3 (by rw [hsl]; exact k2_hasslot (q4 k (by omega))) rfl rfl hd key
  | true =>
    rw [if_pos g4] at hlay
    have hcf : (mx_m X).cls = cf := by
      obtain ⟨_, _, c', _, _, _, -, -, hf', -, -, -, hown2, -⟩ := Cond.laysFinal_spec hlay
      have e1 : c' = cf := by have := hi.symm.trans hf'; simp at this; exact this.1.symm
      rw [g6 rfl] at hown2
      rw [← e1]; exact Option.some.inj (C.own.symm.trans hown2)
    have h6 := u_fits hfc hkC hkind (Or.inr hlay) hi hty hn hfit
    exact W.putFinK C.x C.b C.own (C.ts _ f6) (mm_same C.ts f7 _ hi) hst hcf (C.nm.trans (hfi rfl)) (by rw [q2]; exact h6) q1 q3 (by rw [hsl]; exact k2_hasslot (q4 k (by omega))) rfl rfl hd key
end MH
