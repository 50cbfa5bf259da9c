/-! THE CLAIM OUT OF ONE WALK OF THE LAW'S BODY. Your part is whole_start (and what it stands on); all else here is the same for every law, but numbers. -/
def R_law : String := "MerchantYardLaw"
def lw_P (b : Addr) (xs : List Int32) (args : Array Value) (s : State) : Prop := args = #[.ref b] ∧ s.IntsAt b xs ∧ xs.length ≤ 4096 ∧ (Jvm.Cond.and given_1 narrow_1).before args s = true
def lw_Q (_ : Array Value) (s : State) (o : Outcome) (t : State) : Prop := o = .returned (some (.int 1)) ∧ Framed s o t [] 183448 8551906
def lw_Z (below : List Frame) (a : Array Value) (s : State) : State → Prop := fun t => ∃ o, t.status = .running ∧ Ended t below o ∧ lw_Q a s o t
/-- the law's own end, with 1 on the stack, nothing written that was there before, its room as the claim has it -/
theorem lw_ret {p : Program} {l : Launch} {e : Env} {s : State} {m : MethodId} {below : List Frame} {meth : Method} {c : Code} {b : Nat} (hx : p.tables.exec = Jvm.exec) (hb : c.code = code) (hr : meth.sig.returnType = ret) (hlocks : meth.locks = false) {pc : Nat} {H : Heap} {ls : Array Slot} (hdg : decode code pc = .ok (.ireturn, 1)) : W p l e room_1 s m #[Value.ref b] below meth c H [] 183448 8551906 (lw_Z below #[Value.ref b] s) (F0 m pc ls [.int 1]) := by
  intro T hT X
  obtain ⟨fs, hret, hrun, hended, hW, hframe⟩ := X.leave (v := some (.int 1)) (hlocks := hlocks) (fun h => by rw [hr] at h; cases h)
  have hmeth' : T.vm.method? m = some meth := X.method'
  refine ⟨T.setFrames fs, ?_, .returned (some (.int 1)), hrun, hended, rfl, ⟨_, rfl⟩, hW, hframe⟩
  jvm_step X.here [X.here.top, hx, hb, hdg, hmeth', hr, ret, narrow_b1]
  (try refine ⟨rfl, ?_⟩); (try refine ⟨rfl, ?_⟩)
  first | (intro acts; rw [hret _ acts rfl rfl rfl]) | rw [hret _ _ rfl rfl rfl]
  exact Steps.refl _
/-- what holds at the law's entry: the machine, the code, the tables' words (any of lw_tbl by 'hts w (by decide +kernel)'), the script of L ints xs at the cell b, what the Statement gives of the start (any of its parts by flat_of_before) -/
def lw_At (p : Program) (s : State) (m : MethodId) (meth : Method) (c : Code) (b L : Nat) (xs : Nat → Int32) : Prop :=
  p.tables.exec = Jvm.exec ∧ c.code = code ∧ meth.sig.returnType = ret ∧ c.maxLocals = 4 ∧ s.vm.findClass R_law = some m.cls ∧ (∀ w ∈ lw_tbl, w.before #[Value.ref b] s = true) ∧ va_X b L xs s s.heap ∧ b < s.heap.size ∧ meth.locks = false ∧ (Jvm.Cond.and given_1 narrow_1).before #[Value.ref b] s = true
theorem law_of {Rl : Nat → mm_H → Prop} (P0 : ∀ h0 : mm_H, mI h0 → ∃ h1 : mm_H, (∀ K : Nat → Nat → Int32 → mm_H → Option (Int32 × mm_H), fL_s K h0 = K (mm_sz h0) (mm_sz h0 + 66) 0 h1) ∧ Rl (mm_sz h0) h1) (Pk : ∀ (B L : Nat) (xs : Nat → Int32) (k : Nat), k < 48 → ∀ (h : mm_H) (j : Nat), Rl B h → L ≤ 4096 → 8 * j + 8 ≤ L → ∃ h2 : mm_H, (∀ K, fL_k k L xs B (B + 66) (nI (8 * j)) K h = K h2) ∧ Rl B h2) {p : Program} {e : Env} {s : State} {m : MethodId} {below : List Frame} {meth : Method} {c : Code} (l : Launch) (hflags : l.flags = flags0) {b L : Nat} {xs : Nat → Int32} (hL : L ≤ 4096) (C0 : lw_At p s m meth c b L xs) (hnm : meth.name = "law") : W p l e room_1 s m #[Value.ref b] below meth c s.heap [] 0 0 (lw_Z below #[Value.ref b] s) (entryFrame m ([Value.ref b] : List Value).toArray 4) := by
  obtain ⟨hx, hb, hr, hml, hown, hts, hX, hbl, hlocks, hgv⟩ := id C0
  obtain ⟨D, cy, hK, hG, hR, hI⟩ := st_G hts (flat_of_before _ hgv)
  obtain ⟨h1, q1, hRl⟩ := P0 _ hI
  obtain ⟨B0, hB0⟩ : ∃ B0, B0 = mm_sz (mm_h0 s.heap.size (cy 100) cy) := ⟨_, rfl⟩
  rw [← hB0] at q1 hRl
  let X : mm_X := (p, l, e, room_1, s, m, #[Value.ref b], below, meth, c, lw_Z below #[Value.ref b] s, D, cy, s.heap, 4)
  have C : mm_C X cL_law yL_law 1300 183448 8551906 := ⟨hx, hb, hml, hown, fun w h => hts w (List.mem_filter.mp h).1, hK, hlocks, Nat.le_refl _, hnm, ⟨Nat.le_of_ble_eq_true rfl, Nat.le_of_ble_eq_true rfl, Nat.le_of_ble_eq_true rfl, Nat.le_of_ble_eq_true rfl⟩, hG⟩
  have hS : mm_scr X b L xs := ⟨hX, hbl, rfl⟩
  have hend : ∀ (h : mm_H) (cl sl : Nat) (lv : List (Option mm_W)), cl ≤ 183448 → sl ≤ 8551906 → mm_E X h cl sl 2017 lv [] := by
    intro h cl sl lv hc hs
    refine me_iconst (v := 1) (q := 2018) C dL_law_2017 (by decide) rfl ?_
    intro H locs ls hR2 hS2 hl2
    exact W.widen hc hs (va_forget (fun q hq => hS2.2.2 q hq) (lw_ret hx hb hr hlocks dL_law_2018))
  have hloop : mm_E X h1 200 80000 18 [some (vR (some b)), some (vR (some B0)), some (vR (some (B0 + 66))), some (vI (nI (8 * 0)))] [] := law_loop C hS hL (Pk := fun k hk h j hh hj => Pk B0 L xs k hk h j hh hL hj) hend (L / 8) 0 h1 200 80000 (Nat.zero_add _) hRl (by omega) (by omega)
  have hE : mm_E X (mm_h0 s.heap.size (cy 100) cy) 0 0 0 [some (vR (some b)), none, none, none] [] := by
    refine cL_s (cl := 0) (sl := 0) C (sb := b) (by decide) (by decide) (K := fun ax ay xi h => @ite _ (ax = B0 ∧ ay = B0 + 66 ∧ xi = 0 ∧ h = h1) (Classical.propDecidable _) (some ((0 : Int32), h1)) none) (u := (0, h1)) (fun ax ay xi h e9 => ?_) _ (by rw [q1]; exact if_pos ⟨rfl, rfl, rfl, rfl⟩)
    by_cases q : ax = B0 ∧ ay = B0 + 66 ∧ xi = 0 ∧ h = h1
    · obtain ⟨rfl, rfl, rfl, rfl⟩ := q
      exact hloop
    · rw [if_neg q] at e9; cases e9
  rw [lg_entry_eq]
  have hl := lv_entry ([.ref b]) (n := 4) (Nat.le_of_ble_eq_true rfl)
  refine hE s.heap [] _ hR va_S.rf ⟨hl.1, hl.2.1, Nat.le_of_ble_eq_true rfl, fun i v hv => ?_⟩
  match i, hv with
  | 0, hv => cases hv; exact hl.2.2 (0, .ref b) (by simp [lv_args])
  | 1, hv => cases hv
  | 2, hv => cases hv
  | 3, hv => cases hv
  | k + 4, hv => simp at hv
