/-- the tables' words that hold as the machine goes on -/
def mm_tb : List Cond := lw_tbl.filter goodWord
theorem mm_in {w : Cond} (i : Nat) (h : lw_tbl[i]? = some w) (hg : goodWord w = true) : w ∈ mm_tb := List.mem_filter.mpr ⟨List.mem_of_getElem? h, hg⟩
theorem mm_inP {w : Cond} (i : Nat) (h : (k2_sels lw_privs)[i]? = some w) (hg : goodWord w = true) : w ∈ mm_tb := List.mem_filter.mpr ⟨List.mem_append_left _ (List.mem_of_getElem? h), hg⟩
theorem mm_in1 {w : Cond} (i : Nat) (h : tables_1_1[i]? = some w) (hg : goodWord w = true) : w ∈ mm_tb := List.mem_filter.mpr ⟨List.mem_append_right _ (show w ∈ tables_1_1 ++ (tables_1_2 ++ (tables_1_3 ++ (tables_1_4 ++ (tables_1_5 ++ (tables_1_6 ++ (tables_1_7 ++ (tables_1_8 ++ (tables_1_9 ++ tables_1_10)))))))) from (List.mem_append_left _ (List.mem_of_getElem? h))), hg⟩
theorem mm_in2 {w : Cond} (i : Nat) (h : tables_1_2[i]? = some w) (hg : goodWord w = true) : w ∈ mm_tb := List.mem_filter.mpr ⟨List.mem_append_right _ (show w ∈ tables_1_1 ++ (tables_1_2 ++ (tables_1_3 ++ (tables_1_4 ++ (tables_1_5 ++ (tables_1_6 ++ (tables_1_7 ++ (tables_1_8 ++ (tables_1_9 ++ tables_1_10)))))))) from (List.mem_append_right _ (List.mem_append_left _ (List.mem_of_getElem? h)))), hg⟩
theorem mm_in3 {w : Cond} (i : Nat) (h : tables_1_3[i]? = some w) (hg : goodWord w = true) : w ∈ mm_tb := List.mem_filter.mpr ⟨List.mem_append_right _ (show w ∈ tables_1_1 ++ (tables_1_2 ++ (tables_1_3 ++ (tables_1_4 ++ (tables_1_5 ++ (tables_1_6 ++ (tables_1_7 ++ (tables_1_8 ++ (tables_1_9 ++ tables_1_10)))))))) from (List.mem_append_right _ (List.mem_append_right _ (List.mem_append_left _ (List.mem_of_getElem? h))))), hg⟩
theorem mm_in4 {w : Cond} (i : Nat) (h : tables_1_4[i]? = some w) (hg : goodWord w = true) : w ∈ mm_tb := List.mem_filter.mpr ⟨List.mem_append_right _ (show w ∈ tables_1_1 ++ (tables_1_2 ++ (tables_1_3 ++ (tables_1_4 ++ (tables_1_5 ++ (tables_1_6 ++ (tables_1_7 ++ (tables_1_8 ++ (tables_1_9 ++ tables_1_10)))))))) from (List.mem_append_right _ (List.mem_append_right _ (List.mem_append_right _ (List.mem_append_left _ (List.mem_of_getElem? h)))))), hg⟩
theorem mm_in5 {w : Cond} (i : Nat) (h : tables_1_5[i]? = some w) (hg : goodWord w = true) : w ∈ mm_tb := List.mem_filter.mpr ⟨List.mem_append_right _ (show w ∈ tables_1_1 ++ (tables_1_2 ++ (tables_1_3 ++ (tables_1_4 ++ (tables_1_5 ++ (tables_1_6 ++ (tables_1_7 ++ (tables_1_8 ++ (tables_1_9 ++ tables_1_10)))))))) from (List.mem_append_right _ (List.mem_append_right _ (List.mem_append_right _ (List.mem_append_right _ (List.mem_append_left _ (List.mem_of_getElem? h))))))), hg⟩
theorem mm_in6 {w : Cond} (i : Nat) (h : tables_1_6[i]? = some w) (hg : goodWord w = true) : w ∈ mm_tb := List.mem_filter.mpr ⟨List.mem_append_right _ (show w ∈ tables_1_1 ++ (tables_1_2 ++ (tables_1_3 ++ (tables_1_4 ++ (tables_1_5 ++ (tables_1_6 ++ (tables_1_7 ++ (tables_1_8 ++ (tables_1_9 ++ tables_1_10)))))))) from (List.mem_append_right _ (List.mem_append_right _ (List.mem_append_right _ (List.mem_append_right _ (List.mem_append_right _ (List.mem_append_left _ (List.mem_of_getElem? h)))))))), hg⟩
theorem mm_in7 {w : Cond} (i : Nat) (h : tables_1_7[i]? = some w) (hg : goodWord w = true) : w ∈ mm_tb := List.mem_filter.mpr ⟨List.mem_append_right _ (show w ∈ tables_1_1 ++ (tables_1_2 ++ (tables_1_3 ++ (tables_1_4 ++ (tables_1_5 ++ (tables_1_6 ++ (tables_1_7 ++ (tables_1_8 ++ (tables_1_9 ++ tables_1_10)))))))) from (List.mem_append_right _ (List.mem_append_right _ (List.mem_append_right _ (List.mem_append_right _ (List.mem_append_right _ (List.mem_append_right _ (List.mem_append_left _ (List.mem_of_getElem? h))))))))), hg⟩
theorem mm_in8 {w : Cond} (i : Nat) (h : tables_1_8[i]? = some w) (hg : goodWord w = true) : w ∈ mm_tb := List.mem_filter.mpr ⟨List.mem_append_right _ (show w ∈ tables_1_1 ++ (tables_1_2 ++ (tables_1_3 ++ (tables_1_4 ++ (tables_1_5 ++ (tables_1_6 ++ (tables_1_7 ++ (tables_1_8 ++ (tables_1_9 ++ tables_1_10)))))))) from (List.mem_append_right _ (List.mem_append_right _ (List.mem_append_right _ (List.mem_append_right _ (List.mem_append_right _ (List.mem_append_right _ (List.mem_append_right _ (List.mem_append_left _ (List.mem_of_getElem? h)))))))))), hg⟩
theorem mm_in9 {w : Cond} (i : Nat) (h : tables_1_9[i]? = some w) (hg : goodWord w = true) : w ∈ mm_tb := List.mem_filter.mpr ⟨List.mem_append_right _ (show w ∈ tables_1_1 ++ (tables_1_2 ++ (tables_1_3 ++ (tables_1_4 ++ (tables_1_5 ++ (tables_1_6 ++ (tables_1_7 ++ (tables_1_8 ++ (tables_1_9 ++ tables_1_10)))))))) from (List.mem_append_right _ (List.mem_append_right _ (List.mem_append_right _ (List.mem_append_right _ (List.mem_append_right _ (List.mem_append_right _ (List.mem_append_right _ (List.mem_append_right _ (List.mem_append_left _ (List.mem_of_getElem? h))))))))))), hg⟩
theorem mm_in10 {w : Cond} (i : Nat) (h : tables_1_10[i]? = some w) (hg : goodWord w = true) : w ∈ mm_tb := List.mem_filter.mpr ⟨List.mem_append_right _ (show w ∈ tables_1_1 ++ (tables_1_2 ++ (tables_1_3 ++ (tables_1_4 ++ (tables_1_5 ++ (tables_1_6 ++ (tables_1_7 ++ (tables_1_8 ++ (tables_1_9 ++ tables_1_10)))))))) from (List.mem_append_right _ (List.mem_append_right _ (List.mem_append_right _ (List.mem_append_right _ (List.mem_append_right _ (List.mem_append_right _ (List.mem_append_right _ (List.mem_append_right _ (List.mem_append_right _ (List.mem_of_getElem? h))))))))))), hg⟩
def mm_chunk (c : Nat) : List Cond := match c with
  | 0 => k2_sels lw_privs
  | 1 => tables_1_1
  | 2 => tables_1_2
  | 3 => tables_1_3
  | 4 => tables_1_4
  | 5 => tables_1_5
  | 6 => tables_1_6
  | 7 => tables_1_7
  | 8 => tables_1_8
  | 9 => tables_1_9
  | 10 => tables_1_10
  | _ => []
theorem mm_inC {w : Cond} (c i : Nat) (h : (mm_chunk c)[i]? = some w) (hg : goodWord w = true) : w ∈ mm_tb := by
  match c, h with
  | 0, h => exact mm_inP i h hg
  | 1, h => exact mm_in1 i h hg
  | 2, h => exact mm_in2 i h hg
  | 3, h => exact mm_in3 i h hg
  | 4, h => exact mm_in4 i h hg
  | 5, h => exact mm_in5 i h hg
  | 6, h => exact mm_in6 i h hg
  | 7, h => exact mm_in7 i h hg
  | 8, h => exact mm_in8 i h hg
  | 9, h => exact mm_in9 i h hg
  | 10, h => exact mm_in10 i h hg
  | (k + 11), h => simp [mm_chunk] at h
/-! typed values, the context of a walk, the judgement mm_E -/
abbrev mm_W : Type := Int32 ⊕ Int64 ⊕ Option Nat
abbrev vI (x : Int32) : mm_W := .inl x
abbrev vJ (x : Int64) : mm_W := .inr (.inl x)
abbrev vR (x : Option Nat) : mm_W := .inr (.inr x)
def mm_vv (v : mm_W) : Value := match v with
  | .inl x => .int x
  | .inr (.inl x) => .long x
  | .inr (.inr o) => va_rf o
def mm_ct (v : mm_W) : Nat := match v with
  | .inl _ => 1
  | .inr (.inl _) => 2
  | .inr (.inr _) => 1
theorem mm_ct_eq (v : mm_W) : (mm_vv v).category = mm_ct v := by
  rcases v with x | x | o
  · rfl
  · rfl
  · cases o <;> rfl
abbrev mm_X : Type := Program × Launch × Env × Room × State × MethodId × Array Value × List Frame × Method × Code × (State → Prop) × va_G × (Nat → ClassId) × Heap × Nat
abbrev mx_p (X : mm_X) : Program := X.1
abbrev mx_l (X : mm_X) : Launch := X.2.1
abbrev mx_e (X : mm_X) : Env := X.2.2.1
abbrev mx_R (X : mm_X) : Room := X.2.2.2.1
abbrev mx_s (X : mm_X) : State := X.2.2.2.2.1
abbrev mx_m (X : mm_X) : MethodId := X.2.2.2.2.2.1
abbrev mx_a (X : mm_X) : Array Value := X.2.2.2.2.2.2.1
abbrev mx_b (X : mm_X) : List Frame := X.2.2.2.2.2.2.2.1
abbrev mx_me (X : mm_X) : Method := X.2.2.2.2.2.2.2.2.1
abbrev mx_c (X : mm_X) : Code := X.2.2.2.2.2.2.2.2.2.1
abbrev mx_Q (X : mm_X) : State → Prop := X.2.2.2.2.2.2.2.2.2.2.1
abbrev mx_D (X : mm_X) : va_G := X.2.2.2.2.2.2.2.2.2.2.2.1
abbrev mx_cy (X : mm_X) : Nat → ClassId := X.2.2.2.2.2.2.2.2.2.2.2.2.1
abbrev mx_Hs (X : mm_X) : Heap := X.2.2.2.2.2.2.2.2.2.2.2.2.2.1
abbrev mx_n (X : mm_X) : Nat := X.2.2.2.2.2.2.2.2.2.2.2.2.2.2
/-- the locals: a place each, what is known of it -/
def mm_ll (ls : Array Slot) (n : Nat) (lv : List (Option mm_W)) : Prop := ls.size = n ∧ lv_wf ls ∧ lv.length ≤ n ∧ ∀ (i : Nat) (v : mm_W), lv[i]? = some (some v) → ls[i]? = some (.val (mm_vv v))
abbrev mm_A (Hs : Heap) : Nat → Prop := fun q => Hs.size ≤ q
abbrev mm_Wx (X : mm_X) (H : Heap) (locs : List Loc) (cells slots : Nat) (g : JFrame) : Prop := W (mx_p X) (mx_l X) (mx_e X) (mx_R X) (mx_s X) (mx_m X) (mx_a X) (mx_b X) (mx_me X) (mx_c X) H locs cells slots (mx_Q X) g
def mm_E (X : mm_X) (h : mm_H) (cells slots pc : Nat) (lv : List (Option mm_W)) (st : List mm_W) : Prop :=
  ∀ (H : Heap) (locs : List Loc) (ls : Array Slot), mm_R (mx_D X) (mx_cy X) (mx_Hs X) h H → va_S (mm_A (mx_Hs X)) (mx_s X).heap H locs → mm_ll ls (mx_n X) lv → mm_Wx X H locs cells slots (F0 (mx_m X) pc ls (st.map mm_vv))
/-- the texts: whose constant, its place, the text -/
def mm_lit : List (String × Nat × String) := [("MerchantYard$LawReader", 113, "sellerbuyer kind  amountprice credithour  day   winterelder owes  late  shut  here  let   bar   fine  if    or    and   not   "), ("MerchantYardModel", 425, "let"), ("MerchantYardModel", 427, "bar"), ("MerchantYardModel", 429, "fine"), ("MerchantYardModel", 433, "if"), ("MerchantYardModel", 406, "not"), ("MerchantYardModel", 324, "seller"), ("MerchantYardModel", 325, "buyer"), ("MerchantYardModel", 326, "kind"), ("MerchantYardModel", 328, "amount"), ("MerchantYardModel", 329, "price"), ("MerchantYardModel", 331, "credit"), ("MerchantYardModel", 333, "hour"), ("MerchantYardModel", 335, "day"), ("MerchantYardModel", 337, "winter"), ("MerchantYardModel", 339, "elder"), ("MerchantYardModel", 341, "owes"), ("MerchantYardModel", 343, "late"), ("MerchantYardModel", 345, "shut"), ("MerchantYardModel", 347, "here"), ("MerchantYardModel", 418, "and"), ("MerchantYardModel", 420, "or")]
def mm_len : List Nat := [126, 3, 3, 4, 2, 3, 6, 5, 4, 6, 5, 6, 4, 3, 6, 5, 4, 4, 4, 4, 3, 2]
def mm_byt : List (List Int32) := [[115, 101, 108, 108, 101, 114, 98, 117, 121, 101, 114, 32, 107, 105, 110, 100, 32, 32, 97, 109, 111, 117, 110, 116, 112, 114, 105, 99, 101, 32, 99, 114, 101, 100, 105, 116, 104, 111, 117, 114, 32, 32, 100, 97, 121, 32, 32, 32, 119, 105, 110, 116, 101, 114, 101, 108, 100, 101, 114, 32, 111, 119, 101, 115, 32, 32, 108, 97, 116, 101, 32, 32, 115, 104, 117, 116, 32, 32, 104, 101, 114, 101, 32, 32, 108, 101, 116, 32, 32, 32, 98, 97, 114, 32, 32, 32, 102, 105, 110, 101, 32, 32, 105, 102, 32, 32, 32, 32, 111, 114, 32, 32, 32, 32, 97, 110, 100, 32, 32, 32, 110, 111, 116, 32, 32, 32], [108, 101, 116], [98, 97, 114], [102, 105, 110, 101], [105, 102], [110, 111, 116], [115, 101, 108, 108, 101, 114], [98, 117, 121, 101, 114], [107, 105, 110, 100], [97, 109, 111, 117, 110, 116], [112, 114, 105, 99, 101], [99, 114, 101, 100, 105, 116], [104, 111, 117, 114], [100, 97, 121], [119, 105, 110, 116, 101, 114], [101, 108, 100, 101, 114], [111, 119, 101, 115], [108, 97, 116, 101], [115, 104, 117, 116], [104, 101, 114, 101], [97, 110, 100], [111, 114]]
def mm_AOI (U : State) : Prop := (Cond.arrayOver (.array .int)).before #[] U = true
theorem mm_AOI.moved {u U : State} (hvm : u.vm.Alike U.vm) (h : mm_AOI u) : mm_AOI U := by
  unfold mm_AOI Cond.before Cond.holds at h
  simp only [Cond.value, beq_iff_eq] at h
  cases hc : u.vm.findClass (FieldType.array .int).toString with
  | none => simp [hc] at h
  | some comp =>
    simp only [hc, Option.bind_some, Option.bind_eq_some_iff, Option.map_eq_some_iff] at h
    obtain ⟨c, h2, k, h3, hb⟩ := h
    obtain ⟨k', hk', he⟩ := hvm.2.2 _ _ h3
    have hi : (U.vm.classes.findIdx? fun (x : Class) => match x.kind with | .array component _ => component == comp | _ => false) = some c := by
      refine (va_idx_bare U.vm comp).symm.trans ?_
      first | rw [hvm.bare_eq] | rw [← hvm.bare_eq]
      exact (va_idx_bare u.vm comp).trans h2
    cases hkind : k.kind with
    | array component ty =>
      rw [hkind] at hb
      simp only [Bool.and_eq_true, decide_eq_true_eq] at hb
      have hkind2 : k'.kind = .array component ty := by rw [he]; exact hkind
      have f1 : U.vm.findClass (FieldType.array .int).toString = some comp := by rw [hvm.findClass]; exact hc
      have f2 : U.vm.findClass ("[" ++ (FieldType.array .int).toString) = some c := by rw [hvm.findClass]; exact hb.2
      unfold mm_AOI Cond.before Cond.holds
      simp only [Cond.value]
      rw [f1, Option.bind_some]
      refine (congrArg (fun o : Option Nat => (o.bind (fun c => (U.vm.classes[c]?).map fun (k : Class) => match k.kind with | .array _ ty => decide (ty = FieldType.array .int) && decide (U.vm.findClass ("[" ++ (FieldType.array .int).toString) = some c) | _ => false) == some true)) hi).trans ?_
      simp [hk', hkind2, f2, hb.1]
    | _ => rw [hkind] at hb; simp at hb
/-- what is known of the start's constants at a state over the start's heap Hs -/
def mm_G (cy : Nat → ClassId) (Hs : Heap) (s : State) : Prop :=
  va_Z "java/util/ArrayList" "DEFAULTCAPACITY_EMPTY_ELEMENTDATA" "[Ljava/lang/Object;" (.ref (cy 100)) (mm_A Hs) s Hs ∧ va_Z "java/lang/String" "COMPACT_STRINGS" "Z" (.int 1) (mm_A Hs) s Hs ∧ va_Zq "jdk/internal/util/Preconditions" "SIOOBE_FORMATTER" "Ljava/util/function/BiFunction;" (mm_A Hs) s Hs ∧ va_Mi "[Ljava/lang/Object;" (cy 101) s ∧ va_Dc s ∧ va_AO "java/lang/Object" s ∧ mm_AOI s ∧ (∀ (i : Nat) (r : vw_C), vwCl[i]? = some r → va_Nw (.castable r.1 "java/lang/Object") s) ∧ vk_S 22 mm_len mm_byt (fun i => cy (110 + i)) (fun i => cy (140 + i)) (mm_A Hs) s Hs ∧ ∀ (i : Nat) (q : String × Nat × String), mm_lit[i]? = some q → vk_R q.1 q.2.1 q.2.2 (cy (110 + i)) s
theorem mm_G.warm {cy : Nat → ClassId} {Hs : Heap} {u U : State} (hW : u.WarmedH U.vm) (h : mm_G cy Hs u) : mm_G cy Hs U := by
  obtain ⟨h1, h2, h3, h4, h5, h6, h7, h8, h9, h10⟩ := h
  have a := hW.alike
  exact ⟨h1.moved a, h2.moved a, h3.moved a, h4.moved a, h5.moved a, h6.moved a, h7.moved a, fun i r hr => va_Nw.warmC hW (h8 i r hr), h9.moved a, fun i q hq => (h10 i q hq).warm hW⟩
def mm_C (X : mm_X) (cc : ByteArray) (y : MethodName) (lvl mc ms : Nat) : Prop :=
  (mx_p X).tables.exec = Jvm.exec ∧ (mx_c X).code = cc ∧ (mx_c X).maxLocals = mx_n X ∧ (mx_s X).vm.findClass y.cls = some (mx_m X).cls ∧ (∀ w ∈ mm_tb, w.before (mx_a X) (mx_s X) = true) ∧ mm_K (mx_D X) (mx_cy X) (mx_s X) ∧ (mx_me X).locks = false ∧ (mx_Hs X).size ≤ (mx_s X).heap.size ∧ (mx_me X).name = y.name ∧ (lvl ≤ (mx_R X).frames ∧ 64 * lvl ≤ (mx_R X).locals ∧ mc ≤ (mx_R X).cells ∧ ms ≤ (mx_R X).slots) ∧ mm_G (mx_cy X) (mx_Hs X) (mx_s X)
section MC
variable {X : mm_X} {cc : ByteArray} {y : MethodName} {lvl mc ms : Nat}
theorem mm_C.x (C : mm_C X cc y lvl mc ms) : (mx_p X).tables.exec = Jvm.exec := C.1
theorem mm_C.b (C : mm_C X cc y lvl mc ms) : (mx_c X).code = cc := C.2.1
theorem mm_C.ml (C : mm_C X cc y lvl mc ms) : (mx_c X).maxLocals = mx_n X := C.2.2.1
theorem mm_C.own (C : mm_C X cc y lvl mc ms) : (mx_s X).vm.findClass y.cls = some (mx_m X).cls := C.2.2.2.1
theorem mm_C.ts (C : mm_C X cc y lvl mc ms) : ∀ w ∈ mm_tb, w.before (mx_a X) (mx_s X) = true := C.2.2.2.2.1
theorem mm_C.K (C : mm_C X cc y lvl mc ms) : mm_K (mx_D X) (mx_cy X) (mx_s X) := C.2.2.2.2.2.1
theorem mm_C.lk (C : mm_C X cc y lvl mc ms) : (mx_me X).locks = false := C.2.2.2.2.2.2.1
theorem mm_C.hs (C : mm_C X cc y lvl mc ms) : (mx_Hs X).size ≤ (mx_s X).heap.size := C.2.2.2.2.2.2.2.1
theorem mm_C.nm (C : mm_C X cc y lvl mc ms) : (mx_me X).name = y.name := C.2.2.2.2.2.2.2.2.1
theorem mm_C.rm (C : mm_C X cc y lvl mc ms) : lvl ≤ (mx_R X).frames ∧ 64 * lvl ≤ (mx_R X).locals ∧ mc ≤ (mx_R X).cells ∧ ms ≤ (mx_R X).slots := C.2.2.2.2.2.2.2.2.2.1
theorem mm_C.G (C : mm_C X cc y lvl mc ms) : mm_G (mx_cy X) (mx_Hs X) (mx_s X) := C.2.2.2.2.2.2.2.2.2.2
end MC
/-- the entries of the locals, as the kit lists them -/
def mm_ents : Nat → List (Option mm_W) → List (Nat × Value)
  | _, [] => []
  | i, none :: l => mm_ents (i + 1) l
  | i, some v :: l => (i, mm_vv v) :: mm_ents (i + 1) l
theorem mm_ents_in : ∀ (l : List (Option mm_W)) (i j : Nat) (v : mm_W), l[j]? = some (some v) → (i + j, mm_vv v) ∈ mm_ents i l := by
  intro l
  induction l with
  | nil => intro i j v h; simp at h
  | cons a l ih =>
    intro i j v h
    cases j with
    | zero =>
      simp at h
      subst h
      exact List.mem_cons_self
    | succ j =>
      have h2 := ih (i + 1) j v (by simpa using h)
      have e : i + 1 + j = i + (j + 1) := by omega
      rw [e] at h2
      cases a with
      | none => exact h2
      | some w => exact List.mem_cons_of_mem _ h2
theorem mm_ents_of : ∀ (l : List (Option mm_W)) (i : Nat) (q : Nat × Value), q ∈ mm_ents i l → ∃ (j : Nat) (v : mm_W), l[j]? = some (some v) ∧ q = (i + j, mm_vv v) := by
  intro l
  induction l with
  | nil => intro i q h; cases h
  | cons a l ih =>
    intro i q h
    cases a with
    | none =>
      obtain ⟨j, v, h1, h2⟩ := ih (i + 1) q h
      exact ⟨j + 1, v, by simpa using h1, by rw [h2]; congr 1; omega⟩
    | some w =>
      rcases List.mem_cons.mp h with h | h
      · exact ⟨0, w, by simp, by rw [h]; rfl⟩
      · obtain ⟨j, v, h1, h2⟩ := ih (i + 1) q h
        exact ⟨j + 1, v, by simpa using h1, by rw [h2]; congr 1; omega⟩
theorem mm_ll.has {ls : Array Slot} {n : Nat} {lv : List (Option mm_W)} (h : mm_ll ls n lv) : lv_has ls n (mm_ents 0 lv) := by
  refine ⟨h.1, h.2.1, fun q hq => ?_⟩
  obtain ⟨j, v, h1, h2⟩ := mm_ents_of lv 0 q hq
  rw [h2]
  have := h.2.2.2 j v h1
  simpa using this
/-- no long lies at i - 1 -/
def mm_nol (lv : List (Option mm_W)) (i : Nat) : Bool := match i with
  | 0 => true
  | i + 1 => match lv[i]? with
    | some (some (.inr (.inl _))) => false
    | _ => true
theorem mm_nol_ct {lv : List (Option mm_W)} {i : Nat} (h : mm_nol lv (i + 1) = true) {v : mm_W} (hv : lv[i]? = some (some v)) : mm_ct v ≠ 2 := by
  simp only [mm_nol, hv] at h
  rcases v with x | x | x
  · intro e; cases e
  · cases h
  · intro e; cases e
theorem mm_ll.st1 {ls2 : Array Slot} {n i : Nat} {lv : List (Option mm_W)} {v : mm_W} (hn : lv.length ≤ n) (hi : mm_nol lv i = true) (hh : lv_has ls2 n ((i, mm_vv v) :: (mm_ents 0 lv).filter (fun q => !(q.1 == i) && !(q.1 + 1 == i && q.2.category == 2)))) : mm_ll ls2 n (lv.set i (some v)) := by
  refine ⟨hh.1, hh.2.1, by simpa using hn, fun j w hj => ?_⟩
  by_cases e : i = j
  · subst e
    rw [List.getElem?_set] at hj
    simp only [if_true] at hj
    split at hj
    · have hw : v = w := by simpa using hj
      subst hw
      exact hh.2.2 _ List.mem_cons_self
    · cases hj
  · rw [List.getElem?_set, if_neg e] at hj
    refine hh.2.2 (j, mm_vv w) (List.mem_cons_of_mem _ (List.mem_filter.mpr ⟨?_, ?_⟩))
    · simpa using mm_ents_in lv 0 j w hj
    · have e2 : ¬ j = i := fun q => e q.symm
      by_cases e3 : j + 1 = i
      · subst e3
        have := mm_nol_ct hi hj
        rw [← mm_ct_eq] at this
        simp [this]
      · simp [e2, e3]
theorem mm_ll.st2 {ls2 : Array Slot} {n i : Nat} {lv : List (Option mm_W)} {v : mm_W} (hn : lv.length ≤ n) (hi : mm_nol lv i = true) (hh : lv_has ls2 n ((i, mm_vv v) :: (mm_ents 0 lv).filter (fun q => !(q.1 == i) && (!(q.1 == i + 1) && !(q.1 + 1 == i && q.2.category == 2))))) : mm_ll ls2 n ((lv.set (i + 1) none).set i (some v)) := by
  refine ⟨hh.1, hh.2.1, by simpa using hn, fun j w hj => ?_⟩
  by_cases e : i = j
  · subst e
    rw [List.getElem?_set] at hj
    simp only [if_true] at hj
    split at hj
    · have hw : v = w := by simpa using hj
      subst hw
      exact hh.2.2 _ List.mem_cons_self
    · cases hj
  · rw [List.getElem?_set, if_neg e] at hj
    by_cases e4 : i + 1 = j
    · subst e4
      rw [List.getElem?_set] at hj
      simp only [if_true] at hj
      split at hj
      · cases hj
      · cases hj
    rw [List.getElem?_set, if_neg e4] at hj
    refine hh.2.2 (j, mm_vv w) (List.mem_cons_of_mem _ (List.mem_filter.mpr ⟨?_, ?_⟩))
    · simpa using mm_ents_in lv 0 j w hj
    · have e2 : ¬ j = i := fun q => e q.symm
      have e5 : ¬ j = i + 1 := fun q => e4 q.symm
      by_cases e3 : j + 1 = i
      · subst e3
        have := mm_nol_ct hi hj
        rw [← mm_ct_eq] at this
        simp [this, e2, e5]
      · simp [e2, e3, e5]
/-- fewer locals -/
def mm_mask : List Bool → List (Option mm_W) → List (Option mm_W)
  | b :: bs, a :: l => (if b then a else none) :: mm_mask bs l
  | _, _ => []
theorem mm_mask_at : ∀ (bs : List Bool) (l : List (Option mm_W)) (i : Nat) (v : mm_W), (mm_mask bs l)[i]? = some (some v) → l[i]? = some (some v) := by
  intro bs
  induction bs with
  | nil => intro l i v h; simp [mm_mask] at h
  | cons b bs ih =>
    intro l i v h
    cases l with
    | nil => simp [mm_mask] at h
    | cons a l =>
      cases i with
      | zero =>
        simp only [mm_mask, List.getElem?_cons_zero, Option.some.injEq] at h ⊢
        cases b
        · simp at h
        · simpa using h
      | succ i =>
        simp only [mm_mask, List.getElem?_cons_succ] at h ⊢
        exact ih l i v h
theorem mm_mask_len : ∀ (bs : List Bool) (l : List (Option mm_W)), (mm_mask bs l).length ≤ l.length := by
  intro bs
  induction bs with
  | nil => intro l; simp [mm_mask]
  | cons b bs ih =>
    intro l
    cases l with
    | nil => simp [mm_mask]
    | cons a l =>
      simp only [mm_mask, List.length_cons]
      exact Nat.succ_le_succ (ih l)
theorem mm_ll.mask {ls : Array Slot} {n : Nat} {lv : List (Option mm_W)} (h : mm_ll ls n lv) (bs : List Bool) : mm_ll ls n (mm_mask bs lv) := ⟨h.1, h.2.1, Nat.le_trans (mm_mask_len bs lv) h.2.2.1, fun i v hv => h.2.2.2 i v (mm_mask_at bs lv i v hv)⟩
