/-! the pure heap: size, kind of each address, ints, longs, references (of an object its fields, of an array its elements), length of an array, where the constants lie -/
abbrev mm_H : Type := Nat × (Nat → Nat) × (Nat → Nat → Int32) × (Nat → Nat → Int64) × (Nat → Nat → Option Nat) × (Nat → Nat) × (Nat → Nat)
def mm_sz (h : mm_H) : Nat := h.1
def mm_kd (h : mm_H) : Nat → Nat := h.2.1
def mm_i (h : mm_H) : Nat → Nat → Int32 := h.2.2.1
def mm_j (h : mm_H) : Nat → Nat → Int64 := h.2.2.2.1
def mm_r (h : mm_H) : Nat → Nat → Option Nat := h.2.2.2.2.1
def mm_n (h : mm_H) : Nat → Nat := h.2.2.2.2.2.1
def mm_c (h : mm_H) : Nat → Nat := h.2.2.2.2.2.2
def mm_u2 {α : Type} (f : Nat → Nat → α) (a k : Nat) (v : α) : Nat → Nat → α := fun b j => if b = a ∧ j = k then v else f b j
def mm_u1 {α : Type} (f : Nat → α) (a : Nat) (v : α) : Nat → α := fun b => if b = a then v else f b
def mm_setI (h : mm_H) (a k : Nat) (v : Int32) : mm_H := (h.1, h.2.1, mm_u2 h.2.2.1 a k v, h.2.2.2)
def mm_setJ (h : mm_H) (a k : Nat) (v : Int64) : mm_H := (h.1, h.2.1, h.2.2.1, mm_u2 h.2.2.2.1 a k v, h.2.2.2.2)
def mm_setR (h : mm_H) (a k : Nat) (v : Option Nat) : mm_H := (h.1, h.2.1, h.2.2.1, h.2.2.2.1, mm_u2 h.2.2.2.2.1 a k v, h.2.2.2.2.2)
def mm_new (h : mm_H) (kd n : Nat) : mm_H := (h.1 + 1, mm_u1 h.2.1 h.1 kd, mm_u1 h.2.2.1 h.1 (fun _ => 0), mm_u1 h.2.2.2.1 h.1 (fun _ => 0), mm_u1 h.2.2.2.2.1 h.1 (fun _ => none), mm_u1 h.2.2.2.2.2.1 h.1 n, h.2.2.2.2.2.2)
/-- the code of a field's type by kind and place: 0 whole numbers of up to 32 bits, 1 long, 2 a reference -/
def mm_tl (c : Nat) : List Nat := match c with
  | 0 => [0, 2, 0]
  | 1 => [0, 0, 0, 0, 0, 0, 0, 0, 0, 0, 2, 2, 2]
  | 2 => [2, 2, 2, 2, 2, 0, 0, 0, 2, 2]
  | 3 => [2, 2, 2, 0, 0]
  | 4 => [2, 2, 2, 0, 2, 0]
  | 5 => [0, 0, 0, 2, 2, 2]
  | 6 => [2, 0, 2, 2, 2, 0, 0, 0, 0, 2, 0, 2, 2, 0]
  | 7 => [0, 0, 0, 0, 0]
  | 8 => [0, 0, 0, 0, 0, 0, 0]
  | 9 => [2, 2, 2, 2, 2, 0]
  | 10 => [2, 2, 0, 2, 2, 0, 2, 2, 2, 2, 2, 1, 1, 0]
  | 11 => [2, 2, 2, 2, 0, 2, 2, 2, 2, 2, 0, 2, 2, 2, 2, 0]
  | 12 => [2, 2, 2, 2, 2, 2, 2, 2, 2, 2, 2, 0, 1, 2, 0]
  | 13 => [0, 0, 0, 2, 2, 2, 2, 2, 2, 2, 0, 2, 2, 2, 2, 2, 2, 0, 0, 0, 0, 0, 0, 0, 2, 2, 2, 2, 2, 2, 2, 2, 2, 0, 0, 2, 2, 2, 0, 2, 2, 2, 2, 0, 2, 2, 2, 2, 2, 2, 2, 2, 2, 2, 2, 2, 2, 2, 2, 0, 0, 0, 2, 2, 2, 2, 2, 1, 1, 1, 1, 0, 0, 0, 0, 2, 0, 0, 2, 2, 2, 2, 2, 2, 2, 2, 2, 2, 0, 0, 0, 1, 2, 2, 2, 2, 2, 2, 2, 2, 2, 2, 0, 0, 2, 2, 2, 2, 0, 2, 2, 2, 2, 2, 0, 0, 2]
  | _ => []
def mm_ty (c k : Nat) : Nat := if c < 14 then (mm_tl c).getD k 0 else if c = 15 then 1 else if c = 18 ∨ c = 19 then 2 else 0
def mm_val (t : Nat) (h : mm_H) (a k : Nat) : Value := match t with
  | 0 => .int (mm_i h a k)
  | 1 => .long (mm_j h a k)
  | _ => va_rf (mm_r h a k)
def mm_V (h : mm_H) (a k : Nat) : Value := mm_val (mm_ty (mm_kd h a) k) h a k
def mm_nf (c : Nat) : Nat := (mm_tl c).length
def mm_at (D : va_G) (cy : Nat → ClassId) (h : mm_H) (a : Nat) (H : Heap) : Prop := (mm_kd h a < 14 → t_OB a (D.1 (mm_kd h a)) (mm_nf (mm_kd h a)) (D.2 (mm_kd h a)) H (mm_V h a)) ∧ (14 ≤ mm_kd h a → H[a]? = some (arrV (cy (mm_kd h a)) (mm_n h a) (mm_V h a)))
/-- the constants: 0 ArrayList's empty array, 1 the class object of Object[], 10 + i the text i (kind 20 + i), 40 + i its bytes (kind 60 + i) -/
def mm_kc (cy : Nat → ClassId) (h : mm_H) : Prop := (∀ i : Nat, mm_c h i = cy (100 + i)) ∧ (∀ a : Nat, 20 ≤ mm_kd h a → mm_kd h a < 42 → a = mm_c h (10 + (mm_kd h a - 20))) ∧ ∀ a : Nat, 60 ≤ mm_kd h a → mm_kd h a < 82 → a = mm_c h (40 + (mm_kd h a - 60))
/-- ArrayList's empty array: nothing but its length and class is known of it -/
def mm_emp (cy : Nat → ClassId) (H : Heap) (a : Nat) : Prop := ∃ cell : Cell, H[a]? = some cell ∧ cell.cls = cy 18 ∧ cell.vm ≠ .unknown ∧ cell.vm.isStatics = false ∧ cell.slots.size.toInt32 = Int32.ofNat 0
/-- the machine's heap H holds the pure heap h; below Hs.size it is Hs -/
def mm_R (D : va_G) (cy : Nat → ClassId) (Hs : Heap) (h : mm_H) (H : Heap) : Prop := H.size = mm_sz h ∧ Hs.size ≤ H.size ∧ (∀ q : Nat, q < Hs.size → H[q]? = Hs[q]?) ∧ (∀ a : Nat, mm_kd h a < 20 → (mm_at D cy h a H ∧ Hs.size ≤ a) ∨ (mm_kd h a = 18 ∧ mm_n h a = 0 ∧ a < Hs.size ∧ mm_emp cy H a)) ∧ mm_kc cy h
def mm_tys (cy : Nat → ClassId) : List (ClassId × FieldType) := [(cy 14, .int), (cy 15, .long), (cy 16, .byte), (cy 17, .boolean), (cy 18, .object "java/lang/Object"), (cy 19, .array .int)]
def mm_K (D : va_G) (cy : Nat → ClassId) (s : State) : Prop := va_K D vwCl (mm_tys cy) s
