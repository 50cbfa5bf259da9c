/-! the words of the pure programs, and typed rows -/
def mm_ck {β : Type} (c : Prop) [Decidable c] (k : Option β) : Option β := if c then k else none
def mm_rf {β : Type} (o : Option Nat) (k : Nat → Option β) : Option β := match o with
  | none => none
  | some a => k a
def mm_lt {α β : Type} (x : α) (k : α → Option β) : Option β := k x
def mm_cl {α β : Type} (x : Option (α × mm_H)) (k : α → mm_H → Option β) : Option β := match x with
  | none => none
  | some p => k p.1 p.2
def mm_jn {α β : Type} (k : α) (b : α → Option β) : Option β := b k
def mm_F : Nat := 6000
theorem mm_ck_some {β : Type} {c : Prop} [Decidable c] {k : Option β} {r : β} (h : mm_ck c k = some r) : c ∧ k = some r := by
  unfold mm_ck at h
  by_cases hc : c
  · rw [if_pos hc] at h
    exact ⟨hc, h⟩
  · rw [if_neg hc] at h
    cases h
theorem mm_rf_some {β : Type} {o : Option Nat} {k : Nat → Option β} {r : β} (h : mm_rf o k = some r) : ∃ a, o = some a ∧ k a = some r := by
  cases o with
  | none => cases h
  | some a => exact ⟨a, rfl, h⟩
theorem mm_lt_some {α β : Type} {x : α} {k : α → Option β} {r : β} (h : mm_lt x k = some r) : ∃ v, v = x ∧ k v = some r := ⟨x, rfl, h⟩
theorem mm_cl_some {α β : Type} {x : Option (α × mm_H)} {k : α → mm_H → Option β} {r : β} (h : mm_cl x k = some r) : ∃ v h2, x = some (v, h2) ∧ k v h2 = some r := by
  cases x with
  | none => cases h
  | some p => exact ⟨p.1, p.2, rfl, h⟩
theorem mm_jn_some {α β : Type} {k : α} {b : α → Option β} {r : β} (h : mm_jn k b = some r) : ∃ k2, k2 = k ∧ b k2 = some r := ⟨k, rfl, h⟩
theorem mm_if_t {β : Type} {c : Prop} [Decidable c] {a b r : β} (hc : c) (h : (if c then a else b) = r) : a = r := by rwa [if_pos hc] at h
theorem mm_if_f {β : Type} {c : Prop} [Decidable c] {a b r : β} (hc : ¬ c) (h : (if c then a else b) = r) : b = r := by rwa [if_neg hc] at h
theorem mm_ri {v r : Int32} {h h1 : mm_H} (e : some (v, h) = some (r, h1)) : some (vI r) = some (vI v) ∧ h1 = h := by cases e; exact ⟨rfl, rfl⟩
theorem mm_rj {v r : Int64} {h h1 : mm_H} (e : some (v, h) = some (r, h1)) : some (vJ r) = some (vJ v) ∧ h1 = h := by cases e; exact ⟨rfl, rfl⟩
theorem mm_rr {v r : Option Nat} {h h1 : mm_H} (e : some (v, h) = some (r, h1)) : some (vR r) = some (vR v) ∧ h1 = h := by cases e; exact ⟨rfl, rfl⟩
theorem mm_ru {u w : Unit} {h h1 : mm_H} (e : some (u, h) = some (w, h1)) : (none : Option mm_W) = none ∧ h1 = h := by cases e; exact ⟨rfl, rfl⟩
theorem mm_kI {h h2 : mm_H} {a k b c : Nat} {v : Int32} (e : h2 = mm_setI h a k v) (hk : mm_kd h b = c) : mm_kd h2 b = c := by subst e; exact hk
theorem mm_kJ {h h2 : mm_H} {a k b c : Nat} {v : Int64} (e : h2 = mm_setJ h a k v) (hk : mm_kd h b = c) : mm_kd h2 b = c := by subst e; exact hk
theorem mm_kR {h h2 : mm_H} {a k b c : Nat} {v : Option Nat} (e : h2 = mm_setR h a k v) (hk : mm_kd h b = c) : mm_kd h2 b = c := by subst e; exact hk
theorem mm_kN {h h2 : mm_H} {c n : Nat} (e : h2 = mm_new h c n) : mm_kd h2 (mm_sz h) = c := by subst e; exact mm_kd_new h c n
theorem mm_sw {x : Int32} {n : Int} (h : x.toInt = n) : x = Int32.ofInt n := by rw [← h, Int32.ofInt_toInt]
section MY
variable {X : mm_X} {cc : ByteArray} {y : MethodName} {lvl mc ms : Nat} {h h2 : mm_H} {cells slots pc q : Nat} {lv : List (Option mm_W)} {st : List mm_W}
theorem me_topI {v x : Int32} (e : v = x) (k : mm_E X h cells slots pc lv (vI v :: st)) : mm_E X h cells slots pc lv (vI x :: st) := by subst e; exact k
theorem me_topJ {v x : Int64} (e : v = x) (k : mm_E X h cells slots pc lv (vJ v :: st)) : mm_E X h cells slots pc lv (vJ x :: st) := by subst e; exact k
theorem me_topR {v x : Option Nat} (e : v = x) (k : mm_E X h cells slots pc lv (vR v :: st)) : mm_E X h cells slots pc lv (vR x :: st) := by subst e; exact k
theorem me_getI (C : mm_C X cc y lvl mc ms) {n ci k : Nat} {o : Option Nat} {a : Nat} (hd : decode cc pc = .ok (.getfield n, 3)) (hf : mm_fl y.cls n ci k) (ht : mm_ty ci k = 0) (ho : o = some a) (hk : mm_kd h a = ci) (hq : pc + 3 = q) (kk : mm_E X h cells slots q lv (vI (mm_i h a k) :: st)) : mm_E X h cells slots pc lv (vR o :: st) := me_get C hd hf ho hk (by unfold mm_V; rw [hk, ht]; rfl) hq kk
theorem me_getJ (C : mm_C X cc y lvl mc ms) {n ci k : Nat} {o : Option Nat} {a : Nat} (hd : decode cc pc = .ok (.getfield n, 3)) (hf : mm_fl y.cls n ci k) (ht : mm_ty ci k = 1) (ho : o = some a) (hk : mm_kd h a = ci) (hq : pc + 3 = q) (kk : mm_E X h cells slots q lv (vJ (mm_j h a k) :: st)) : mm_E X h cells slots pc lv (vR o :: st) := me_get C hd hf ho hk (by unfold mm_V; rw [hk, ht]; rfl) hq kk
theorem me_getR (C : mm_C X cc y lvl mc ms) {n ci k : Nat} {o : Option Nat} {a : Nat} (hd : decode cc pc = .ok (.getfield n, 3)) (hf : mm_fl y.cls n ci k) (ht : mm_ty ci k = 2) (ho : o = some a) (hk : mm_kd h a = ci) (hq : pc + 3 = q) (kk : mm_E X h cells slots q lv (vR (mm_r h a k) :: st)) : mm_E X h cells slots pc lv (vR o :: st) := me_get C hd hf ho hk (by unfold mm_V; rw [hk, ht]; rfl) hq kk
theorem me_putI (C : mm_C X cc y lvl mc ms) {n ci k : Nat} {fin : Bool} {o : Option Nat} {a : Nat} {v : Int32} (e : h2 = mm_setI h a k v) (hd : decode cc pc = .ok (.putfield n, 3)) (hf : mm_fl y.cls n ci k) (hp : mm_fp y.cls ci k .int fin) (ht : mm_ty ci k = 0) (hfi : fin = true → y.name = "<init>") (ho : o = some a) (hk : mm_kd h a = ci) (hq : pc + 3 = q) (kk : mm_E X h2 cells slots q lv st) : mm_E X h cells slots pc lv (vI v :: vR o :: st) := by
  subst e
  exact me_put (h1 := mm_setI h a k v) C hd hf hp hfi ho hk rfl rfl rfl rfl rfl rfl (mm_V_setI (by rw [hk]; exact ht)) hq kk
theorem me_putZ (C : mm_C X cc y lvl mc ms) {n ci k : Nat} {fin : Bool} {o : Option Nat} {a : Nat} {v : Int32} (hv : v = 0 ∨ v = 1) (e : h2 = mm_setI h a k v) (hd : decode cc pc = .ok (.putfield n, 3)) (hf : mm_fl y.cls n ci k) (hp : mm_fp y.cls ci k .boolean fin) (ht : mm_ty ci k = 0) (hfi : fin = true → y.name = "<init>") (ho : o = some a) (hk : mm_kd h a = ci) (hq : pc + 3 = q) (kk : mm_E X h2 cells slots q lv st) : mm_E X h cells slots pc lv (vI v :: vR o :: st) := by
  subst e
  refine me_put (h1 := mm_setI h a k v) C hd hf hp hfi ho hk ?_ ?_ rfl rfl rfl rfl (mm_V_setI (by rw [hk]; exact ht)) hq kk
  · rcases hv with e | e <;> (subst e; rfl)
  · rcases hv with e | e <;> (subst e; rfl)
theorem me_putJ (C : mm_C X cc y lvl mc ms) {n ci k : Nat} {fin : Bool} {o : Option Nat} {a : Nat} {v : Int64} (e : h2 = mm_setJ h a k v) (hd : decode cc pc = .ok (.putfield n, 3)) (hf : mm_fl y.cls n ci k) (hp : mm_fp y.cls ci k .long fin) (ht : mm_ty ci k = 1) (hfi : fin = true → y.name = "<init>") (ho : o = some a) (hk : mm_kd h a = ci) (hq : pc + 3 = q) (kk : mm_E X h2 cells slots q lv st) : mm_E X h cells slots pc lv (vJ v :: vR o :: st) := by
  subst e
  exact me_put (h1 := mm_setJ h a k v) C hd hf hp hfi ho hk rfl rfl rfl rfl rfl rfl (mm_V_setJ (by rw [hk]; exact ht)) hq kk
theorem me_putR (C : mm_C X cc y lvl mc ms) {n ci k : Nat} {fin : Bool} {ty : FieldType} {o : Option Nat} {a : Nat} {v : Option Nat} (e : h2 = mm_setR h a k v) (hd : decode cc pc = .ok (.putfield n, 3)) (hf : mm_fl y.cls n ci k) (hp : mm_fp y.cls ci k ty fin) (hty : (∃ n, ty = .object n) ∨ ∃ t, ty = .array t) (ht : mm_ty ci k = 2) (hfi : fin = true → y.name = "<init>") (ho : o = some a) (hk : mm_kd h a = ci) (hq : pc + 3 = q) (kk : mm_E X h2 cells slots q lv st) : mm_E X h cells slots pc lv (vR v :: vR o :: st) := by
  subst e
  refine me_put (h1 := mm_setR h a k v) C hd hf hp hfi ho hk ?_ ?_ rfl rfl rfl rfl (mm_V_setR (by rw [hk]; exact ht)) hq kk
  · rcases hty with ⟨n, rfl⟩ | ⟨t, rfl⟩ <;> (cases v <;> rfl)
  · rcases hty with ⟨n, rfl⟩ | ⟨t, rfl⟩ <;> (cases v <;> rfl)
theorem me_iastH (C : mm_C X cc y lvl mc ms) {o : Option Nat} {a : Nat} {i : Int32} {x : Int32} (e : h2 = mm_setI h a i.toNatClampNeg x) (hd : decode cc pc = .ok (.iastore, 1)) (ho : o = some a) (hk : mm_kd h a = 14) (hi : mm_ix i (mm_n h a)) (hq : pc + 1 = q) (k : mm_E X h2 cells slots q lv st) : mm_E X h cells slots pc lv (vI x :: vI i :: vR o :: st) := by subst e; exact me_iast C hd ho hk hi hq k
theorem me_lastH (C : mm_C X cc y lvl mc ms) {o : Option Nat} {a : Nat} {i : Int32} {x : Int64} (e : h2 = mm_setJ h a i.toNatClampNeg x) (hd : decode cc pc = .ok (.lastore, 1)) (ho : o = some a) (hk : mm_kd h a = 15) (hi : mm_ix i (mm_n h a)) (hq : pc + 1 = q) (k : mm_E X h2 cells slots q lv st) : mm_E X h cells slots pc lv (vJ x :: vI i :: vR o :: st) := by subst e; exact me_last C hd ho hk hi hq k
theorem me_bastH (C : mm_C X cc y lvl mc ms) {o : Option Nat} {a : Nat} {i : Int32} {x : Int32} (e : h2 = mm_setI h a i.toNatClampNeg (x.toInt8.toInt32)) (hd : decode cc pc = .ok (.bastore, 1)) (ho : o = some a) (hk : mm_kd h a = 16) (hi : mm_ix i (mm_n h a)) (hq : pc + 1 = q) (k : mm_E X h2 cells slots q lv st) : mm_E X h cells slots pc lv (vI x :: vI i :: vR o :: st) := by subst e; exact me_bast C hd ho hk hi hq k
theorem me_zastH (C : mm_C X cc y lvl mc ms) {o : Option Nat} {a : Nat} {i : Int32} {x : Int32} (e : h2 = mm_setI h a i.toNatClampNeg (x &&& 1)) (hd : decode cc pc = .ok (.bastore, 1)) (ho : o = some a) (hk : mm_kd h a = 17) (hi : mm_ix i (mm_n h a)) (hq : pc + 1 = q) (k : mm_E X h2 cells slots q lv st) : mm_E X h cells slots pc lv (vI x :: vI i :: vR o :: st) := by subst e; exact me_zast C hd ho hk hi hq k
theorem me_newH (C : mm_C X cc y lvl mc ms) {n ci N c2 s2 : Nat} (e : h2 = mm_new h ci 0) (hd : decode cc pc = .ok (.new n, 3)) (hf : mm_fn y.cls n ci N) (hc : cells + 1 = c2) (hc2 : c2 ≤ mc) (hs : slots + N = s2) (hs2 : s2 ≤ ms) (hq : pc + 3 = q) (k : mm_E X h2 c2 s2 q lv (vR (some (mm_sz h)) :: st)) : mm_E X h cells slots pc lv st := by subst e; exact me_new C hd hf hc hc2 hs hs2 hq k
theorem me_newaI (C : mm_C X cc y lvl mc ms) {n : Int32} {B c2 s2 : Nat} (e : h2 = mm_new h 14 n.toNatClampNeg) (hd : decode cc pc = .ok (.newarray .int, 2)) (ha : Cond.arrayClass .int ∈ mm_tb) (hn : ¬ (n < 0) ∧ n.toNatClampNeg ≤ B) (hB2 : B * 8 ≤ 536870912) (hc : cells + 1 = c2) (hc2 : c2 ≤ mc) (hs : slots + B = s2) (hs2 : s2 ≤ ms) (hq : pc + 2 = q) (k : mm_E X h2 c2 s2 q lv (vR (some (mm_sz h)) :: st)) : mm_E X h cells slots pc lv (vI n :: st) := by
  subst e
  exact me_newa C (atype := .int) 0 hd ha rfl rfl (by decide) rfl (fun _ _ => rfl) hn.1 hn.2 (by show B * 4 ≤ _; omega) hc hc2 hs hs2 hq k
theorem me_newaJ (C : mm_C X cc y lvl mc ms) {n : Int32} {B c2 s2 : Nat} (e : h2 = mm_new h 15 n.toNatClampNeg) (hd : decode cc pc = .ok (.newarray .long, 2)) (ha : Cond.arrayClass .long ∈ mm_tb) (hn : ¬ (n < 0) ∧ n.toNatClampNeg ≤ B) (hB2 : B * 8 ≤ 536870912) (hc : cells + 1 = c2) (hc2 : c2 ≤ mc) (hs : slots + B = s2) (hs2 : s2 ≤ ms) (hq : pc + 2 = q) (k : mm_E X h2 c2 s2 q lv (vR (some (mm_sz h)) :: st)) : mm_E X h cells slots pc lv (vI n :: st) := by
  subst e
  exact me_newa C (atype := .long) 1 hd ha rfl rfl (by decide) rfl (fun _ _ => rfl) hn.1 hn.2 (by show B * 8 ≤ _; omega) hc hc2 hs hs2 hq k
theorem me_newaB (C : mm_C X cc y lvl mc ms) {n : Int32} {B c2 s2 : Nat} (e : h2 = mm_new h 16 n.toNatClampNeg) (hd : decode cc pc = .ok (.newarray .byte, 2)) (ha : Cond.arrayClass .byte ∈ mm_tb) (hn : ¬ (n < 0) ∧ n.toNatClampNeg ≤ B) (hB2 : B * 8 ≤ 536870912) (hc : cells + 1 = c2) (hc2 : c2 ≤ mc) (hs : slots + B = s2) (hs2 : s2 ≤ ms) (hq : pc + 2 = q) (k : mm_E X h2 c2 s2 q lv (vR (some (mm_sz h)) :: st)) : mm_E X h cells slots pc lv (vI n :: st) := by
  subst e
  exact me_newa C (atype := .byte) 2 hd ha rfl rfl (by decide) rfl (fun _ _ => rfl) hn.1 hn.2 (by show B * 1 ≤ _; omega) hc hc2 hs hs2 hq k
theorem me_newaZ (C : mm_C X cc y lvl mc ms) {n : Int32} {B c2 s2 : Nat} (e : h2 = mm_new h 17 n.toNatClampNeg) (hd : decode cc pc = .ok (.newarray .boolean, 2)) (ha : Cond.arrayClass .boolean ∈ mm_tb) (hn : ¬ (n < 0) ∧ n.toNatClampNeg ≤ B) (hB2 : B * 8 ≤ 536870912) (hc : cells + 1 = c2) (hc2 : c2 ≤ mc) (hs : slots + B = s2) (hs2 : s2 ≤ ms) (hq : pc + 2 = q) (k : mm_E X h2 c2 s2 q lv (vR (some (mm_sz h)) :: st)) : mm_E X h cells slots pc lv (vI n :: st) := by
  subst e
  exact me_newa C (atype := .boolean) 3 hd ha rfl rfl (by decide) rfl (fun _ _ => rfl) hn.1 hn.2 (by show B * 1 ≤ _; omega) hc hc2 hs hs2 hq k
end MY
