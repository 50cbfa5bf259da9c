/-! programs that end well: a way to walk them step by step -/
def wpo {α : Type} (p : Option (α × mm_H)) (Q : α → mm_H → Prop) : Prop := ∃ v g, p = some (v, g) ∧ Q v g
section WP
variable {α β γ : Type} {Q : β → mm_H → Prop}
theorem w_ret {v : β} {g : mm_H} (h : Q v g) : wpo (some (v, g)) Q := ⟨v, g, rfl, h⟩
theorem w_lt {x : γ} {k : γ → Option (β × mm_H)} (h : ∀ g, g = x → wpo (k g) Q) : wpo (mm_lt x k) Q := h x rfl
theorem w_lts {x : γ} {k : γ → Option (β × mm_H)} (h : wpo (k x) Q) : wpo (mm_lt x k) Q := h
theorem w_ck {c : Prop} [Decidable c] {k : Option (β × mm_H)} (h : c) (H : wpo k Q) : wpo (mm_ck c k) Q := by rw [q_ck h]; exact H
theorem w_rf {o : Option Nat} {a : Nat} {k : Nat → Option (β × mm_H)} (e : o = some a) (H : wpo (k a) Q) : wpo (mm_rf o k) Q := by rw [e]; exact H
theorem w_cl {p : Option (α × mm_H)} {v : α} {g : mm_H} {k : α → mm_H → Option (β × mm_H)} (e : p = some (v, g)) (H : wpo (k v g) Q) : wpo (mm_cl p k) Q := by rw [e]; exact H
theorem w_call {p : Option (α × mm_H)} {R : α → mm_H → Prop} {k : α → mm_H → Option (β × mm_H)} (e : wpo p R) (H : ∀ v g, R v g → wpo (k v g) Q) : wpo (mm_cl p k) Q := by
  obtain ⟨v, g, e1, e2⟩ := e
  rw [e1]; exact H v g e2
theorem w_jn1 {k : γ → Option (β × mm_H)} {b : (γ → Option (β × mm_H)) → Option (β × mm_H)} (H : wpo (b k) Q) : wpo (mm_jn k b) Q := H
theorem w_jn (P : γ → Prop) {k : γ → Option (β × mm_H)} {b : (γ → Option (β × mm_H)) → Option (β × mm_H)} (H1 : ∀ q : γ → Option (β × mm_H), (∀ v, P v → wpo (q v) Q) → wpo (b q) Q) (H2 : ∀ v, P v → wpo (k v) Q) : wpo (mm_jn k b) Q := H1 k H2
theorem w_if {c : Prop} [Decidable c] {a b : Option (β × mm_H)} (h : c) (H : wpo a Q) : wpo (if c then a else b) Q := by rw [if_pos h]; exact H
theorem w_ifn {c : Prop} [Decidable c] {a b : Option (β × mm_H)} (h : ¬ c) (H : wpo b Q) : wpo (if c then a else b) Q := by rw [if_neg h]; exact H
theorem w_ix {j n : Nat} {k : Option (β × mm_H)} (h : j < n) (hn : n < 2 ^ 31) (H : wpo k Q) : wpo (mm_ck (mm_ix (nI j) n) k) Q := w_ck (q_ix h hn) H
theorem w_ixe {j m n : Nat} {k : Option (β × mm_H)} (e : m = n) (h : j < n) (hn : n < 2 ^ 31) (H : wpo k Q) : wpo (mm_ck (mm_ix (nI j) m) k) Q := by
  subst e; exact w_ix h hn H
theorem w_mono {p : Option (β × mm_H)} {R : β → mm_H → Prop} (e : wpo p R) (H : ∀ v g, R v g → Q v g) : wpo p Q := by
  obtain ⟨v, g, e1, e2⟩ := e
  exact ⟨v, g, e1, H v g e2⟩
end WP
