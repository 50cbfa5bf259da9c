/-! coins go: what is spent, what is given; x coins in flight -/
def upN (f : Nat → Nat) (k v : Nat) : Nat → Nat := fun j => if j = k then v else f j
theorem sumN_upN {f : Nat → Nat} {k v : Nat} : ∀ {n : Nat}, (k < n → sumN (upN f k v) n + f k = sumN f n + v) ∧ (n ≤ k → sumN (upN f k v) n = sumN f n) := by
  intro n
  induction n with
  | zero => exact ⟨fun z => by omega, fun _ => rfl⟩
  | succ n ih =>
    refine ⟨fun z => ?_, fun z => ?_⟩
    · simp only [sumN]
      by_cases e : k = n
      · subst e
        rw [ih.2 (Nat.le_refl _)]
        have : upN f k v k = v := if_pos rfl
        omega
      · have h1 := ih.1 (by omega)
        have : upN f k v n = f n := if_neg fun q => e q.symm
        omega
    · simp only [sumN]
      rw [ih.2 (by omega)]
      have : upN f k v n = f n := if_neg fun q => by omega
      omega
theorem sumN_at {f : Nat → Nat} {k : Nat} : ∀ {n : Nat}, k < n → f k ≤ sumN f n := by
  intro n
  induction n with
  | zero => intro z; omega
  | succ n ih =>
    intro z
    simp only [sumN]
    by_cases e : k = n
    · subst e; omega
    · have := ih (by omega); omega
def RCx (B : Nat) (hx hy : mm_H) (n : Nat) (am : Nat → Nat) (P C : Nat → Nat) (x : Nat) : Prop := mm_j hx B 12 = 0 ∧ (∀ k, k < n → mm_i hx (am k) 3 = nI (P k) ∧ mm_i hy (B + 68) k = nI (P k)) ∧ (∀ c, c < 10 → mm_i hx (B + 4) c = nI (C c) ∧ mm_i hy (B + 72) c = nI (C c)) ∧ sumN P n + sumN C 10 + x ≤ 1000000 * n
theorem nI_sub {a b : Nat} (h : b ≤ a) : nI a - nI b = nI (a - b) := by
  obtain ⟨d, rfl⟩ : ∃ d, a = b + d := ⟨a - b, by omega⟩
  rw [← nI_add, Nat.add_sub_cancel_left, Int32.add_comm, Int32.add_sub_cancel]
section CO
variable {B : Nat} {h hx hy hx' hy' : mm_H} {ow ow' : Nat → Nat × Nat} {n : Nat} {am : Nat → Nat} {P C : Nat → Nat} {x : Nat}
theorem RCx_0 : RCx B hx hy n am P C 0 ↔ RCo B hx hy n am P C := by unfold RCx RCo; rw [Nat.add_zero]; exact Iff.rfl
theorem RCx.up (R : RCx B hx hy n am P C x) (R0 : mL B ow hx (B + 1) 0 8 n am) {ms : List Nat} (u : mY B ow ms hx hx') {ms' : List Nat} (y : mY B ow ms' hy hy') (h1 : 2 ∉ ms) (h2 : 102 ∉ ms') : RCx B hx' hy' n am P C x := by
  obtain ⟨a1, a2, a3, a4⟩ := R
  refine ⟨(u.j0 (m := 2) rfl h1).trans a1, fun k hk => ⟨?_, ?_⟩, fun c hc => ⟨?_, ?_⟩, a4⟩
  · rw [u.iL (m := 2) (R0.2.2.2 k hk).1 rfl h1]; exact (a2 k hk).1
  · rw [y.iF (m := 102) (by omega) rfl h2]; exact (a2 k hk).2
  · rw [u.iF (m := 2) (by omega) rfl h1]; exact (a3 c hc).1
  · rw [y.iF (m := 102) (by omega) rfl h2]; exact (a3 c hc).2
theorem am_ne (L : mL B ow hx (B + 1) 0 8 n am) {j k : Nat} (hj : j < n) (hk : k < n) (e : j ≠ k) : am j ≠ am k := fun z => e (by
  have q1 := (L.2.2.2 j hj).1.2.2
  rw [z, (L.2.2.2 k hk).1.2.2] at q1
  exact (Prod.mk.inj q1).2.symm)
/-- s coins leave the purse of k -/
theorem RCx.sub (R : RCx B hx hy n am P C x) (L : mL B ow hx (B + 1) 0 8 n am) {k s : Nat} (hk : k < n) (hs : s ≤ P k) : RCx B (mm_setI hx (am k) 3 (nI (P k - s))) (mm_setI hy (B + 68) k (nI (P k - s))) n am (upN P k (P k - s)) C (x + s) := by
  obtain ⟨a1, a2, a3, a4⟩ := R
  have Lk := (L.2.2.2 k hk).1
  refine ⟨a1, fun j hj => ?_, fun c hc => ⟨?_, ?_⟩, ?_⟩
  · by_cases e : j = k
    · subst e
      rw [i_I, i_I, if_pos ⟨rfl, rfl⟩, if_pos ⟨rfl, rfl⟩]
      have : upN P j (P j - s) j = P j - s := if_pos rfl
      rw [this]; exact ⟨rfl, rfl⟩
    · rw [i_I, i_I, if_neg (fun z => am_ne L hj hk e z.1), if_neg (fun z => e z.2)]
      have : upN P k (P k - s) j = P j := if_neg e
      rw [this]; exact a2 j hj
  · rw [i_I, if_neg (fun z => by have := Lk.1; omega)]; exact (a3 c hc).1
  · rw [i_I, if_neg (fun z => by omega)]; exact (a3 c hc).2
  · have := (sumN_upN (f := P) (k := k) (v := P k - s) (n := n)).1 hk
    omega
/-- coins come into the purse of k -/
theorem RCx.add {s : Nat} (R : RCx B hx hy n am P C (x + s)) (L : mL B ow hx (B + 1) 0 8 n am) {k : Nat} (hk : k < n) : RCx B (mm_setI hx (am k) 3 (nI (P k + s))) (mm_setI hy (B + 68) k (nI (P k + s))) n am (upN P k (P k + s)) C x := by
  obtain ⟨a1, a2, a3, a4⟩ := R
  have Lk := (L.2.2.2 k hk).1
  refine ⟨a1, fun j hj => ?_, fun c hc => ⟨?_, ?_⟩, ?_⟩
  · by_cases e : j = k
    · subst e
      rw [i_I, i_I, if_pos ⟨rfl, rfl⟩, if_pos ⟨rfl, rfl⟩]
      have : upN P j (P j + s) j = P j + s := if_pos rfl
      rw [this]; exact ⟨rfl, rfl⟩
    · rw [i_I, i_I, if_neg (fun z => am_ne L hj hk e z.1), if_neg (fun z => e z.2)]
      have : upN P k (P k + s) j = P j := if_neg e
      rw [this]; exact a2 j hj
  · rw [i_I, if_neg (fun z => by have := Lk.1; omega)]; exact (a3 c hc).1
  · rw [i_I, if_neg (fun z => by omega)]; exact (a3 c hc).2
  · have := (sumN_upN (f := P) (k := k) (v := P k + s) (n := n)).1 hk
    omega
/-- coins come into the chest t -/
theorem RCx.chest {s : Nat} (R : RCx B hx hy n am P C (x + s)) (L : mL B ow hx (B + 1) 0 8 n am) {t : Nat} (ht : t < 10) : RCx B (mm_setI hx (B + 4) t (nI (C t + s))) (mm_setI hy (B + 72) t (nI (C t + s))) n am P (upN C t (C t + s)) x := by
  obtain ⟨a1, a2, a3, a4⟩ := R
  refine ⟨a1, fun j hj => ⟨?_, ?_⟩, fun c hc => ?_, ?_⟩
  · rw [i_I, if_neg (fun z => by have := (L.2.2.2 j hj).1.1; omega)]; exact (a2 j hj).1
  · rw [i_I, if_neg (fun z => by omega)]; exact (a2 j hj).2
  · by_cases e : c = t
    · subst e
      rw [i_I, i_I, if_pos ⟨rfl, rfl⟩, if_pos ⟨rfl, rfl⟩]
      have : upN C c (C c + s) c = C c + s := if_pos rfl
      rw [this]; exact ⟨rfl, rfl⟩
    · rw [i_I, i_I, if_neg (fun z => e z.2), if_neg (fun z => e z.2)]
      have : upN C t (C t + s) c = C c := if_neg e
      rw [this]; exact a3 c hc
  · have := (sumN_upN (f := C) (k := t) (v := C t + s) (n := 10)).1 ht
    omega
theorem x_spend {a p c : Nat} (hk : mm_kd hx a = 8) (hp : mm_i hx a 3 = nI p) (h1 : p < 2 ^ 31) (h2 : c < 2 ^ 31) : fX7_spend a (nI c) hx = some (nI (min c p), mm_setI hx a 3 (nI (p - min c p))) := by
  unfold fX7_spend
  simp only [q_rf, q_lt, q_cl, q_jn, q_b, q_b1, q_ck, kd_I, kd_J, kd_R, n_I, n_J, n_R, r_I, r_J, c_I, c_J, c_R, i_J, i_R, j_I, j_R, y_in, y_isDay, x_within, x_isDay, x_isTown, hk, hp]
  by_cases e : p < c
  · have e1 : nI p < nI c := nI_lt e h2
    rw [if_pos e1, nI_sub (Nat.le_refl _), Nat.min_eq_right (by omega)]
  · have e1 : ¬ nI p < nI c := nI_nlt (by omega) h1
    rw [if_neg e1, nI_sub (by omega), Nat.min_eq_left (by omega)]
theorem purse_le (R : RCx B hx hy n am P C x) (hn : n ≤ 40) {k : Nat} (hk : k < n) : P k + x ≤ 40000000 := by
  have := sumN_at (f := P) hk
  have := R.2.2.2
  omega
/-- give and goes: s coins in flight come to a man or a chest -/
theorem J_give (S : mS B hx) (S' : mS B hy) (L : mL B ow hx (B + 1) 0 8 n am) (hn : n ≤ 40) {s : Nat} (R : RCx B hx hy n am P C (x + s)) {c t : Int32} (hc : c = -1 ∨ ∃ k, k < n ∧ c = nI k) (ht : 0 ≤ t ∧ t ≤ 8) : ∃ hx' hy' P' C', fX11_give B c t (nI s) hx = some ((), hx') ∧ fX12_goes (B + 66) (nI s) c t hy = some ((), hy') ∧ mY B ow [2] hx hx' ∧ (∀ o : Nat → Nat × Nat, mY B o [102] hy hy') ∧ RCx B hx' hy' n am P' C' x := by
  obtain ⟨t', ht1, rfl⟩ := nI_of (Int32.not_lt.mpr ht.1)
  have ht2 : t' ≤ 8 := (nI_leI (b := 8) ht1 (by omega)).mp ht.2
  unfold fX11_give fX12_goes
  rcases hc with rfl | ⟨k, hk, rfl⟩
  · have hx1 := fun (β : Type) (z : Option β) => q_ckx (show t' < 10 by omega) (by decide) z
    have hcl := nI_clamp (n := t') (by omega)
    obtain ⟨c1, c2⟩ := R.2.2.1 t' (by omega)
    refine ⟨mm_setI hx (B + 4) t' (nI (C t' + s)), mm_setI hy (B + 72) t' (nI (C t' + s)), P, upN C t' (C t' + s), ?_, ?_, ?_, ?_, R.chest L (by omega)⟩
    · simp only [q_rf, q_lt, q_cl, q_jn, q_b, q_b1, q_ck, kd_I, kd_J, kd_R, n_I, n_J, n_R, r_I, r_J, c_I, c_J, c_R, i_J, i_R, j_I, j_R, y_in, y_isDay, x_within, x_isDay, x_isTown, sb_xbase S, hx1, hcl, c1, nI_add, not_true, if_false]
    · simp only [q_rf, q_lt, q_cl, q_jn, q_b, q_b1, q_ck, kd_I, kd_J, kd_R, n_I, n_J, n_R, r_I, r_J, c_I, c_J, c_R, i_J, i_R, j_I, j_R, y_in, y_isDay, x_within, x_isDay, x_isTown, sb_ymen S', hx1, hcl, c2, nI_add, not_true, if_false]
    · exact (mX.rf S.1).IF (m := 2) (by omega) rfl (by decide)
    · exact fun o => (mX.rf S'.1).IF (m := 102) (by omega) rfl (by decide)
  · have hne : ¬ nI k = -1 := fun z => absurd (z ▸ nI_pos' (n := k) (by omega)) (by decide)
    have hx1 := fun (β : Type) (z : Option β) => q_ckx (show k < 40 by omega) (by decide) z
    have hcl := nI_clamp (n := k) (by omega)
    obtain ⟨c1, c2⟩ := R.2.1 k hk
    obtain ⟨Lk, kd8⟩ := L.2.2.2 k hk
    have hg := x_get (sk1 S) L hk
    have hp := purse_le R hn hk
    have e1 : (2000000000 : Int32) - nI (P k) = nI (2000000000 - P k) := by
      rw [show (2000000000 : Int32) = nI 2000000000 by decide +kernel, nI_sub (by omega)]
    have e2 : ¬ nI (2000000000 - P k) < nI s := nI_nlt (by omega) (by omega)
    have e3 : nI s - nI s = 0 := Int32.sub_self _
    have e4 : mm_j hx B 12 = 0 := R.1
    have e5 : (0 : Int64) + Int32.toInt64 0 = 0 := by decide +kernel
    refine ⟨mm_setJ (mm_setI hx (am k) 3 (nI (P k + s))) B 12 0, mm_setI hy (B + 68) k (nI (P k + s)), upN P k (P k + s), C, ?_, ?_, ?_, ?_, ?_⟩
    · unfold fX7_receive
      simp only [q_rf, q_lt, q_cl, q_jn, q_b, q_b1, q_ck, kd_I, kd_J, kd_R, n_I, n_J, n_R, r_I, r_J, c_I, c_J, c_R, i_J, i_R, j_I, j_R, y_in, y_isDay, x_within, x_isDay, x_isTown, sb_xbase S, hg, kd8, c1, e1, e2, e3, e4, e5, hne, nI_add, not_false_iff, if_true, if_false]
    · simp only [q_rf, q_lt, q_cl, q_jn, q_b, q_b1, q_ck, kd_I, kd_J, kd_R, n_I, n_J, n_R, r_I, r_J, c_I, c_J, c_R, i_J, i_R, j_I, j_R, y_in, y_isDay, x_within, x_isDay, x_isTown, sb_ymen S', hx1, hcl, c2, hne, nI_add, not_false_iff, if_true]
    · exact ((mX.rf S.1).IL (m := 2) Lk rfl (by decide)).J0 (m := 2) rfl (by decide)
    · exact fun o => (mX.rf S'.1).IF (m := 102) (by omega) rfl (by decide)
    · have R2 := R.add L hk
      exact ⟨by rw [j_J, if_pos ⟨rfl, rfl⟩], R2.2⟩
end CO
