/-! ===== count, takeUp ===== -/
section ENC6
variable {N : Nat} {i m w l d t : Nat → Int32} {x y z : Int32} {s : Nat → Int32}
theorem ck1 (h : Sm s) {α : Type} {k : Option α} : ck (gi 1 99) k = k ∧ s (1 : Int32).toNatClampNeg = nI (wide s) := ⟨by rw [show gi 1 99 = true by decide, ck_t], h.at (k := 1) (by omega)⟩
theorem ck2 (h : Sm s) {α : Type} {k : Option α} : ck (gi 2 99) k = k ∧ s (2 : Int32).toNatClampNeg = nI (high s) := ⟨by rw [show gi 2 99 = true by decide, ck_t], h.at (k := 2) (by omega)⟩
/-- how many slates are in the heap -/
def hpN (s : Nat → Int32) : Nat → Nat
  | 0 => 0
  | j + 1 => hpN s j + mny s j
def hpW (s : Nat → Int32) : Nat → Nat
  | 0 => 0
  | j + 1 => hpW s j + mny s j * wor s j
theorem e_heapSize (hN : 20 < N) (h : Sm s) (hw : wide s ≤ 4) : f_X8_heapSize N s = some (nI (hpN s (wide s))) := by
  have key : ∀ (f j : Nat), j ≤ wide s → wide s < j + f → f_X8_heapSize_L4 N s f (nI (hpN s j)) (nI j) = some (nI (hpN s (wide s))) := by
    intro f
    induction f with
    | zero => intro j h1 h2; omega
    | succ f ih =>
      intro j h1 h2
      rw [f_X8_heapSize_L4, (ck1 h).1, (ck1 h (α := Nat) (k := none)).2]
      by_cases hj : j = wide s
      · subst hj
        rw [if_pos (nI_le (Nat.le_refl _) (by omega))]
      · rw [if_neg (nI_ge (by omega) (by omega)), e_many h (by omega), bs, nI_add, nI_1]
        exact ih (j + 1) (by omega) (by omega)
  exact key N 0 (by omega) (by omega)
theorem c_slatesInHeap (hN : 20 < N) (E : Enc i m w l d t x y z s) (h : Sm s) (hw : wide s ≤ 4) : f_X3_slatesInHeap N m x = some (nI (hpN s (wide s))) := by
  have key : ∀ (f j : Nat), j ≤ wide s → wide s < j + f → f_X3_slatesInHeap_L4 N m x f (nI (hpN s j)) (nI j) = some (nI (hpN s (wide s))) := by
    intro f
    induction f with
    | zero => intro j h1 h2; omega
    | succ f ih =>
      intro j h1 h2
      rw [f_X3_slatesInHeap_L4, E.wide h]
      by_cases hj : j = wide s
      · subst hj
        rw [if_pos (nI_le (Nat.le_refl _) (by omega))]
      · rw [if_neg (nI_ge (by omega) (by omega)), ck_nI (by omega) (by omega), cl_nI (by omega), E.mny h (by omega), nI_add, nI_1, ← E.wide h]
        exact ih (j + 1) (by omega) (by omega)
  exact key N 0 (by omega) (by omega)
theorem e_heapWorth (hN : 20 < N) (h : Sm s) (hw : wide s ≤ 4) : f_X8_heapWorth N s = some (nI (hpW s (wide s))) := by
  have key : ∀ (f j : Nat), j ≤ wide s → wide s < j + f → f_X8_heapWorth_L4 N s f (nI (hpW s j)) (nI j) = some (nI (hpW s (wide s))) := by
    intro f
    induction f with
    | zero => intro j h1 h2; omega
    | succ f ih =>
      intro j h1 h2
      rw [f_X8_heapWorth_L4, (ck1 h).1, (ck1 h (α := Nat) (k := none)).2]
      by_cases hj : j = wide s
      · subst hj
        rw [if_pos (nI_le (Nat.le_refl _) (by omega))]
      · rw [if_neg (nI_ge (by omega) (by omega)), e_many h (by omega), bs, e_worth h (by omega), bs, pk_mul, nI_add, nI_1]
        exact ih (j + 1) (by omega) (by omega)
  exact key N 0 (by omega) (by omega)
theorem c_worthOfHeap (hN : 20 < N) (E : Enc i m w l d t x y z s) (h : Sm s) (hw : wide s ≤ 4) : f_X3_worthOfHeap N m w x = some (nI (hpW s (wide s))) := by
  have key : ∀ (f j : Nat), j ≤ wide s → wide s < j + f → f_X3_worthOfHeap_L4 N m w x f (nI (hpW s j)) (nI j) = some (nI (hpW s (wide s))) := by
    intro f
    induction f with
    | zero => intro j h1 h2; omega
    | succ f ih =>
      intro j h1 h2
      rw [f_X3_worthOfHeap_L4, E.wide h]
      by_cases hj : j = wide s
      · subst hj
        rw [if_pos (nI_le (Nat.le_refl _) (by omega))]
      · rw [if_neg (nI_ge (by omega) (by omega)), ck_nI (by omega) (by omega), ck_nI (by omega) (by omega), cl_nI (by omega), E.mny h (by omega), E.wor h (by omega), pk_mul, nI_add, nI_1, ← E.wide h]
        exact ih (j + 1) (by omega) (by omega)
  exact key N 0 (by omega) (by omega)
theorem r_count (hN : 20 < N) (E : Enc i m w l d t x y z s) (O : Ok s) {x1 : Int32} : ∃ a, f_X7_count N m w d x y z x1 = some a ∧ f_X8_count N s x1 = some a := by
  have h6 := O.h6
  have hw := O.w4
  unfold f_X7_count f_X8_count
  rw [c_slatesInHeap hN E O.S hw, e_heapSize hN O.S hw, c_worthOfHeap hN E O.S hw, e_heapWorth hN O.S hw, bs, bs, (ck1 O.S).1, (ck2 O.S).1, show gi 0 99 = true by decide, ck_t]
  by_cases h0 : x1 = 0
  · rw [if_pos h0, if_pos h0, E.2.1]
    exact ⟨_, rfl, rfl⟩
  rw [if_neg h0, if_neg h0]
  by_cases h1 : x1 = 1
  · rw [if_pos h1, if_pos h1, E.2.2.1]
    exact ⟨_, rfl, rfl⟩
  rw [if_neg h1, if_neg h1]
  by_cases h2 : x1 = 2
  · rw [if_pos h2, if_pos h2, E.1]
    exact ⟨_, rfl, rfl⟩
  rw [if_neg h2, if_neg h2]
  by_cases h3 : x1 = 3
  · rw [if_pos h3, if_pos h3]
    exact ⟨_, rfl, rfl⟩
  rw [if_neg h3, if_neg h3]
  by_cases h4 : x1 = 4
  · rw [if_pos h4, if_pos h4]
    have key : ∀ (f j : Nat) (v : Int32), j ≤ high s → high s < j + f → ∃ a, f_X3_rowsLaid_L4 N d y f v (nI j) = some a ∧ f_X8_count_L68 N s f v (nI j) = some a := by
      intro f
      induction f with
      | zero => intro j v h1 h2; omega
      | succ f ih =>
        intro j v h1 h2
        rw [f_X3_rowsLaid_L4, f_X8_count_L68, (ck2 O.S).1, (ck2 O.S (α := Nat) (k := none)).2, E.high O.S]
        by_cases hj : j = high s
        · subst hj
          rw [if_pos (nI_le (Nat.le_refl _) (by omega)), if_pos (nI_le (Nat.le_refl _) (by omega))]
          exact ⟨_, rfl, rfl⟩
        · have hl := O.l12 j (by omega)
          rw [if_neg (nI_ge (by omega) (by omega)), if_neg (nI_ge (by omega) (by omega)), ck_nI (by omega) (by omega), cl_nI (by omega), E.ld O.S (by omega), e_laid0 O (by omega), Int32.add_zero, nI_1, ← E.high O.S]
          by_cases hz : ld s j = 0
          · rw [hz, if_pos (show nI 0 ≤ 0 by decide), if_pos rfl]
            exact ih (j + 1) _ (by omega) (by omega)
          · rw [if_neg (nI_nle (Nat.pos_of_ne_zero hz) (by omega)), if_neg hz]
            exact ih (j + 1) _ (by omega) (by omega)
    obtain ⟨a, k1, k2⟩ := key N 0 0 (by omega) (by omega)
    refine ⟨a, ?_, k2⟩
    unfold f_X3_rowsLaid
    rw [show (0 : Int32) = nI 0 from rfl] at k1 ⊢
    rw [k1]
    rfl
  rw [if_neg h4, if_neg h4]
  by_cases h5 : x1 = 5
  · rw [if_pos h5]
    exact ⟨_, rfl, rfl⟩
  rw [if_neg h5]
  exact ⟨_, rfl, rfl⟩
end ENC6
