/-! ===== what is taken, in one int ===== -/
def cod (τ : Nat → Nat) : Nat := τ 0 + 16 * τ 1 + 256 * τ 2 + 4096 * τ 3
def inc (τ : Nat → Nat) (w : Nat) : Nat → Nat := fun v => if v = w then τ v + 1 else τ v
theorem cod_lt {τ : Nat → Nat} (h : ∀ v, v < 4 → τ v ≤ 15) : cod τ < 65536 := by
  have h0 := h 0 (by omega)
  have h1 := h 1 (by omega)
  have h2 := h 2 (by omega)
  have h3 := h 3 (by omega)
  unfold cod
  omega
theorem c_of {N : Nat} {τ : Nat → Nat} (h : ∀ v, v < 4 → τ v ≤ 15) {w : Nat} (hw : w < 4) : f_X5_of N (nI (cod τ)) (nI w) = some (nI (τ w)) := by
  unfold f_X5_of
  have hc := cod_lt h
  have h0 := h 0 (by omega)
  have h1 := h 1 (by omega)
  have h2 := h 2 (by omega)
  have h3 := h 3 (by omega)
  have e15 : ∀ n : Nat, n < 2 ^ 31 → nI n &&& 15 = nI (n % 16) := fun n hn => pk_andN (m := 15) (by omega) 4 (by decide)
  have hq : w = 0 ∨ w = 1 ∨ w = 2 ∨ w = 3 := by omega
  rcases hq with rfl | rfl | rfl | rfl
  · rw [pk_shrN (by omega) _ 0 (by decide), e15 _ (by omega)]
    unfold cod
    congr 2
    omega
  · rw [pk_shrN (by omega) _ 4 (by decide), e15 _ (by omega)]
    unfold cod
    congr 2
    omega
  · rw [pk_shrN (by omega) _ 8 (by decide), e15 _ (by omega)]
    unfold cod
    congr 2
    omega
  · rw [pk_shrN (by omega) _ 12 (by decide), e15 _ (by omega)]
    unfold cod
    congr 2
    omega
theorem c_more {N : Nat} {τ : Nat → Nat} {w : Nat} (hw : w < 4) : f_X5_withOneMore N (nI (cod τ)) (nI w) = some (nI (cod (inc τ w))) := by
  unfold f_X5_withOneMore
  have hq : w = 0 ∨ w = 1 ∨ w = 2 ∨ w = 3 := by omega
  rcases hq with rfl | rfl | rfl | rfl
  · rw [show (1 : Int32) <<< ((4 * nI 0) &&& 31) = nI 1 by decide, nI_add]
    exact congrArg (fun z => some (nI z)) (by unfold cod inc; simp <;> omega)
  · rw [show (1 : Int32) <<< ((4 * nI 1) &&& 31) = nI 16 by decide, nI_add]
    exact congrArg (fun z => some (nI z)) (by unfold cod inc; simp <;> omega)
  · rw [show (1 : Int32) <<< ((4 * nI 2) &&& 31) = nI 256 by decide, nI_add]
    exact congrArg (fun z => some (nI z)) (by unfold cod inc; simp <;> omega)
  · rw [show (1 : Int32) <<< ((4 * nI 3) &&& 31) = nI 4096 by decide, nI_add]
    exact congrArg (fun z => some (nI z)) (by unfold cod inc; simp <;> omega)
/-- the slot of what is taken: mixed radix with b 0, b 1, b 2, b 3 -/
def slo (b τ : Nat → Nat) : Nat := τ 0 + b 0 * τ 1 + b 0 * b 1 * τ 2 + b 0 * b 1 * b 2 * τ 3
def stepsN (b : Nat → Nat) (w : Nat) : Nat := if w = 0 then 1 else if w = 1 then b 0 else if w = 2 then b 0 * b 1 else b 0 * b 1 * b 2
theorem slo_inc {b τ : Nat → Nat} {w : Nat} (hw : w < 4) : slo b (inc τ w) = slo b τ + stepsN b w := by
  have hq : w = 0 ∨ w = 1 ∨ w = 2 ∨ w = 3 := by omega
  unfold slo inc stepsN
  rcases hq with rfl | rfl | rfl | rfl
  · simp; omega
  · simp [Nat.mul_add]; omega
  · simp [Nat.mul_add]; omega
  · simp [Nat.mul_add]; omega
theorem mix2 {b a a' c c' : Nat} (h : a < b) (h' : a' < b) (e : a + b * c = a' + b * c') : a = a' ∧ c = c' := by
  have e1 : (a + b * c) % b = a := by rw [Nat.add_mul_mod_self_left, Nat.mod_eq_of_lt h]
  have e2 : (a' + b * c') % b = a' := by rw [Nat.add_mul_mod_self_left, Nat.mod_eq_of_lt h']
  have e3 : a = a' := by rw [← e1, ← e2, e]
  subst e3
  refine ⟨rfl, ?_⟩
  have h5 : b * c = b * c' := by omega
  exact Nat.eq_of_mul_eq_mul_left (by omega) h5
theorem slo_inj {b τ υ : Nat → Nat} (h : ∀ v, v < 4 → τ v < b v) (h' : ∀ v, v < 4 → υ v < b v) (e : slo b τ = slo b υ) : ∀ v, v < 4 → τ v = υ v := by
  unfold slo at e
  have e0 : τ 0 + b 0 * (τ 1 + b 1 * (τ 2 + b 2 * τ 3)) = υ 0 + b 0 * (υ 1 + b 1 * (υ 2 + b 2 * υ 3)) := by
    simp only [Nat.mul_add, ← Nat.mul_assoc]
    omega
  obtain ⟨q0, e1⟩ := mix2 (h 0 (by omega)) (h' 0 (by omega)) e0
  obtain ⟨q1, e2⟩ := mix2 (h 1 (by omega)) (h' 1 (by omega)) e1
  obtain ⟨q2, q3⟩ := mix2 (h 2 (by omega)) (h' 2 (by omega)) e2
  intro v hv
  have hq : v = 0 ∨ v = 1 ∨ v = 2 ∨ v = 3 := by omega
  rcases hq with rfl | rfl | rfl | rfl
  · exact q0
  · exact q1
  · exact q2
  · exact q3
theorem slo_lt {b τ : Nat → Nat} (h : ∀ v, v < 4 → τ v < b v) : slo b τ < b 0 * b 1 * b 2 * b 3 := by
  have h0 := h 0 (by omega)
  have h1 := h 1 (by omega)
  have h2 := h 2 (by omega)
  have h3 := h 3 (by omega)
  unfold slo
  have a1 : τ 0 + b 0 * τ 1 < b 0 * b 1 := by
    have : b 0 * (τ 1 + 1) ≤ b 0 * b 1 := Nat.mul_le_mul_left _ h1
    rw [Nat.mul_add] at this
    omega
  have a2 : τ 0 + b 0 * τ 1 + b 0 * b 1 * τ 2 < b 0 * b 1 * b 2 := by
    have : b 0 * b 1 * (τ 2 + 1) ≤ b 0 * b 1 * b 2 := Nat.mul_le_mul_left _ h2
    rw [Nat.mul_add] at this
    omega
  have : b 0 * b 1 * b 2 * (τ 3 + 1) ≤ b 0 * b 1 * b 2 * b 3 := Nat.mul_le_mul_left _ h3
  rw [Nat.mul_add] at this
  omega
