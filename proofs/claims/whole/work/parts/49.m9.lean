/-! ===== the tables of ways: takes that can be reached ===== -/
def sm4 (τ : Nat → Nat) : Nat := τ 0 + τ 1 + τ 2 + τ 3
def eq4 (τ υ : Nat → Nat) : Prop := ∀ v, v < 4 → τ v = υ v
section TAB
variable (W : Nat) (ic m : Nat → Nat) (fr : Nat → Bool) (src to : Nat)
def plc (τ : Nat → Nat) : Nat := src + (τ 0 * ic 0 + τ 1 * ic 1 + τ 2 * ic 2 + τ 3 * ic 3)
/-- a take that the heap and the stretch allow -/
def VT (τ : Nat → Nat) : Prop := (∀ v, v < 4 → W ≤ v → τ v = 0) ∧ (∀ v, v < W → τ v ≤ m v) ∧ plc ic src τ ≤ to
/-- the radix of a width -/
def rdx (v : Nat) : Nat := if v < W then (if m v ≤ 60 / ic v then m v else 60 / ic v) + 1 else 1
def okS (τ : Nat → Nat) (w : Nat) : Prop := τ w < m w ∧ plc ic src τ + ic w ≤ to ∧ fr (plc ic src τ + ic w) = true
def TI (T : Nat → Nat → Nat) (n : Nat) (sos slots takes places : Nat → Int32) : Prop :=
  (∀ k, k < n → VT W ic m src to (T k) ∧ (k = 0 ∨ (fr (plc ic src (T k)) = true ∧ ∃ a v, a < k ∧ v < W ∧ okS ic m fr src to (T a) v ∧ eq4 (T k) (inc (T a) v)))) ∧
  (∀ k, k < n → slots k = nI (slo (rdx W ic m) (T k)) ∧ takes k = nI (cod (T k)) ∧ places k = nI (plc ic src (T k)) ∧ sos (slo (rdx W ic m) (T k)) = nI k) ∧
  (∀ j k, j < n → k < n → cod (T j) = cod (T k) → j = k) ∧ (1 ≤ n ∧ eq4 (T 0) (fun _ => 0)) ∧ (∀ j k, j ≤ k → k < n → sm4 (T j) ≤ sm4 (T k)) ∧ n ≤ 1820 ∧ (∀ q, q < 10296 → ∃ k, k < 1820 ∧ sos q = nI k)
/-- what the roof's widths must be -/
def WI : Prop := W ≤ 4 ∧ to ≤ 60 ∧ src ≤ to ∧ (∀ v, v < W → 5 ≤ ic v ∧ ic v ≤ 30) ∧ (∀ v u, v < W → u < W → ic v = ic u → v = u)
end TAB
section TAB2
variable {W : Nat} {ic m : Nat → Nat} {fr : Nat → Bool} {src to : Nat}
theorem mul_part {W : Nat} {ic τ : Nat → Nat} {src to : Nat} (hp : plc ic src τ ≤ to) (v : Nat) (hv : v < 4) : src + τ v * ic v ≤ to := by
  unfold plc at hp
  have hq : v = 0 ∨ v = 1 ∨ v = 2 ∨ v = 3 := by omega
  rcases hq with rfl | rfl | rfl | rfl <;> omega
theorem VT.dig (hw : WI W ic src to) {τ : Nat → Nat} (h : VT W ic m src to τ) : ∀ v, v < 4 → τ v < rdx W ic m v := by
  obtain ⟨h1, h2, h3, h4, h5⟩ := hw
  intro v hv
  unfold rdx
  by_cases hvw : v < W
  · rw [if_pos hvw]
    have q1 := h.2.1 v hvw
    have q2 := mul_part (W := W) h.2.2 v hv
    have q3 : τ v ≤ 60 / ic v := (Nat.le_div_iff_mul_le (by have := h4 v hvw; omega)).mpr (by omega)
    split <;> omega
  · rw [if_neg hvw, h.1 v hv (by omega)]
    omega
theorem VT.sum (hw : WI W ic src to) {τ : Nat → Nat} (h : VT W ic m src to τ) : sm4 τ ≤ 12 := by
  obtain ⟨h1, h2, h3, h4, h5⟩ := hw
  have key : ∀ v, v < 4 → 5 * τ v ≤ τ v * ic v := by
    intro v hv
    by_cases hvw : v < W
    · have := Nat.mul_le_mul_left (τ v) (h4 v hvw).1
      omega
    · rw [h.1 v hv (by omega)]
      omega
  have k0 := key 0 (by omega)
  have k1 := key 1 (by omega)
  have k2 := key 2 (by omega)
  have k3 := key 3 (by omega)
  have hp := h.2.2
  unfold plc at hp
  unfold sm4
  omega
theorem VT.le15 (hw : WI W ic src to) {τ : Nat → Nat} (h : VT W ic m src to τ) : ∀ v, v < 4 → τ v ≤ 12 := by
  have hs := h.sum hw
  unfold sm4 at hs
  intro v hv
  have hq : v = 0 ∨ v = 1 ∨ v = 2 ∨ v = 3 := by omega
  rcases hq with rfl | rfl | rfl | rfl <;> omega
theorem rdx_prod (hw : WI W ic src to) : rdx W ic m 0 * rdx W ic m 1 * rdx W ic m 2 * rdx W ic m 3 ≤ 10296 := by
  obtain ⟨h1, h2, h3, h4, h5⟩ := hw
  have hr : ∀ v, rdx W ic m v ≤ 60 / (if v < W then ic v else 31 + v) + 1 := by
    intro v
    unfold rdx
    by_cases hv : v < W
    · rw [if_pos hv, if_pos hv]
      split <;> omega
    · rw [if_neg hv, if_neg hv]
      exact Nat.le_add_left 1 _
  have hd : ∀ v u, v < 4 → u < 4 → v ≠ u → (if v < W then ic v else 31 + v) ≠ (if u < W then ic u else 31 + u) := by
    intro v u hv hu hne
    by_cases q1 : v < W
    · by_cases q2 : u < W
      · rw [if_pos q1, if_pos q2]
        exact fun e => hne (h5 v u q1 q2 e)
      · rw [if_pos q1, if_neg q2]
        have := h4 v q1
        omega
    · by_cases q2 : u < W
      · rw [if_neg q1, if_pos q2]
        have := h4 u q2
        omega
      · rw [if_neg q1, if_neg q2]
        omega
  have hg : ∀ v, 5 ≤ (if v < W then ic v else 31 + v) := by
    intro v
    by_cases q1 : v < W
    · rw [if_pos q1]
      exact (h4 v q1).1
    · rw [if_neg q1]
      omega
  exact Nat.le_trans (mul4 (hr 0) (hr 1) (hr 2) (hr 3)) (prod4 (hg 0) (hg 1) (hg 2) (hg 3) (hd 0 1 (by omega) (by omega) (by omega)) (hd 0 2 (by omega) (by omega) (by omega)) (hd 0 3 (by omega) (by omega) (by omega)) (hd 1 2 (by omega) (by omega) (by omega)) (hd 1 3 (by omega) (by omega) (by omega)) (hd 2 3 (by omega) (by omega) (by omega)))
theorem VT.slo (hw : WI W ic src to) {τ : Nat → Nat} (h : VT W ic m src to τ) : slo (rdx W ic m) τ < 10296 := Nat.lt_of_lt_of_le (slo_lt (h.dig hw)) (rdx_prod hw)
theorem eq4_cod {τ υ : Nat → Nat} (h : eq4 τ υ) : cod τ = cod υ := by
  unfold cod
  rw [h 0 (by omega), h 1 (by omega), h 2 (by omega), h 3 (by omega)]
end TAB2
theorem eq4_slo {b τ υ : Nat → Nat} (h : eq4 τ υ) : slo b τ = slo b υ := by
  unfold slo
  rw [h 0 (by omega), h 1 (by omega), h 2 (by omega), h 3 (by omega)]
theorem eq4_plc {ic τ υ : Nat → Nat} {src : Nat} (h : eq4 τ υ) : plc ic src τ = plc ic src υ := by
  unfold plc
  rw [h 0 (by omega), h 1 (by omega), h 2 (by omega), h 3 (by omega)]
theorem eq4_sm {τ υ : Nat → Nat} (h : eq4 τ υ) : sm4 τ = sm4 υ := by
  unfold sm4
  rw [h 0 (by omega), h 1 (by omega), h 2 (by omega), h 3 (by omega)]
theorem cod_inj {τ υ : Nat → Nat} (h : ∀ v, v < 4 → τ v ≤ 15) (h' : ∀ v, v < 4 → υ v ≤ 15) (e : cod τ = cod υ) : eq4 τ υ := by
  have a0 := h 0 (by omega)
  have a1 := h 1 (by omega)
  have a2 := h 2 (by omega)
  have a3 := h 3 (by omega)
  have b0 := h' 0 (by omega)
  have b1 := h' 1 (by omega)
  have b2 := h' 2 (by omega)
  have b3 := h' 3 (by omega)
  unfold cod at e
  intro v hv
  have hq : v = 0 ∨ v = 1 ∨ v = 2 ∨ v = 3 := by omega
  rcases hq with rfl | rfl | rfl | rfl <;> omega
theorem plc_inc {ic τ : Nat → Nat} {src w : Nat} (hw : w < 4) : plc ic src (inc τ w) = plc ic src τ + ic w := by
  have hq : w = 0 ∨ w = 1 ∨ w = 2 ∨ w = 3 := by omega
  unfold plc inc
  rcases hq with rfl | rfl | rfl | rfl <;> simp [Nat.add_mul] <;> omega
theorem sm4_inc {τ : Nat → Nat} {w : Nat} (hw : w < 4) : sm4 (inc τ w) = sm4 τ + 1 := by
  have hq : w = 0 ∨ w = 1 ∨ w = 2 ∨ w = 3 := by omega
  unfold sm4 inc
  rcases hq with rfl | rfl | rfl | rfl <;> simp <;> omega
