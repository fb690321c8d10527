/-! ===== the value of a heap and a place, by recursion ===== -/
/-- through one width more: nx is the value of what follows it -/
def vthM (ic wr : Nat → Nat) (fr : Nat → Bool) (to aim : Nat) (ve : Nat → Nat) (m : Nat → Nat) (p : Nat) (nx : Nat → Nat) (w : Nat) : Nat :=
  if m w = 0 then noV aim else if to < p + ic w then (if aim = 2 then p + ic w - to else noV aim) else if p + ic w = to then ve w else if fr (p + ic w) = true then nx w + (if aim = 1 then wr w else 0) else noV aim
def gv (W : Nat) (ic wr : Nat → Nat) (fr : Nat → Bool) (to aim : Nat) (ve : Nat → Nat) : Nat → (Nat → Nat) → Nat → Nat
  | 0, _, _ => noV aim
  | d + 1, m, p => acc aim (vthM ic wr fr to aim ve m p (fun w => gv W ic wr fr to aim ve d (dec m w) (p + ic w))) W
theorem acc_cong {aim : Nat} {f g : Nat → Nat} : ∀ j, (∀ w, w < j → f w = g w) → acc aim f j = acc aim g j
  | 0, _ => rfl
  | j + 1, h => by
    show (if aim = 0 then acc aim f j + f j else min (acc aim f j) (f j)) = (if aim = 0 then acc aim g j + g j else min (acc aim g j) (g j))
    rw [acc_cong j (fun w hw => h w (by omega)), h j (by omega)]
section GV
variable {W : Nat} {ic wr : Nat → Nat} {fr : Nat → Bool} {to aim : Nat} {ve : Nat → Nat}
theorem gv_fuel (hic : ∀ w, w < W → 1 ≤ ic w) : ∀ (d e : Nat) (m : Nat → Nat) (p : Nat), p ≤ to → to - p < d → to - p < e → gv W ic wr fr to aim ve d m p = gv W ic wr fr to aim ve e m p := by
  intro d
  induction d with
  | zero => intro e m p h1 h2; omega
  | succ d ih =>
    intro e m p h1 h2 h3
    obtain ⟨e, rfl⟩ : ∃ g, e = g + 1 := ⟨e - 1, by omega⟩
    rw [gv, gv]
    refine acc_cong W (fun w hw => ?_)
    have h1w := hic w hw
    unfold vthM
    by_cases q1 : m w = 0
    · rw [if_pos q1, if_pos q1]
    · rw [if_neg q1, if_neg q1]
      by_cases q2 : to < p + ic w
      · rw [if_pos q2, if_pos q2]
      · rw [if_neg q2, if_neg q2]
        by_cases q3 : p + ic w = to
        · rw [if_pos q3, if_pos q3]
        · rw [if_neg q3, if_neg q3]
          dsimp only
          rw [ih e (dec m w) (p + ic w) (by omega) (by omega) (by omega)]
theorem gv_cong : ∀ (d : Nat) (m m' : Nat → Nat) (p : Nat), (∀ w, w < W → m w = m' w) → gv W ic wr fr to aim ve d m p = gv W ic wr fr to aim ve d m' p := by
  intro d
  induction d with
  | zero => intro m m' p _; rfl
  | succ d ih =>
    intro m m' p h
    rw [gv, gv]
    refine acc_cong W (fun w hw => ?_)
    unfold vthM
    dsimp only
    rw [h w hw, ih (dec m w) (dec m' w) (p + ic w) (fun v hv => by
      unfold dec
      rw [h v hv])]
theorem gv_bound (hve : ∀ w, w < W → ve w ≤ 99) (hwr : ∀ w, w < W → wr w ≤ 99) (hto : to ≤ 60) (hic : ∀ w, w < W → 5 ≤ ic w ∧ ic w ≤ 30) (ha : aim ≠ 0) (d : Nat) (m : Nat → Nat) (p : Nat) : gv W ic wr fr to aim ve d m p ≤ 1000000 := by
  have hacc : ∀ (f : Nat → Nat) (j : Nat), acc aim f j ≤ 1000000 := by
    intro f j
    induction j with
    | zero =>
      show noV aim ≤ _
      unfold noV
      rw [if_neg ha]
      exact Nat.le_refl _
    | succ j ih =>
      show (if aim = 0 then acc aim f j + f j else min (acc aim f j) (f j)) ≤ _
      rw [if_neg ha]
      exact Nat.le_trans (Nat.min_le_left _ _) ih
  cases d with
  | zero =>
    show noV aim ≤ _
    unfold noV
    rw [if_neg ha]
    exact Nat.le_refl _
  | succ d => exact hacc _ _
/-- counts: a power of five bounds them -/
theorem gv_count (h0 : aim = 0) (hve : ∀ w, w < W → ve w ≤ 1) (hW : W ≤ 4) (hic : ∀ w, w < W → 5 ≤ ic w) : ∀ (d k : Nat) (m : Nat → Nat) (p : Nat), to ≤ p + 5 * k → gv W ic wr fr to aim ve d m p ≤ 4 ^ k := by
  intro d
  induction d with
  | zero =>
    intro k m p _
    show noV aim ≤ _
    unfold noV
    rw [if_pos h0]
    exact Nat.zero_le _
  | succ d ih =>
    intro k m p hk
    rw [gv]
    have hone : ∀ w, w < W → vthM ic wr fr to aim ve m p (fun w => gv W ic wr fr to aim ve d (dec m w) (p + ic w)) w * 4 ≤ 4 ^ k ∨ vthM ic wr fr to aim ve m p (fun w => gv W ic wr fr to aim ve d (dec m w) (p + ic w)) w = 0 := by
      intro w hw
      have h5 := hic w hw
      unfold vthM
      have hn : noV aim = 0 := if_pos h0
      rw [hn, if_neg (show ¬ aim = 2 by omega), if_neg (show ¬ aim = 1 by omega)]
      by_cases q1 : m w = 0
      · exact Or.inr (if_pos q1)
      · rw [if_neg q1]
        by_cases q2 : to < p + ic w
        · exact Or.inr (if_pos q2)
        · rw [if_neg q2]
          obtain ⟨k, rfl⟩ : ∃ j, k = j + 1 := ⟨k - 1, by omega⟩
          by_cases q3 : p + ic w = to
          · rw [if_pos q3]
            left
            have h1 := hve w hw
            have h4 : 1 ≤ 4 ^ k := Nat.one_le_pow _ _ (by omega)
            rw [Nat.pow_succ]
            exact Nat.mul_le_mul_right 4 (Nat.le_trans h1 h4)
          · rw [if_neg q3]
            by_cases q4 : fr (p + ic w) = true
            · rw [if_pos q4, Nat.add_zero]
              left
              rw [Nat.pow_succ]
              exact Nat.mul_le_mul_right 4 (ih k (dec m w) (p + ic w) (by omega))
            · exact Or.inr (if_neg q4)
    have hsum : ∀ j, j ≤ W → acc aim (vthM ic wr fr to aim ve m p (fun w => gv W ic wr fr to aim ve d (dec m w) (p + ic w))) j * 4 ≤ 4 ^ k * j := by
      intro j
      induction j with
      | zero =>
        intro _
        show noV aim * 4 ≤ _
        rw [show noV aim = 0 from if_pos h0]
        omega
      | succ j ihj =>
        intro hj
        have h1 := ihj (by omega)
        have h2 := hone j (by omega)
        rw [show acc aim (vthM ic wr fr to aim ve m p (fun w => gv W ic wr fr to aim ve d (dec m w) (p + ic w))) (j + 1) = acc aim (vthM ic wr fr to aim ve m p (fun w => gv W ic wr fr to aim ve d (dec m w) (p + ic w))) j + vthM ic wr fr to aim ve m p (fun w => gv W ic wr fr to aim ve d (dec m w) (p + ic w)) j from if_pos h0, Nat.add_mul, Nat.mul_add, Nat.mul_one]
        rcases h2 with g | g
        · exact Nat.add_le_add h1 g
        · rw [g, Nat.zero_mul, Nat.add_zero]
          exact Nat.le_trans h1 (Nat.le_add_right _ _)
    have h3 := hsum W (Nat.le_refl _)
    have h4 : 4 ^ k * W ≤ 4 ^ k * 4 := Nat.mul_le_mul_left _ hW
    omega
end GV
