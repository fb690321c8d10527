/-! ===== mathematics: numbers of the decompiled functions ===== -/
theorem gi_nI {n k : Nat} (h : n < 2 ^ 31) : gi (nI n) k = decide (n < k) := by
  unfold gi
  rw [nI_clamp h]
  have h1 : ¬ nI n < 0 := nI_pos h
  simp [h1]
theorem ck_t {α : Type} {k : Option α} : ck true k = k := rfl
theorem ck_f {α : Type} {k : Option α} : ck false k = none := rfl
theorem ck_nI {α : Type} {n m : Nat} {k : Option α} (h : n < m) (hm : m < 2 ^ 31) : ck (gi (nI n) m) k = k := by
  rw [gi_nI (by omega), decide_eq_true h]
  rfl
theorem cl_nI {n : Nat} (h : n < 2 ^ 31) : (nI n).toNatClampNeg = n := nI_clamp h
theorem isIn_e (N : Nat) (x a b : Int32) : f_X8_isIn N x.toInt64 a.toInt64 b.toInt64 = some (decide (a ≤ x) && decide (x ≤ b)) := by
  unfold f_X8_isIn lg_cmp
  have e1 : ∀ p q : Int32, p.toInt64 > q.toInt64 ↔ q < p := fun p q => fa_wide_lt q p
  have e2 : ∀ p q : Int32, p.toInt64 = q.toInt64 ↔ p = q := fa_wide_eq
  simp only [e1, e2]
  rcases fa_three x a with h | h | h
  · have h2 := (fa_of_lt h)
    have h3 : ¬ a < x := h2.2.2.1
    have h4 : ¬ x = a := h2.2.2.2.1
    have h5 : ¬ a ≤ x := h2.2.1
    simp [h3, h4, h5]
  · subst h
    rcases fa_three x b with g | g | g
    · have g2 := fa_of_lt g
      simp [g2.1, g2.2.2.1, g2.2.2.2.1]
    · subst g
      simp
    · have g2 := fa_of_lt g
      simp [g2.2.1, g]
  · have h2 := fa_of_lt h
    rcases fa_three x b with g | g | g
    · have g2 := fa_of_lt g
      simp [h, h2.1, g2.1, g2.2.2.1, g2.2.2.2.1]
    · subst g
      simp [h, h2.1]
    · have g2 := fa_of_lt g
      simp [h, h2.1, g2.2.1, g]
def rN (s : Nat → Int32) (k : Nat) : Nat := (s k).toNatClampNeg
def inch (s : Nat → Int32) (w : Nat) : Nat := rN s (3 + 3 * w)
def mny (s : Nat → Int32) (w : Nat) : Nat := rN s (3 + 3 * w + 1)
def wor (s : Nat → Int32) (w : Nat) : Nat := rN s (3 + 3 * w + 2)
def len (s : Nat → Int32) (r : Nat) : Nat := rN s (15 + 14 * r)
def ld (s : Nat → Int32) (r : Nat) : Nat := rN s (15 + 14 * r + 1)
def sl (s : Nat → Int32) (r i : Nat) : Nat := rN s (15 + 14 * r + 2 + i)
def wide (s : Nat → Int32) : Nat := rN s 1
def high (s : Nat → Int32) : Nat := rN s 2
def lapn (s : Nat → Int32) : Nat := rN s 0
def sumIn (s : Nat → Int32) (r : Nat) : Nat → Nat
  | 0 => 0
  | j + 1 => sumIn s r j + inch s (sl s r j)
/-- every one of the 99 is a small number -/
def Sm (s : Nat → Int32) : Prop := ∀ k, k < 99 → s k = nI (rN s k) ∧ rN s k ≤ 99
theorem Sm.at {s : Nat → Int32} (h : Sm s) {k : Nat} (hk : k < 99) : s k = nI (rN s k) := (h k hk).1
theorem Sm.le {s : Nat → Int32} (h : Sm s) {k : Nat} (hk : k < 99) : rN s k ≤ 99 := (h k hk).2
theorem e_inches {N : Nat} {s : Nat → Int32} (h : Sm s) {w : Nat} (hw : w < 32) : f_X8_inches N s (nI w) = some (nI (inch s w)) := by
  unfold f_X8_inches
  rw [show (3 : Int32) = nI 3 from rfl, pk_mul, nI_add, ck_nI (by omega) (by omega), cl_nI (by omega), h.at (by omega)]
  rfl
theorem e_slateOf {N : Nat} {s : Nat → Int32} (h : Sm s) {r i : Nat} (hr : r < 6) (hi : i < 12) : f_X8_slateOf N s (nI r) (nI i) = some (nI (sl s r i)) := by
  unfold f_X8_slateOf
  rw [show (15 : Int32) = nI 15 from rfl, show (14 : Int32) = nI 14 from rfl, show (2 : Int32) = nI 2 from rfl, pk_mul, nI_add, nI_add, nI_add, ck_nI (by omega) (by omega), cl_nI (by omega), h.at (by omega)]
  rfl
theorem e_jointOf_L {N : Nat} {s : Nat → Int32} (h : Sm s) {r i : Nat} (hr : r < 6) (hi : i < 12) (hs : ∀ k, k ≤ i → sl s r k < 32) : ∀ (n j : Nat), j ≤ i + 1 → i + 1 < j + n → f_X8_jointOf_L5 N s (nI r) (nI i) n (nI (sumIn s r j)) (nI j) = some (nI (sumIn s r (i + 1))) := by
  intro n
  induction n with
  | zero => intro j h1 h2; omega
  | succ n ih =>
    intro j h1 h2
    rw [f_X8_jointOf_L5]
    by_cases hj : j = i + 1
    · subst hj
      rw [if_pos (nI_lt (by omega) (by omega))]
    · rw [if_neg (nI_nlt (by omega) (by omega)), e_slateOf h hr (by omega)]
      simp only [Option.bind_some]
      rw [e_inches h (hs j (by omega)), Option.bind_some, nI_add, nI_1]
      exact ih (j + 1) (by omega) (by omega)
theorem e_jointOf {N : Nat} {s : Nat → Int32} (h : Sm s) {r i : Nat} (hr : r < 6) (hi : i < 12) (hs : ∀ k, k ≤ i → sl s r k < 32) (hN : 20 < N) : f_X8_jointOf N s (nI r) (nI i) = some (nI (sumIn s r (i + 1))) := by
  unfold f_X8_jointOf
  exact e_jointOf_L h hr hi hs N 0 (by omega) (by omega)
