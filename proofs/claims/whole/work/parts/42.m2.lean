/-! ===== the reference's small readers, the roof's small readers ===== -/
theorem l0 : (0 : Int32) = nI 0 := rfl
theorem l1 : (1 : Int32) = nI 1 := rfl
theorem l2 : (2 : Int32) = nI 2 := rfl
theorem l3 : (3 : Int32) = nI 3 := rfl
theorem l4 : (4 : Int32) = nI 4 := rfl
theorem l12 : (12 : Int32) = nI 12 := rfl
theorem l14 : (14 : Int32) = nI 14 := rfl
theorem l15 : (15 : Int32) = nI 15 := rfl
theorem bs {α β : Type} {a : α} {f : α → Option β} : (some a).bind f = f a := rfl
theorem e_slates {N : Nat} {s : Nat → Int32} (h : Sm s) {r : Nat} (hr : r < 6) : f_X8_slates N s (nI r) = some (nI (ld s r)) := by
  unfold f_X8_slates
  rw [l15, l14, l1, pk_mul, nI_add, nI_add, ck_nI (by omega) (by omega), cl_nI (by omega), h.at (by omega)]
  rfl
theorem e_lengthOf {N : Nat} {s : Nat → Int32} (h : Sm s) {r : Nat} (hr : r < 6) : f_X8_lengthOf N s (nI r) = some (nI (len s r)) := by
  unfold f_X8_lengthOf
  rw [l15, l14, pk_mul, nI_add, ck_nI (by omega) (by omega), cl_nI (by omega), h.at (by omega)]
  rfl
theorem e_many {N : Nat} {s : Nat → Int32} (h : Sm s) {w : Nat} (hw : w < 31) : f_X8_many N s (nI w) = some (nI (mny s w)) := by
  unfold f_X8_many
  rw [l3, l1, pk_mul, nI_add, nI_add, ck_nI (by omega) (by omega), cl_nI (by omega), h.at (by omega)]
  rfl
theorem e_worth {N : Nat} {s : Nat → Int32} (h : Sm s) {w : Nat} (hw : w < 31) : f_X8_worth N s (nI w) = some (nI (wor s w)) := by
  unfold f_X8_worth
  rw [l3, l2, pk_mul, nI_add, nI_add, ck_nI (by omega) (by omega), cl_nI (by omega), h.at (by omega)]
  rfl
theorem e_isLaid {N : Nat} {s : Nat → Int32} (h : Sm s) {r : Nat} (hr : r < 6) : f_X8_isLaid N s (nI r) = some (decide (0 < ld s r)) := by
  unfold f_X8_isLaid
  have hb := h.le (k := 15 + 14 * r + 1) (by omega)
  rw [e_slates h hr, bs]
  by_cases hz : ld s r = 0
  · rw [hz, if_pos (show nI 0 ≤ 0 from by decide)]
    rfl
  · rw [if_neg (nI_nle (by omega) (by unfold ld; omega)), decide_eq_true (by omega)]
theorem sumIn_le {s : Nat → Int32} (h : Sm s) {r : Nat} (hs : ∀ k, sl s r k < 32 ∨ 12 ≤ k) : ∀ j, j ≤ 12 → sumIn s r j ≤ 99 * j
  | 0, _ => Nat.le_refl _
  | j + 1, hj => by
    have h1 := sumIn_le h hs j (by omega)
    have h2 := hs j
    have h3 : inch s (sl s r j) ≤ 99 := h.le (by omega)
    show sumIn s r j + inch s (sl s r j) ≤ _
    omega
theorem e_endOf_L {N : Nat} {s : Nat → Int32} (h : Sm s) {r : Nat} (hr : r < 6) (hd : ld s r ≤ 12) (hs : ∀ k, k < ld s r → sl s r k < 32) : ∀ (n j : Nat), j ≤ ld s r → ld s r < j + n → f_X8_endOf_L4 N s (nI r) n (nI (sumIn s r j)) (nI j) = some (nI (sumIn s r (ld s r))) := by
  intro n
  induction n with
  | zero => intro j h1 h2; omega
  | succ n ih =>
    intro j h1 h2
    rw [f_X8_endOf_L4, e_slates h hr, bs]
    by_cases hj : j = ld s r
    · rw [hj, if_pos (nI_le (Nat.le_refl _) (by omega))]
    · rw [if_neg (nI_ge (by omega) (by omega)), e_slateOf h hr (by omega), bs, e_inches h (hs j (by omega)), bs, nI_add, nI_1]
      exact ih (j + 1) (by omega) (by omega)
theorem e_endOf {N : Nat} {s : Nat → Int32} (h : Sm s) {r : Nat} (hr : r < 6) (hd : ld s r ≤ 12) (hs : ∀ k, k < ld s r → sl s r k < 32) (hN : 20 < N) : f_X8_endOf N s (nI r) = some (nI (sumIn s r (ld s r))) := by
  unfold f_X8_endOf
  exact e_endOf_L h hr hd hs N 0 (by omega) (by omega)
/-- by how much a row is cut, as an int -/
def cutI (s : Nat → Int32) (r : Nat) : Int32 := if ld s r = 0 then 0 else nI (sumIn s r (ld s r)) - nI (len s r)
theorem e_cutOf {N : Nat} {s : Nat → Int32} (h : Sm s) {r : Nat} (hr : r < 6) (hd : ld s r ≤ 12) (hs : ∀ k, k < ld s r → sl s r k < 32) (hN : 20 < N) : f_X8_cutOf N s (nI r) = some (cutI s r) := by
  unfold f_X8_cutOf cutI
  rw [e_isLaid h hr, bs]
  by_cases hz : ld s r = 0
  · rw [if_pos hz, if_pos (b2i_0.mpr (decide_eq_false (by omega)))]
  · rw [if_neg hz, if_neg (b2i_n0.mpr (decide_eq_true (by omega))), e_endOf h hr hd hs hN, bs, e_lengthOf h hr, bs]
/-- the roof's nine contents and the reference's row of 99 ints say the same -/
def Enc (i m w l d t : Nat → Int32) (x y z : Int32) (s : Nat → Int32) : Prop :=
  z = s 0 ∧ x = s 1 ∧ y = s 2 ∧ (∀ k, k < 4 → i k = s (3 + 3 * k) ∧ m k = s (3 + 3 * k + 1) ∧ w k = s (3 + 3 * k + 2)) ∧ (∀ r, r < 6 → l r = s (15 + 14 * r) ∧ d r = s (15 + 14 * r + 1) ∧ ∀ j, j < 12 → t (12 * r + j) = s (15 + 14 * r + 2 + j))
section ENC
variable {N : Nat} {i m w l d t : Nat → Int32} {x y z : Int32} {s : Nat → Int32}
theorem Enc.inch (E : Enc i m w l d t x y z s) (h : Sm s) {k : Nat} (hk : k < 4) : i k = nI (inch s k) := (E.2.2.2.1 k hk).1.trans (h.at (by omega))
theorem Enc.mny (E : Enc i m w l d t x y z s) (h : Sm s) {k : Nat} (hk : k < 4) : m k = nI (mny s k) := (E.2.2.2.1 k hk).2.1.trans (h.at (by omega))
theorem Enc.wor (E : Enc i m w l d t x y z s) (h : Sm s) {k : Nat} (hk : k < 4) : w k = nI (wor s k) := (E.2.2.2.1 k hk).2.2.trans (h.at (by omega))
theorem Enc.len (E : Enc i m w l d t x y z s) (h : Sm s) {r : Nat} (hr : r < 6) : l r = nI (len s r) := (E.2.2.2.2 r hr).1.trans (h.at (by omega))
theorem Enc.ld (E : Enc i m w l d t x y z s) (h : Sm s) {r : Nat} (hr : r < 6) : d r = nI (ld s r) := (E.2.2.2.2 r hr).2.1.trans (h.at (by omega))
theorem Enc.sl (E : Enc i m w l d t x y z s) (h : Sm s) {r j : Nat} (hr : r < 6) (hj : j < 12) : t (12 * r + j) = nI (sl s r j) := ((E.2.2.2.2 r hr).2.2 j hj).trans (h.at (by omega))
theorem Enc.wide (E : Enc i m w l d t x y z s) (h : Sm s) : x = nI (wide s) := E.2.1.trans (h.at (by omega))
theorem Enc.high (E : Enc i m w l d t x y z s) (h : Sm s) : y = nI (high s) := E.2.2.1.trans (h.at (by omega))
theorem Enc.lap (E : Enc i m w l d t x y z s) (h : Sm s) : z = nI (lapn s) := E.1.trans (h.at (by omega))
theorem c_slateAt (E : Enc i m w l d t x y z s) (h : Sm s) {r j : Nat} (hr : r < 6) (hj : j < 12) : f_X3_slateAt N t (nI r) (nI j) = some (nI (sl s r j)) := by
  unfold f_X3_slateAt
  rw [l12, pk_mul, nI_add, ck_nI (by omega) (by omega), cl_nI (by omega), Nat.mul_comm r 12, E.sl h hr hj]
end ENC
