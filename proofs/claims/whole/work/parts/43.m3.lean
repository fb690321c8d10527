/-! ===== ends, cuts, joints: both sides ===== -/
theorem ck_c0 {α : Type} {k : Option α} : ck (gi 0 99) k = k := by
  rw [show gi 0 99 = true by decide]
  rfl
theorem pI {n : Nat} (h : n ≤ 99) : n < 2 ^ 31 := by omega
section ENC
variable {N : Nat} {i m w l d t : Nat → Int32} {x y z : Int32} {s : Nat → Int32}
theorem c_endOf_L (E : Enc i m w l d t x y z s) (h : Sm s) {r e : Nat} (hr : r < 6) (hd : ld s r ≤ 12) (hs : ∀ k, k < ld s r → sl s r k < 4) (he : e < 2 ^ 30) : ∀ (n j : Nat), j ≤ e + 1 → j ≤ ld s r → 13 ≤ j + n → f_X3_endOf_L5 N i d t (nI r) (nI e) n (nI (sumIn s r j)) (nI j) = some (nI (sumIn s r (if e + 1 ≤ ld s r then e + 1 else ld s r))) := by
  intro n
  induction n with
  | zero =>
    intro j h1 h2 h3
    omega
  | succ n ih =>
    intro j h1 h2 h3
    rw [f_X3_endOf_L5]
    by_cases hj : j = e + 1
    · rw [hj, if_pos (nI_lt (by omega) (by omega)), if_pos (by omega)]
    · rw [if_neg (nI_nlt (by omega) (by omega)), ck_nI hr (by omega), cl_nI (by omega), E.ld h hr]
      by_cases hk : j = ld s r
      · rw [hk, if_pos (nI_le (Nat.le_refl _) (by omega)), if_neg (by omega)]
      · have hw := hs j (by omega)
        rw [if_neg (nI_ge (by omega) (by omega)), c_slateAt E h hr (by omega), bs, ck_nI hw (by omega), cl_nI (by omega), E.inch h hw, nI_add, nI_1]
        exact ih (j + 1) (by omega) (by omega) (by omega)
theorem c_endOf (E : Enc i m w l d t x y z s) (h : Sm s) {r e : Nat} (hr : r < 6) (hd : ld s r ≤ 12) (hs : ∀ k, k < ld s r → sl s r k < 4) (he : e < 2 ^ 30) (hN : 20 < N) : f_X3_endOf N i d t (nI r) (nI e) = some (nI (sumIn s r (if e + 1 ≤ ld s r then e + 1 else ld s r))) := by
  unfold f_X3_endOf
  exact c_endOf_L E h hr hd hs he N 0 (by omega) (by omega) (by omega)
/-- ahead of the first slate -/
theorem c_endOf_m1 (h : Sm s) {r : Nat} (hN : 20 < N) : f_X3_endOf N i d t (nI r) (nI 0 - nI 1) = some (nI 0) := by
  unfold f_X3_endOf
  match N, hN with
  | N + 1, _ =>
    rw [f_X3_endOf_L5, if_pos (by decide)]
    rfl
theorem c_cutOf (E : Enc i m w l d t x y z s) (h : Sm s) {r : Nat} (hr : r < 6) (hd : ld s r ≤ 12) (hs : ∀ k, k < ld s r → sl s r k < 4) (hN : 20 < N) : f_X3_cutOf N i l d t (nI r) = some (cutI s r) := by
  unfold f_X3_cutOf cutI
  rw [ck_nI hr (by omega), cl_nI (by omega), E.ld h hr]
  by_cases hz : ld s r = 0
  · rw [hz, if_pos (show nI 0 = 0 from rfl), if_pos rfl]
  · rw [if_neg (nI_ne0 (by omega) (by omega)), ck_nI hr (by omega), l1, pk_sub (by omega), c_endOf E h hr hd hs (by omega) hN, bs, ck_nI hr (by omega), E.len h hr, if_neg hz, if_pos (by omega), show ld s r - 1 + 1 = ld s r by omega]
/-- how many slates of a row are whole -/
def wholeN (s : Nat → Int32) (r : Nat) : Nat := if len s r < sumIn s r (ld s r) then ld s r - 1 else ld s r
theorem cutI_le {s : Nat → Int32} {r : Nat} (h1 : len s r < 2 ^ 30) (h2 : sumIn s r (ld s r) < 2 ^ 30) : cutI s r ≤ 0 ↔ (ld s r = 0 ∨ sumIn s r (ld s r) ≤ len s r) := by
  unfold cutI
  by_cases hz : ld s r = 0
  · rw [if_pos hz]
    exact ⟨fun _ => Or.inl hz, fun _ => by decide⟩
  · rw [if_neg hz]
    rw [fa_le, pk_sub_toInt h2 h1, show (0 : Int32).toInt = 0 from rfl]
    omega
theorem c_wholeOnesOf (E : Enc i m w l d t x y z s) (h : Sm s) {r : Nat} (hr : r < 6) (hd : ld s r ≤ 12) (hs : ∀ k, k < ld s r → sl s r k < 4) (hN : 20 < N) : f_X3_wholeOnesOf N i l d t (nI r) = some (nI (wholeN s r)) := by
  unfold f_X3_wholeOnesOf wholeN
  have hb : len s r ≤ 99 := h.le (by omega)
  have hsum : ∀ j, j ≤ ld s r → sumIn s r j ≤ 99 * j := by
    intro j
    induction j with
    | zero => intro _; exact Nat.le_refl _
    | succ j ih =>
      intro hj
      have h1 := ih (by omega)
      have h2 : inch s (sl s r j) ≤ 99 := h.le (by have := hs j (by omega); omega)
      show sumIn s r j + inch s (sl s r j) ≤ _
      omega
  have h3 := hsum (ld s r) (Nat.le_refl _)
  rw [c_cutOf E h hr hd hs hN, bs]
  by_cases hc : cutI s r ≤ 0
  · rw [if_pos hc, ck_nI hr (by omega), cl_nI (by omega), E.ld h hr]
    rcases (cutI_le (by omega) (by omega)).mp hc with g | g
    · by_cases hq : len s r < sumIn s r (ld s r)
      · rw [if_pos hq, g]
      · rw [if_neg hq]
    · rw [if_neg (by omega)]
  · rw [if_neg hc, ck_nI hr (by omega), cl_nI (by omega), E.ld h hr]
    obtain ⟨g1, g2⟩ := not_or.mp (fun q => hc ((cutI_le (by omega) (by omega)).mpr q))
    rw [if_pos (by omega), l1, pk_sub (by omega)]
end ENC
/-- p holds at j, j + 1, .., j + n - 1 -/
def af (p : Nat → Bool) (j : Nat) : Nat → Bool
  | 0 => true
  | n + 1 => p j && af p (j + 1) n
def absd (a b : Nat) : Nat := if a ≤ b then b - a else a - b
def okJ (s : Nat → Int32) (q x i : Nat) : Bool := decide (lapn s ≤ absd x (sumIn s q (i + 1)))
def mayB (s : Nat → Int32) (r x : Nat) : Bool := if r = 0 then true else af (okJ s (r - 1) x) 0 (ld s (r - 1) - 1)
theorem nI_le_iff {a b : Nat} (ha : a < 2 ^ 31) (hb : b < 2 ^ 31) : nI a ≤ nI b ↔ a ≤ b := nI_leI ha hb
theorem sumIn_b {s : Nat → Int32} (h : Sm s) {r : Nat} {k : Nat} (hs : ∀ j, j < k → sl s r j < 32) : ∀ j, j ≤ k → sumIn s r j ≤ 99 * j := by
  intro j
  induction j with
  | zero => intro _; exact Nat.le_refl _
  | succ j ih =>
    intro hj
    have h1 := ih (by omega)
    have h2 : inch s (sl s r j) ≤ 99 := h.le (by have := hs j (by omega); omega)
    show sumIn s r j + inch s (sl s r j) ≤ _
    omega
theorem e_mayBe_L {N : Nat} {s : Nat → Int32} (h : Sm s) {q x : Nat} (hr : q < 6) (hx : x < 2 ^ 20) (hd : ld s q ≤ 12) (hs : ∀ k, k < ld s q → sl s q k < 32) (hN : 20 < N) : ∀ (n j : Nat), j ≤ ld s q → 13 ≤ j + n → f_X8_mayBe_L8 N s (nI (q + 1)) (nI x) n (nI j) = some (af (okJ s q x) j (ld s q - 1 - j)) := by
  intro n
  induction n with
  | zero => intro j h1 h2; omega
  | succ n ih =>
    intro j h1 h2
    have hlap : lapn s ≤ 99 := h.le (by omega)
    rw [f_X8_mayBe_L8, l1, pk_sub (by omega), show q + 1 - 1 = q by omega, e_slates h hr, bs]
    by_cases hz : ld s q = 0
    · have hj0 : j = 0 := by omega
      rw [hz, hj0, if_pos (by decide)]
      rfl
    · rw [pk_sub (by omega)]
      by_cases hj : ld s q - 1 ≤ j
      · rw [if_pos (nI_le hj (by omega)), show ld s q - 1 - j = 0 by omega]
        rfl
      · have hb := sumIn_b h hs (j + 1) (by omega)
        rw [if_neg (nI_ge (by omega) (by omega)), e_jointOf h hr (by omega) (fun k hk => hs k (by omega)) hN, bs, show ld s q - 1 - j = (ld s q - 1 - (j + 1)) + 1 by omega, af]
        have hrec := ih (j + 1) (by omega) (by omega)
        have hz0 : (s (0 : Int32).toNatClampNeg) = nI (lapn s) := h.at (k := 0) (by omega)
        by_cases hxs : sumIn s q (j + 1) ≤ x
        · rw [pk_sub hxs, if_pos (nI_pos' (by omega)), ck_c0, hz0]
          by_cases hl : lapn s ≤ x - sumIn s q (j + 1)
          · have hok : okJ s q x j = true := decide_eq_true (by unfold absd; split <;> omega)
            rw [if_pos (nI_le hl (by omega)), hok, Bool.true_and, nI_add]
            exact hrec
          · have hok : okJ s q x j = false := decide_eq_false (by unfold absd; split <;> omega)
            rw [if_neg (nI_ge (by omega) (by omega)), hok, Bool.false_and]
        · have hneg : ¬ (0 : Int32) ≤ nI x - nI (sumIn s q (j + 1)) := by
            rw [fa_le, pk_sub_toInt (by omega) (by omega), show (0 : Int32).toInt = 0 from rfl]
            omega
          have hflip : -(nI x - nI (sumIn s q (j + 1))) = nI (sumIn s q (j + 1) - x) := by
            rw [Int32.neg_sub, pk_sub (by omega)]
          rw [if_neg hneg, ck_c0, hz0, hflip]
          by_cases hl : lapn s ≤ sumIn s q (j + 1) - x
          · have hok : okJ s q x j = true := decide_eq_true (by unfold absd; split <;> omega)
            rw [if_pos (nI_le hl (by omega)), hok, Bool.true_and, nI_add]
            exact hrec
          · have hok : okJ s q x j = false := decide_eq_false (by unfold absd; split <;> omega)
            rw [if_neg (nI_ge (by omega) (by omega)), hok, Bool.false_and]
theorem e_mayBe {N : Nat} {s : Nat → Int32} (h : Sm s) {r x : Nat} (hr : r < 6) (hx : x < 2 ^ 20) (hd : ∀ q, q < 6 → ld s q ≤ 12) (hs : ∀ q k, q < 6 → k < ld s q → sl s q k < 32) (hN : 20 < N) : f_X8_mayBe N s (nI r) (nI x) = some (mayB s r x) := by
  unfold f_X8_mayBe mayB
  by_cases hz : r = 0
  · rw [hz, if_pos (show nI 0 = 0 from rfl), if_pos rfl]
  · rw [if_neg (nI_ne0 (by omega) (by omega)), if_neg hz]
    obtain ⟨q, rfl⟩ : ∃ q, r = q + 1 := ⟨r - 1, by omega⟩
    exact e_mayBe_L h (by omega) hx (hd q (by omega)) (fun k => hs q k (by omega)) hN N 0 (by omega) (by omega)
section ENC2
variable {N : Nat} {i m w l d t : Nat → Int32} {x y z : Int32} {s : Nat → Int32}
theorem ab_d {a b : Nat} (ha : a < 2 ^ 30) (hb : b < 2 ^ 30) : ab (nI a - nI b) = nI (absd a b) := by
  unfold ab absd
  by_cases h : b ≤ a
  · rw [pk_sub h, if_pos (nI_pos' (by omega))]
    by_cases h2 : a ≤ b
    · rw [if_pos h2, show a = b by omega]
    · rw [if_neg h2]
  · have hneg : ¬ (0 : Int32) ≤ nI a - nI b := by
      rw [fa_le, pk_sub_toInt ha hb, show (0 : Int32).toInt = 0 from rfl]
      omega
    rw [if_neg hneg, if_pos (by omega)]
    rw [Int32.zero_sub, Int32.neg_sub, pk_sub (by omega)]
theorem c_allowsJoint_L (E : Enc i m w l d t x y z s) (h : Sm s) {q X : Nat} (hr : q < 6) (hx : X < 2 ^ 20) (hd : ld s q ≤ 12) (hs : ∀ k, k < ld s q → sl s q k < 4) : ∀ (n j : Nat), j ≤ ld s q → 13 ≤ j + n → f_X3_allowsJoint_L12 N i d t z (nI (q + 1)) (nI X) n (nI (sumIn s q j)) (nI j) = some (af (okJ s q X) j (ld s q - 1 - j)) := by
  intro n
  induction n with
  | zero => intro j h1 h2; omega
  | succ n ih =>
    intro j h1 h2
    have hlap : lapn s ≤ 99 := h.le (by omega)
    rw [f_X3_allowsJoint_L12, l1, pk_sub (by omega), show q + 1 - 1 = q by omega, ck_nI hr (by omega), cl_nI (by omega), E.ld h hr]
    by_cases hz : ld s q = 0
    · have hj0 : j = 0 := by omega
      rw [hz, hj0, if_pos (by decide)]
      rfl
    · rw [pk_sub (by omega)]
      by_cases hj : ld s q - 1 ≤ j
      · rw [if_pos (nI_le hj (by omega)), show ld s q - 1 - j = 0 by omega]
        rfl
      · have hb := sumIn_b h (fun k hk => Nat.lt_trans (hs k hk) (by omega)) (j + 1) (by omega)
        have hw := hs j (by omega)
        rw [if_neg (nI_ge (by omega) (by omega)), c_slateAt E h hr (by omega), bs, ck_nI hw (by omega), cl_nI (by omega), E.inch h hw, nI_add, show ld s q - 1 - j = (ld s q - 1 - (j + 1)) + 1 by omega, af]
        rw [show sumIn s q j + inch s (sl s q j) = sumIn s q (j + 1) from rfl, ab_d (by omega) (by omega), E.lap h]
        have hrec := ih (j + 1) (by omega) (by omega)
        rw [E.lap h] at hrec
        by_cases hl : lapn s ≤ absd X (sumIn s q (j + 1))
        · have hok : okJ s q X j = true := decide_eq_true hl
          rw [if_pos (nI_le hl (by unfold absd; split <;> omega)), hok, Bool.true_and, nI_add]
          exact hrec
        · have hok : okJ s q X j = false := decide_eq_false hl
          rw [if_neg (nI_ge (by omega) (by omega)), hok, Bool.false_and]
theorem c_allowsJoint (E : Enc i m w l d t x y z s) (h : Sm s) {r X : Nat} (hr : r < 6) (hx : X < 2 ^ 20) (hd : ∀ q, q < 6 → ld s q ≤ 12) (hs : ∀ q k, q < 6 → k < ld s q → sl s q k < 4) (hN : 20 < N) : f_X3_allowsJoint N i d t z (nI r) (nI X) = some (mayB s r X) := by
  unfold f_X3_allowsJoint mayB
  by_cases hz : r = 0
  · rw [hz, if_neg (by decide), if_pos rfl]
  · rw [if_pos (show (1 : Int32) ≤ nI r from nI_le (a := 1) (by omega) (by omega)), if_neg hz]
    obtain ⟨q, rfl⟩ : ∃ q, r = q + 1 := ⟨r - 1, by omega⟩
    exact c_allowsJoint_L E h (by omega) hx (hd q (by omega)) (fun k => hs q k (by omega)) N 0 (by omega) (by omega)
end ENC2
