/-! ===== a roof's text: signs, numbers, statements ===== -/
def chr (tx : Nat → Int32) (n p : Nat) : Int32 := if p < n then tx p else 0
def dig (c : Int32) : Bool := decide (48 ≤ c) && decide (c ≤ 57)
def pnum (tx : Nat → Int32) (n p : Nat) : Option (Nat × Nat) := if dig (chr tx n p) = true then (if (chr tx n p - 48).toNatClampNeg = 0 then some (0, p + 1) else if dig (chr tx n (p + 1)) = true then some (10 * (chr tx n p - 48).toNatClampNeg + (chr tx n (p + 1) - 48).toNatClampNeg, p + 2) else some ((chr tx n p - 48).toNatClampNeg, p + 1)) else none
/-- whether a statement is here; where it ends, or where none goes on; its numbers -/
def PS (tx : Nat → Int32) (n p : Nat) : Bool × Nat × Nat × Nat × Nat :=
  if chr tx n p = 119 then (match pnum tx n (p + 1) with
    | none => (false, p + 1, 0, 0, 0)
    | some a => if chr tx n a.2 = 32 then (match pnum tx n (a.2 + 1) with
      | none => (false, a.2 + 1, 0, 0, 0)
      | some b => if chr tx n b.2 = 32 then (match pnum tx n (b.2 + 1) with
        | none => (false, b.2 + 1, 0, 0, 0)
        | some c => if chr tx n c.2 = 59 then (true, c.2 + 1, a.1, b.1, c.1) else (false, c.2, 0, 0, 0)) else (false, b.2, 0, 0, 0)) else (false, a.2, 0, 0, 0))
  else if chr tx n p = 114 ∨ chr tx n p = 108 then (match pnum tx n (p + 1) with
    | none => (false, p + 1, 0, 0, 0)
    | some a => if chr tx n a.2 = 59 then (true, a.2 + 1, a.1, 0, 0) else (false, a.2, 0, 0, 0))
  else (false, p, 0, 0, 0)
theorem dig_t {c : Int32} (h : dig c = true) : ∃ u, u ≤ 9 ∧ c = nI (48 + u) ∧ c - 48 = nI u := by
  unfold dig at h
  simp only [Bool.and_eq_true, decide_eq_true_eq] at h
  obtain ⟨h1, h2⟩ := h
  have z1 : (48 : Int32).toInt = 48 := rfl
  have h0 : ¬ c < 0 := by
    rw [fa_le, z1] at h1
    rw [fa_lt, show (0 : Int32).toInt = 0 from rfl]
    omega
  obtain ⟨j, hj, rfl⟩ := nI_of2 (M := 57) (n := 57) rfl h0 h2
  have h48 : 48 ≤ j := (nI_leI (a := 48) (by omega) (by omega)).mp h1
  refine ⟨j - 48, by omega, by rw [show 48 + (j - 48) = j by omega], ?_⟩
  exact pk_sub (a := j) (b := 48) h48
theorem pnum_le {tx : Nat → Int32} {n p : Nat} {a : Nat × Nat} (h : pnum tx n p = some a) : a.1 ≤ 99 ∧ p < a.2 ∧ a.2 ≤ p + 2 := by
  unfold pnum at h
  by_cases h1 : dig (chr tx n p) = true
  · obtain ⟨u, hu, _, e2⟩ := dig_t h1
    rw [if_pos h1, e2, cl_nI (by omega)] at h
    by_cases h2 : u = 0
    · rw [if_pos h2] at h
      cases h
      exact ⟨by show 0 ≤ 99; omega, by show p < p + 1; omega, by show p + 1 ≤ p + 2; omega⟩
    · rw [if_neg h2] at h
      by_cases h3 : dig (chr tx n (p + 1)) = true
      · obtain ⟨v, hv, _, e3⟩ := dig_t h3
        rw [if_pos h3, e3, cl_nI (by omega)] at h
        cases h
        exact ⟨by show 10 * u + v ≤ 99; omega, by show p < p + 2; omega, Nat.le_refl _⟩
      · rw [if_neg h3] at h
        cases h
        exact ⟨by show u ≤ 99; omega, by show p < p + 1; omega, by show p + 1 ≤ p + 2; omega⟩
  · rw [if_neg h1] at h
    cases h
theorem chr_in {tx : Nat → Int32} {n p : Nat} {c : Int32} (h : chr tx n p = c) (hc : ¬ c = 0) : p < n := by
  unfold chr at h
  by_cases hp : p < n
  · exact hp
  · rw [if_neg hp] at h
    exact absurd h.symm hc
section TXT
variable {N : Nat} {tx el : Nat → Int32} {n dd : Nat}
theorem c_sign (hn : n ≤ 100) {p : Nat} (hp : p < 1000) : f_X2_signHere N (nI p) tx (nI n) = some (chr tx n p) := by
  unfold f_X2_signHere f_X4_hasPlace chr
  rw [if_neg (nI_pos (by omega))]
  by_cases h : p < n
  · rw [if_neg (nI_ge h (by omega)), bs, if_neg (show ¬ b2i true = 0 by decide), ck_nI (by omega) (by omega), cl_nI (by omega), if_pos h]
  · rw [if_pos (nI_le (by omega) (by omega)), bs, if_pos (show b2i false = 0 from rfl), if_neg h]
theorem e_here (hn : n ≤ 100) (hd : dd < 8) (hel : ∀ k, k < 100 → el (100 * dd + k) = tx k) {p : Nat} (hp : p < 1000) : f_X8_here N el (nI p) (nI (100 * dd)) (nI n) = some (if p < n then tx p else -1000) := by
  unfold f_X8_here
  by_cases h : p < n
  · rw [if_neg (nI_ge h (by omega)), nI_add, ck_nI (by omega) (by omega), cl_nI (by omega), hel p (by omega), if_pos h]
  · rw [if_pos (nI_le (by omega) (by omega)), if_neg h]
theorem here_eq {p : Nat} {c : Int32} (h0 : ¬ c = 0) (h1 : ¬ c = -1000) : ((if p < n then tx p else -1000) = c) ↔ chr tx n p = c := by
  unfold chr
  by_cases h : p < n
  · rw [if_pos h, if_pos h]
  · rw [if_neg h, if_neg h]
    exact ⟨fun q => absurd q.symm h1, fun q => absurd q.symm h0⟩
theorem here_dig {p : Nat} : dig (if p < n then tx p else -1000) = dig (chr tx n p) := by
  unfold chr
  by_cases h : p < n
  · rw [if_pos h, if_pos h]
  · rw [if_neg h, if_neg h]
    decide
theorem c_dig (hn : n ≤ 100) {p : Nat} (hp : p < 1000) : f_X2_isDigitHere N (nI p) tx (nI n) = some (dig (chr tx n p)) := by
  unfold f_X2_isDigitHere dig
  rw [c_sign hn hp, bs, bs]
  generalize chr tx n p = c
  by_cases h1 : c < 48
  · rw [if_pos h1, decide_eq_false (p := 48 ≤ c) (fa_of_lt h1).2.1]
    rfl
  · rw [if_neg h1, decide_eq_true (p := 48 ≤ c) (fa_of_nlt h1)]
    by_cases h2 : 57 < c
    · rw [if_pos h2, decide_eq_false (p := c ≤ 57) (fa_of_lt h2).2.1]
      rfl
    · rw [if_neg h2, decide_eq_true (p := c ≤ 57) (fa_of_nlt h2)]
      rfl
theorem c_num (hn : n ≤ 100) {p j : Nat} (hp : p < 900) (hj : j < 3) {nb : Nat → Int32} : f_X2_readNumber N nb (nI p) tx (nI n) (nI j) = (match pnum tx n p with
    | none => some (false, nb, nI p)
    | some a => some (true, upd nb j (nI a.1), nI a.2)) := by
  unfold f_X2_readNumber pnum
  rw [c_dig hn (by omega), bs]
  cases h1 : dig (chr tx n p) with
  | false => rfl
  | true =>
    obtain ⟨u, hu, _, e2⟩ := dig_t h1
    rw [if_neg (show ¬ b2i true = 0 by decide), c_sign hn (by omega), bs, ck_nI (by omega) (by omega), ck_nI (by omega) (by omega), ck_nI (by omega) (by omega), cl_nI (by omega), pk_us, e2, cl_nI (by omega), nI_1, c_dig hn (by omega), bs, c_sign hn (by omega), bs, ck_nI (by omega) (by omega), upd_upd, if_pos rfl]
    by_cases h2 : u = 0
    · subst h2
      rw [if_pos (show nI 0 ≤ 0 by decide), if_pos rfl]
    · rw [if_neg (nI_nle (by omega) (by omega)), if_neg h2]
      cases h3 : dig (chr tx n (p + 1)) with
      | false => rfl
      | true =>
        obtain ⟨v, hv, e3, e4⟩ := dig_t h3
        have e5 : (nI u * 10 + chr tx n (p + 1)) - 48 = nI (10 * u + v) := by
          rw [e3, show (10 : Int32) = nI 10 from rfl, show (48 : Int32) = nI 48 from rfl, pk_mul, nI_add, pk_sub (by omega)]
          congr 1
          omega
        rw [if_neg (show ¬ b2i true = 0 by decide), e5, e4, cl_nI (by omega), nI_1, if_pos rfl]
theorem isIn_dig {c : Int32} : f_X8_isIn N c.toInt64 48 57 = some (dig c) := isIn_e N c 48 57
theorem e_num (hn : n ≤ 100) (hd : dd < 8) (hel : ∀ k, k < 100 → el (100 * dd + k) = tx k) {p j : Nat} (hp : p < 900) (hj : j < 3) {nb : Nat → Int32} {num : Int32} : ∃ num', f_X8_readsNumber N el (nI p) (nI (100 * dd)) (nI n) num (nI j) nb = (match pnum tx n p with
    | none => some (false, nI p, num', nI j, nb)
    | some a => some (true, nI a.2, num', nI (j + 1), upd nb j (nI a.1))) := by
  unfold f_X8_readsNumber pnum
  rw [e_here hn hd hel (by omega), bs, isIn_dig, bs, here_dig]
  cases h1 : dig (chr tx n p) with
  | false => exact ⟨_, rfl⟩
  | true =>
    obtain ⟨u, hu, e1, e2⟩ := dig_t h1
    have hpn : p < n := chr_in e1 (nI_ne0 (by omega) (by omega))
    have e1' : tx p = nI (48 + u) := by
      unfold chr at e1
      rw [if_pos hpn] at e1
      exact e1
    have e2' : tx p - 48 = nI u := by
      unfold chr at e2
      rw [if_pos hpn] at e2
      exact e2
    rw [if_neg (show ¬ b2i true = 0 by decide), bs, if_pos hpn, e2', e2, cl_nI (show u < 2 ^ 31 by omega), cl_nI (show j < 2 ^ 31 by omega), nI_1, nI_1, e_here hn hd hel (by omega), bs, isIn_dig, bs, here_dig, ck_nI (by omega) (by omega), bs, ck_nI (by omega) (by omega), if_pos rfl]
    by_cases h2 : u = 0
    · subst h2
      rw [if_pos (show nI 0 ≤ 0 by decide), if_pos rfl]
      exact ⟨_, rfl⟩
    · rw [if_neg (nI_nle (by omega) (by omega)), if_neg h2]
      cases h3 : dig (chr tx n (p + 1)) with
      | false => exact ⟨_, rfl⟩
      | true =>
        obtain ⟨v, hv, e3, e4⟩ := dig_t h3
        have hpn1 : p + 1 < n := chr_in e3 (nI_ne0 (by omega) (by omega))
        have e3' : tx (p + 1) = nI (48 + v) := by
          unfold chr at e3
          rw [if_pos hpn1] at e3
          exact e3
        have e5 : (10 * nI u + nI (48 + v)) - 48 = nI (10 * u + v) := by
          rw [show (10 : Int32) = nI 10 from rfl, show (48 : Int32) = nI 48 from rfl, pk_mul, nI_add, pk_sub (by omega)]
          congr 1
          omega
        rw [if_neg (show ¬ b2i true = 0 by decide), if_pos hpn1, e3', e5, e4, cl_nI (by omega), nI_1, if_pos rfl]
        exact ⟨_, rfl⟩
theorem c_sg (hn : n ≤ 100) {p : Nat} (hp : p < 900) {c : Int32} : f_X2_readSign N (nI p) tx (nI n) c = if chr tx n p = c then some (true, nI (p + 1)) else some (false, nI p) := by
  unfold f_X2_readSign
  rw [c_sign hn (by omega), bs, nI_1]
theorem e_tk (hn : n ≤ 100) (hd : dd < 8) (hel : ∀ k, k < 100 → el (100 * dd + k) = tx k) {p : Nat} (hp : p < 900) {c : Int32} (h0 : ¬ c = 0) (h1 : ¬ c = -1000) : f_X8_takes N el (nI p) (nI (100 * dd)) (nI n) c = if chr tx n p = c then some (true, nI (p + 1)) else some (false, nI p) := by
  unfold f_X8_takes
  rw [e_here hn hd hel (by omega), bs, nI_1]
  by_cases h : chr tx n p = c
  · rw [if_pos ((here_eq h0 h1).mpr h), if_pos h]
  · rw [if_neg (fun q => h ((here_eq h0 h1).mp q)), if_neg h]
theorem PS_le {p : Nat} (h : (PS tx n p).1 = true) : p < (PS tx n p).2.1 ∧ (PS tx n p).2.1 ≤ n ∧ (chr tx n p = 119 ∨ chr tx n p = 114 ∨ chr tx n p = 108) ∧ (PS tx n p).2.2.1 ≤ 99 ∧ (PS tx n p).2.2.2.1 ≤ 99 ∧ (PS tx n p).2.2.2.2 ≤ 99 := by
  unfold PS at h ⊢
  by_cases c1 : chr tx n p = 119
  · rw [if_pos c1] at h ⊢
    cases h1 : pnum tx n (p + 1) with
    | none => rw [h1] at h; exact absurd h Bool.false_ne_true
    | some a =>
      rw [h1] at h
      obtain ⟨a1, a2, a3⟩ := pnum_le h1
      dsimp only at h ⊢
      by_cases c2 : chr tx n a.2 = 32
      · rw [if_pos c2] at h ⊢
        cases h2 : pnum tx n (a.2 + 1) with
        | none => rw [h2] at h; exact absurd h Bool.false_ne_true
        | some b =>
          rw [h2] at h
          obtain ⟨b1, b2, b3⟩ := pnum_le h2
          dsimp only at h ⊢
          by_cases c3 : chr tx n b.2 = 32
          · rw [if_pos c3] at h ⊢
            cases h3 : pnum tx n (b.2 + 1) with
            | none => rw [h3] at h; exact absurd h Bool.false_ne_true
            | some c =>
              rw [h3] at h
              obtain ⟨d1, d2, d3⟩ := pnum_le h3
              dsimp only at h ⊢
              by_cases c4 : chr tx n c.2 = 59
              · rw [if_pos c4]
                have := chr_in c4 (by decide)
                exact ⟨by show p < c.2 + 1; omega, by show c.2 + 1 ≤ n; omega, Or.inl c1, a1, b1, d1⟩
              · rw [if_neg c4] at h
                exact absurd h Bool.false_ne_true
          · rw [if_neg c3] at h
            exact absurd h Bool.false_ne_true
      · rw [if_neg c2] at h
        exact absurd h Bool.false_ne_true
  · rw [if_neg c1] at h ⊢
    by_cases c2 : chr tx n p = 114 ∨ chr tx n p = 108
    · rw [if_pos c2] at h ⊢
      cases h1 : pnum tx n (p + 1) with
      | none => rw [h1] at h; exact absurd h Bool.false_ne_true
      | some a =>
        rw [h1] at h
        obtain ⟨a1, a2, a3⟩ := pnum_le h1
        dsimp only at h ⊢
        by_cases c4 : chr tx n a.2 = 59
        · rw [if_pos c4]
          have := chr_in c4 (by decide)
          exact ⟨by show p < a.2 + 1; omega, by show a.2 + 1 ≤ n; omega, Or.inr c2, a1, Nat.zero_le _, Nat.zero_le _⟩
        · rw [if_neg c4] at h
          exact absurd h Bool.false_ne_true
    · rw [if_neg c2] at h
      exact absurd h Bool.false_ne_true
end TXT
