/-! ===== element and toss as calls ===== -/
section REL
variable {N : Nat} {nums kp so sz el kk kf : Nat → Int32} {hold sort size th : Int32} {Sh : Nat → Option Nat}
theorem r_element {x1 x2 : Int32} (hT : ∀ dd, dd < 8 → x1 = nI dd → ShN nums hold sort size kp so sz el dd) : ∃ k v w, f_X7_element N nums hold size x1 x2 = some (k, v) ∧ f_X8_element N kp sz el th x1 x2 = some (w, nI k) ∧ (k = 0 → w = v.toInt64) ∧ k ≤ 2 := by
  unfold f_X7_element f_X8_element
  rw [c_isShelf, bs, e_isShelf, bs]
  cases hb : inB x1 8 with
  | false =>
    rw [if_pos (show b2i false = 0 from rfl), if_pos (show b2i false = 0 from rfl)]
    exact ⟨1, 0, 0, rfl, rfl, fun q => absurd q (by decide), by omega⟩
  | true =>
    obtain ⟨dd, hd, rfl⟩ := inB_t (by omega) hb
    have T := hT dd hd rfl
    rw [if_neg (show ¬ b2i true = 0 by decide), if_neg (show ¬ b2i true = 0 by decide)]
    simp only [giT (show dd < 8 by omega) (show 8 < 2 ^ 31 by omega), ck_t, cl_nI (show dd < 2 ^ 31 by omega), T.1]
    by_cases hh : hold = 2
    · rw [if_pos hh, if_pos hh]
      obtain ⟨T1, T2, ⟨n, n1, n2, n3⟩, T4⟩ := T.2.2 hh
      subst n2
      rw [n3, isIn0 (by omega), bs]
      unfold f_X4_hasPlace
      cases hc : inB x2 n with
      | false =>
        have e1 : (if x2 < 0 then some false else if nI n ≤ x2 then some false else some true) = some false := by
          by_cases h1 : x2 < 0
          · rw [if_pos h1]
          · rw [if_neg h1]
            have h2 : nI n ≤ x2 := fa_of_nlt fun h2 => by
              unfold inB at hc
              rw [decide_eq_true h1, decide_eq_true h2] at hc
              cases hc
            rw [if_pos h2]
        rw [e1, bs, if_pos (show b2i false = 0 from rfl), if_pos (show b2i false = 0 from rfl)]
        exact ⟨2, 0, 0, rfl, rfl, fun q => absurd q (by decide), by omega⟩
      | true =>
        obtain ⟨j, hj, rfl⟩ := inB_t (by omega) hc
        rw [if_neg (nI_pos (by omega)), if_neg (nI_ge hj (by omega)), bs, if_neg (show ¬ b2i true = 0 by decide), if_neg (show ¬ b2i true = 0 by decide)]
        have e100 : (100 : Int32) * nI dd + nI j = nI (100 * dd + j) := by rw [show (100 : Int32) = nI 100 from rfl, pk_mul, nI_add]
        rw [e100, ck_nI (by omega) (by omega), ck_nI (by omega) (by omega), cl_nI (by omega), cl_nI (by omega), T4 j (by omega)]
        exact ⟨0, _, _, rfl, rfl, fun _ => rfl, by omega⟩
    · rw [if_neg hh, if_neg hh]
      exact ⟨2, 0, 0, rfl, rfl, fun q => absurd q (by decide), by omega⟩
end REL
