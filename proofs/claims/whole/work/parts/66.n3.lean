/-! ===== lap, rowOf, slate, joint, may, gaps, count ===== -/
theorem up0 {s : Nat → Int32} {v : Int32} {k : Nat} (h : k ≠ 0) : rN (upd s 0 v) k = rN s k := rN_ne h
theorem Ok.lap {s : Nat → Int32} (h : Ok s) {n : Nat} (hn : n ≤ 99) : Ok (upd s 0 (nI n)) := by
  have ei : inch (upd s 0 (nI n)) = inch s := funext fun v => rN_ne (by omega)
  have em : mny (upd s 0 (nI n)) = mny s := funext fun v => rN_ne (by omega)
  have ew : wide (upd s 0 (nI n)) = wide s := rN_ne (by omega)
  have eh : high (upd s 0 (nI n)) = high s := rN_ne (by omega)
  have el : len (upd s 0 (nI n)) = len s := funext fun v => rN_ne (by omega)
  have ed : ld (upd s 0 (nI n)) = ld s := funext fun v => rN_ne (by omega)
  have es : sl (upd s 0 (nI n)) = sl s := funext fun r => funext fun v => rN_ne (by omega)
  have eS : ∀ r j, sumIn (upd s 0 (nI n)) r j = sumIn s r j := by
    intro r j
    induction j with
    | zero => rfl
    | succ j ih =>
      show sumIn (upd s 0 (nI n)) r j + inch (upd s 0 (nI n)) (sl (upd s 0 (nI n)) r j) = sumIn s r j + inch s (sl s r j)
      rw [ih, ei, es]
  refine ⟨⟨h.S.upd hn, ?_, ?_, ?_, ?_⟩, ?_, ?_, ?_, ?_, ?_, ?_, ?_⟩
  · rw [ew]; exact h.w4
  · rw [ew, ei]; exact h.i5
  · rw [ed]; exact h.l12
  · rw [ed, es]; exact h.sl4
  · rw [ew, ei]; exact h.i30
  · rw [ew, ei]; exact h.dist
  · rw [em]; exact h.m12
  · rw [eh]; exact h.h6
  · rw [eh, el]; exact h.ln
  · rw [ed, es, ew]; exact h.slw
  · intro r hr hl
    rw [eh] at hr
    rw [ed] at hl ⊢
    rw [el, eS, eS]
    exact h.sums r hr hl
section ENC5
variable {N : Nat} {i m w l d t : Nat → Int32} {x y z : Int32} {s : Nat → Int32}
theorem r_lap (E : Enc i m w l d t x y z s) (O : Ok s) {x1 : Int32} : ∃ a z' s', f_X7_lap N z x1 = some (a, z') ∧ f_X8_lap N s x1 = some (a, s') ∧ Enc i m w l d t x y z' s' ∧ Ok s' := by
  unfold f_X7_lap f_X8_lap
  rw [show (20 : Int64) = (nI 20).toInt64 from rfl, isInC (by omega), bs]
  cases hc : inB x1 (20 + 1) with
  | false =>
    rw [if_pos (show b2i false = 0 from rfl)]
    by_cases h1 : x1 < 0
    · rw [if_pos h1]
      exact ⟨-1, z, s, rfl, rfl, E, O⟩
    · rw [if_neg h1]
      have h2 : ¬ x1 ≤ 20 := fun h2 => by
        obtain ⟨j, hj, rfl⟩ := nI_of2 (M := 20) (n := 20) rfl h1 h2
        rw [inB_i (by omega) (by omega)] at hc
        cases hc
      rw [if_neg h2]
      exact ⟨-1, z, s, rfl, rfl, E, O⟩
  | true =>
    obtain ⟨v, hv, rfl⟩ := inB_t (by omega) hc
    rw [if_neg (nI_pos (by omega)), if_pos (show nI v ≤ 20 from nI_le (b := 20) (by omega) (by omega)), if_neg (show ¬ b2i true = 0 by decide)]
    unfold f_X8_becomes
    rw [show gi 0 99 = true by decide, ck_t, ck_t, bs]
    obtain ⟨e1, e2, e3, e4, e5⟩ := E
    refine ⟨z, nI v, upd s 0 (nI v), rfl, by rw [e1]; rfl, ⟨pk_us.symm, by rw [e2, pk_un (by omega)], by rw [e3, pk_un (by omega)], fun k hk => ?_, fun r hr => ?_⟩, O.lap (by omega)⟩
    · rw [pk_un (by omega), pk_un (by omega), pk_un (by omega)]
      exact e4 k hk
    · rw [pk_un (by omega), pk_un (by omega)]
      refine ⟨(e5 r hr).1, (e5 r hr).2.1, fun j hj => ?_⟩
      rw [pk_un (by omega)]
      exact (e5 r hr).2.2 j hj
theorem r_rowOf (hN : 20 < N) (E : Enc i m w l d t x y z s) (O : Ok s) {x1 x2 : Int32} : ∃ a, f_X7_rowOf N i l d t y x1 x2 = some a ∧ f_X8_rowOf N s x1 x2 = some a := by
  have h6 := O.h6
  unfold f_X7_rowOf f_X8_rowOf
  rw [E.high O.S, c_inB.1, bs, e_isRow O.S, bs]
  cases hb : inB x1 (high s) with
  | false => exact ⟨-1, rfl, rfl⟩
  | true =>
    obtain ⟨r, hr, rfl⟩ := inB_t (by omega) hb
    rw [if_neg (show ¬ b2i true = 0 by decide), if_neg (show ¬ b2i true = 0 by decide), show (2 : Int64) = (nI 2).toInt64 from rfl, isInC (by omega), bs, ck_nI (by omega) (by omega), ck_nI (by omega) (by omega), cl_nI (by omega), c_cutOf E O.S (by omega) (O.l12 r (by omega)) (fun k => O.sl4 r k (by omega)) hN, e_lengthOf O.S (by omega), e_slates O.S (by omega), e_cutOf O.S (by omega) (O.l12 r (by omega)) (fun k => O.sl32 r k (by omega)) hN, E.len O.S (by omega), E.ld O.S (by omega), bs, bs, bs]
    cases hc : inB x2 (2 + 1) with
    | false =>
      have n0 : ¬ x2 = 0 := fun e => by rw [e] at hc; exact absurd hc (by decide)
      have n1 : ¬ x2 = 1 := fun e => by rw [e] at hc; exact absurd hc (by decide)
      have n2 : ¬ x2 = 2 := fun e => by rw [e] at hc; exact absurd hc (by decide)
      rw [if_neg n0, if_neg n1, if_neg n2]
      exact ⟨-1, rfl, rfl⟩
    | true =>
      obtain ⟨v, hv, rfl⟩ := inB_t (by omega) hc
      rw [if_neg (show ¬ b2i true = 0 by decide)]
      rcases (show v = 0 ∨ v = 1 ∨ v = 2 by omega) with e | e | e
      · subst e
        rw [if_pos (show nI 0 = 0 from rfl), if_pos (show nI 0 = 0 from rfl)]
        exact ⟨_, rfl, rfl⟩
      · subst e
        rw [if_neg (show ¬ nI 1 = 0 by decide), if_pos (show nI 1 = 1 from rfl), if_neg (show ¬ nI 1 = 0 by decide), if_pos (show nI 1 = 1 from rfl)]
        exact ⟨_, rfl, rfl⟩
      · subst e
        rw [if_neg (show ¬ nI 2 = 0 by decide), if_neg (show ¬ nI 2 = 1 by decide), if_pos (show nI 2 = 2 from rfl), if_neg (show ¬ nI 2 = 0 by decide), if_neg (show ¬ nI 2 = 1 by decide)]
        exact ⟨_, rfl, rfl⟩
theorem r_slate (E : Enc i m w l d t x y z s) (O : Ok s) {x1 x2 : Int32} : ∃ a, f_X7_slate N d t y x1 x2 = some a ∧ f_X8_slate N s x1 x2 = some a := by
  have h6 := O.h6
  unfold f_X7_slate f_X8_slate
  rw [E.high O.S, c_inB.1, bs, e_isRow O.S, bs]
  cases hb : inB x1 (high s) with
  | false => exact ⟨-1, rfl, rfl⟩
  | true =>
    obtain ⟨r, hr, rfl⟩ := inB_t (by omega) hb
    rw [if_neg (show ¬ b2i true = 0 by decide), if_neg (show ¬ b2i true = 0 by decide), ck_nI (by omega) (by omega), cl_nI (by omega), e_slates O.S (by omega), E.ld O.S (by omega), bs]
    by_cases h0 : 0 ≤ x2
    · rw [if_pos h0, if_pos h0]
      by_cases h1 : nI (ld s r) ≤ x2
      · rw [if_pos h1, if_pos h1]
        exact ⟨_, rfl, rfl⟩
      · rw [if_neg h1, if_neg h1]
        obtain ⟨j, hj, rfl⟩ := nI_of (fun q => (fa_of_lt q).2.1 h0)
        have hl := O.l12 r (by omega)
        have hj2 : j < ld s r := Nat.lt_of_not_le fun q => h1 (nI_le q hj)
        rw [c_slateAt E O.S (by omega) (by omega), e_slateOf O.S (by omega) (by omega)]
        exact ⟨_, rfl, rfl⟩
    · rw [if_neg h0, if_neg h0]
      exact ⟨_, rfl, rfl⟩
theorem r_joint (hN : 20 < N) (E : Enc i m w l d t x y z s) (O : Ok s) {x1 x2 : Int32} : ∃ a, f_X7_joint N i d t y x1 x2 = some a ∧ f_X8_joint N s x1 x2 = some a := by
  have h6 := O.h6
  unfold f_X7_joint f_X8_joint
  rw [E.high O.S, c_inB.1, bs, e_isRow O.S, bs]
  cases hb : inB x1 (high s) with
  | false => exact ⟨-1, rfl, rfl⟩
  | true =>
    obtain ⟨r, hr, rfl⟩ := inB_t (by omega) hb
    rw [if_neg (show ¬ b2i true = 0 by decide), if_neg (show ¬ b2i true = 0 by decide), ck_nI (by omega) (by omega), cl_nI (by omega), e_slates O.S (by omega), E.ld O.S (by omega), bs]
    by_cases h0 : 0 ≤ x2
    · rw [if_pos h0, if_pos h0]
      by_cases h1 : nI (ld s r) - 1 ≤ x2
      · rw [if_pos h1, if_pos h1]
        exact ⟨_, rfl, rfl⟩
      · rw [if_neg h1, if_neg h1]
        obtain ⟨j, hj, rfl⟩ := nI_of (fun q => (fa_of_lt q).2.1 h0)
        have hl := O.l12 r (by omega)
        have hj2 : j + 1 < ld s r := by
          have z1 : (nI (ld s r) - nI 1).toInt = (ld s r : Int) - 1 := pk_sub_toInt (by omega) (by omega)
          have z2 : (nI j).toInt = (j : Int) := nI_toInt hj
          rw [fa_le, l1, z1, z2] at h1
          omega
        rw [c_endOf E O.S (by omega) hl (fun k => O.sl4 r k (by omega)) (by omega) hN, e_jointOf O.S (by omega) (by omega) (fun k hk => O.sl32 r k (by omega) (by omega)) hN, if_pos (by omega)]
        exact ⟨_, rfl, rfl⟩
    · rw [if_neg h0, if_neg h0]
      exact ⟨_, rfl, rfl⟩
theorem r_may (hN : 20 < N) (E : Enc i m w l d t x y z s) (O : Ok s) {x1 x2 : Int32} : ∃ a, f_X7_may N i l d t y z x1 x2 = some a ∧ f_X8_may N s x1 x2 = some a := by
  have h6 := O.h6
  unfold f_X7_may f_X8_may
  rw [E.high O.S, c_inB.1, bs, e_isRow O.S, bs]
  cases hb : inB x1 (high s) with
  | false => exact ⟨-1, rfl, rfl⟩
  | true =>
    obtain ⟨r, hr, rfl⟩ := inB_t (by omega) hb
    obtain ⟨hl1, hl2⟩ := O.ln r hr
    have hi := isIn_e N x2 1 (nI (len s r) - 1)
    rw [show (1 : Int32).toInt64 = 1 from rfl] at hi
    rw [if_neg (show ¬ b2i true = 0 by decide), if_neg (show ¬ b2i true = 0 by decide), ck_nI (by omega) (by omega), cl_nI (by omega), e_lengthOf O.S (by omega), E.len O.S (by omega), bs, hi, bs]
    have z1 : (nI (len s r) - 1).toInt = (len s r : Int) - 1 := pk_sub_toInt (b := 1) (by omega) (by omega)
    have z2 : (nI (len s r)).toInt = (len s r : Int) := nI_toInt (by omega)
    have z3 : (1 : Int32).toInt = 1 := rfl
    by_cases h0 : x2 < 1
    · rw [if_pos h0, decide_eq_false (p := 1 ≤ x2) (fun q => (fa_of_lt h0).2.1 q)]
      exact ⟨-1, rfl, rfl⟩
    · have h0' : 1 ≤ x2 := fa_of_nlt h0
      rw [if_neg h0, decide_eq_true h0']
      by_cases h1 : x2 < nI (len s r)
      · have h1' : x2 ≤ nI (len s r) - 1 := by
          rw [fa_lt, z2] at h1
          rw [fa_le, z1]
          omega
        rw [if_pos h1, decide_eq_true h1']
        obtain ⟨X, hX, rfl⟩ := nI_of (x := x2) (fun q => by
          rw [fa_le, z3] at h0'
          rw [fa_lt] at q
          have : (0 : Int32).toInt = 0 := rfl
          omega)
        have hX2 : X < len s r := (nI_ltI hX (by omega)).mp h1
        rw [c_allowsJoint E O.S (by omega) (by omega) O.l12 O.sl4 hN, e_mayBe O.S (by omega) (by omega) O.l12 O.sl32 hN]
        cases mayB s r X with
        | true => exact ⟨1, rfl, rfl⟩
        | false => exact ⟨0, rfl, rfl⟩
      · have h1' : ¬ x2 ≤ nI (len s r) - 1 := by
          rw [fa_lt, z2] at h1
          rw [fa_le, z1]
          omega
        rw [if_neg h1, decide_eq_false h1']
        exact ⟨-1, rfl, rfl⟩
theorem r_gaps (hN : 100 < N) (E : Enc i m w l d t x y z s) (O : Ok s) {x1 : Int32} : ∃ a, f_X7_gaps N i l d t y z x1 = some a ∧ f_X8_gaps N s x1 = some a := by
  have h6 := O.h6
  unfold f_X7_gaps f_X8_gaps
  rw [E.high O.S, c_inB.1, bs, e_isRow O.S, bs]
  cases hb : inB x1 (high s) with
  | false => exact ⟨-1, rfl, rfl⟩
  | true =>
    obtain ⟨r, hr, rfl⟩ := inB_t (by omega) hb
    obtain ⟨hl1, hl2⟩ := O.ln r hr
    rw [if_neg (show ¬ b2i true = 0 by decide), if_neg (show ¬ b2i true = 0 by decide)]
    have key : ∀ (f j : Nat) (v : Int32), 1 ≤ j → j ≤ len s r → len s r < j + f → ∃ a, f_X7_gaps_L14 N i l d t (nI (high s)) z (nI r) f v (nI j) = some a ∧ f_X8_gaps_L14 N s (nI r) f v (nI j) = some a := by
      intro f
      induction f with
      | zero => intro j v _ h1 h2; omega
      | succ f ih =>
        intro j v h0 h1 h2
        rw [f_X7_gaps_L14, f_X8_gaps_L14, ck_nI (by omega) (by omega), cl_nI (by omega), E.len O.S (by omega), e_lengthOf O.S (by omega), bs]
        by_cases hj : len s r ≤ j
        · rw [if_pos (nI_le hj (by omega)), if_pos (nI_le hj (by omega))]
          exact ⟨_, rfl, rfl⟩
        · rw [if_neg (nI_ge (by omega) (by omega)), if_neg (nI_ge (by omega) (by omega)), c_allowsJoint E O.S (by omega) (by omega) O.l12 O.sl4 (by omega), e_mayBe O.S (by omega) (by omega) O.l12 O.sl32 (by omega), bs, bs, nI_1, Int32.add_zero]
          cases mayB s r j with
          | true =>
            rw [if_neg (show ¬ b2i true = 0 by decide), if_neg (show ¬ b2i true = 0 by decide)]
            exact ih (j + 1) _ (by omega) (by omega) (by omega)
          | false =>
            rw [if_pos (show b2i false = 0 from rfl), if_pos (show b2i false = 0 from rfl)]
            exact ih (j + 1) _ (by omega) (by omega) (by omega)
    exact key N 1 0 (Nat.le_refl _) (by omega) (by omega)
end ENC5
