/-! ===== one number of the heap is another; simple calls ===== -/
def setM (s : Nat → Int32) (w n : Nat) : Nat → Int32 := upd s (3 + 3 * w + 1) (nI n)
theorem decS_set {s : Nat → Int32} {w : Nat} : decS s w = setM s w (mny s w - 1) := rfl
def setF (m : Nat → Nat) (w n : Nat) : Nat → Nat := fun v => if v = w then n else m v
theorem setM_Sm {s : Nat → Int32} (h : Sm s) {w n : Nat} (hn : n ≤ 99) : Sm (setM s w n) := h.upd hn
theorem setM_inch {s : Nat → Int32} {w n : Nat} : inch (setM s w n) = inch s := by
  funext v
  exact rN_ne (by omega)
theorem setM_wor {s : Nat → Int32} {w n : Nat} : wor (setM s w n) = wor s := by
  funext v
  exact rN_ne (by omega)
theorem setM_mny {s : Nat → Int32} {w n : Nat} (hn : n ≤ 99) : mny (setM s w n) = setF (mny s) w n := by
  funext v
  unfold setF
  by_cases e : v = w
  · subst e
    rw [if_pos rfl]
    exact rN_eq (by omega)
  · rw [if_neg e]
    exact rN_ne (by omega)
theorem setM_wide {s : Nat → Int32} {w n : Nat} : wide (setM s w n) = wide s := rN_ne (by omega)
theorem setM_high {s : Nat → Int32} {w n : Nat} : high (setM s w n) = high s := rN_ne (by omega)
theorem setM_lapn {s : Nat → Int32} {w n : Nat} : lapn (setM s w n) = lapn s := rN_ne (by omega)
theorem setM_len {s : Nat → Int32} {w n r : Nat} (hw : w < 4) : len (setM s w n) r = len s r := rN_ne (by omega)
theorem setM_ld {s : Nat → Int32} {w n r : Nat} (hw : w < 4) : ld (setM s w n) r = ld s r := rN_ne (by omega)
theorem setM_sl {s : Nat → Int32} {w n r i : Nat} (hw : w < 4) : sl (setM s w n) r i = sl s r i := rN_ne (by omega)
theorem setM_sumIn {s : Nat → Int32} {w n r : Nat} (hw : w < 4) : ∀ j, sumIn (setM s w n) r j = sumIn s r j
  | 0 => rfl
  | j + 1 => by
    show sumIn (setM s w n) r j + inch (setM s w n) (sl (setM s w n) r j) = sumIn s r j + inch s (sl s r j)
    rw [setM_sumIn hw j, setM_inch, setM_sl hw]
theorem setM_mayB {s : Nat → Int32} {w n r : Nat} (hw : w < 4) : mayB (setM s w n) r = mayB s r := by
  funext x
  unfold mayB
  have e : okJ (setM s w n) (r - 1) x = okJ s (r - 1) x := by
    funext i
    unfold okJ
    rw [setM_lapn, setM_sumIn hw]
  rw [e, setM_ld hw]
theorem Gd.set {s : Nat → Int32} (h : Gd s) {w n : Nat} (hw : w < 4) (hn : n ≤ 99) : Gd (setM s w n) := by
  obtain ⟨h1, h2, h3, h4, h5⟩ := h
  refine ⟨setM_Sm h1 hn, by rw [setM_wide]; exact h2, fun v hv => ?_, fun q hq => ?_, fun q k hq hk => ?_⟩
  · rw [setM_wide] at hv
    rw [setM_inch]
    exact h3 v hv
  · rw [setM_ld hw]
    exact h4 q hq
  · rw [setM_ld hw] at hk
    rw [setM_sl hw]
    exact h5 q k hq hk
theorem Ok.set {s : Nat → Int32} (h : Ok s) {w n : Nat} (hw : w < 4) (hn : n ≤ 12) : Ok (setM s w n) := by
  refine ⟨h.g.set hw (by omega), fun v hv => ?_, fun v u hv hu he => ?_, fun v hv => ?_, ?_, fun r hr => ?_, fun q k hq hk => ?_, fun r hr hl => ?_⟩
  · rw [setM_wide] at hv
    rw [setM_inch]
    exact h.i30 v hv
  · rw [setM_wide] at hv hu
    rw [setM_inch] at he
    exact h.dist v u hv hu he
  · rw [setM_mny (by omega)]
    unfold setF
    have := h.m12 v hv
    split <;> omega
  · rw [setM_high]
    exact h.h6
  · rw [setM_high] at hr
    rw [setM_len hw]
    exact h.ln r hr
  · rw [setM_ld hw] at hk
    rw [setM_sl hw, setM_wide]
    exact h.slw q k hq hk
  · rw [setM_high] at hr
    rw [setM_ld hw] at hl ⊢
    rw [setM_sumIn hw, setM_sumIn hw, setM_len hw]
    exact h.sums r hr hl
section ENC4
variable {N : Nat} {i m w l d t : Nat → Int32} {x y z : Int32} {s : Nat → Int32}
theorem Enc.set (E : Enc i m w l d t x y z s) {v n : Nat} (hv : v < 4) : Enc i (upd m v (nI n)) w l d t x y z (setM s v n) := by
  obtain ⟨e1, e2, e3, e4, e5⟩ := E
  refine ⟨by rw [e1]; exact (pk_un (by omega)).symm, by rw [e2]; exact (pk_un (by omega)).symm, by rw [e3]; exact (pk_un (by omega)).symm, fun k hk => ?_, fun r hr => ?_⟩
  · obtain ⟨q1, q2, q3⟩ := e4 k hk
    unfold setM
    refine ⟨by rw [q1, pk_un (by omega)], ?_, by rw [q3, pk_un (by omega)]⟩
    by_cases e : k = v
    · subst e
      rw [pk_us, pk_us]
    · rw [pk_un e, pk_un (by omega), q2]
  · obtain ⟨q1, q2, q3⟩ := e5 r hr
    unfold setM
    refine ⟨by rw [q1, pk_un (by omega)], by rw [q2, pk_un (by omega)], fun j hj => ?_⟩
    rw [q3 j hj, pk_un (by omega)]
/-- a roof taken over -/
theorem c_takeOver (E : Enc i m w l d t x y z s) {i0 m0 w0 l0 d0 t0 : Nat → Int32} {x0 y0 z0 : Int32} : ∃ i' m' w' l' d' t', f_X3_takeOver N i0 m0 w0 l0 d0 t0 x0 y0 z0 i m w l d t x y z = some (i', m', w', l', d', t', x, y, z) ∧ Enc i' m' w' l' d' t' x y z s := by
  unfold f_X3_takeOver
  rw [show cpk 0 0 4 4 4 = true by decide, show cpk 0 0 6 6 6 = true by decide, show cpk 0 0 72 72 72 = true by decide]
  refine ⟨_, _, _, _, _, _, rfl, E.1, E.2.1, E.2.2.1, fun k hk => ?_, fun r hr => ?_⟩
  · obtain ⟨q1, q2, q3⟩ := E.2.2.2.1 k hk
    have z : (0 : Int32).toNatClampNeg = 0 := rfl
    have f : (4 : Int32).toNatClampNeg = 4 := rfl
    rw [z, f, pk_cpy_in (by omega) (by omega), pk_cpy_in (by omega) (by omega), pk_cpy_in (by omega) (by omega), show 0 + (k - 0) = k by omega]
    exact ⟨q1, q2, q3⟩
  · obtain ⟨q1, q2, q3⟩ := E.2.2.2.2 r hr
    have z : (0 : Int32).toNatClampNeg = 0 := rfl
    have f : (6 : Int32).toNatClampNeg = 6 := rfl
    have g : (72 : Int32).toNatClampNeg = 72 := rfl
    rw [z, f, g, pk_cpy_in (by omega) (by omega), pk_cpy_in (by omega) (by omega), show 0 + (r - 0) = r by omega]
    refine ⟨q1, q2, fun j hj => ?_⟩
    rw [pk_cpy_in (by omega) (by omega), show 0 + (12 * r + j - 0) = 12 * r + j by omega]
    exact q3 j hj
theorem r_width (E : Enc i m w l d t x y z s) (O : Ok s) {x1 x2 : Int32} : ∃ a, f_X7_width N i m w x x1 x2 = some a ∧ f_X8_width N s x1 x2 = some a := by
  have hw := O.w4
  unfold f_X7_width f_X8_width
  rw [E.wide O.S, c_inB.2, bs, e_isWidth O.S, bs]
  cases hb : inB x1 (wide s) with
  | false => exact ⟨-1, rfl, rfl⟩
  | true =>
    obtain ⟨r, hr, rfl⟩ := inB_t (by omega) hb
    rw [if_neg (show ¬ b2i true = 0 by decide), if_neg (show ¬ b2i true = 0 by decide), show (2 : Int64) = (nI 2).toInt64 from rfl, isInC (by omega), bs, ck_nI (by omega) (by omega), ck_nI (by omega) (by omega), ck_nI (by omega) (by omega), cl_nI (by omega)]
    obtain ⟨q1, q2, q3⟩ := E.2.2.2.1 r (by omega)
    cases hc : inB x2 (2 + 1) with
    | false =>
      have n0 : ¬ x2 = 0 := fun e => by rw [e] at hc; exact absurd hc (by decide)
      have n1 : ¬ x2 = 1 := fun e => by rw [e] at hc; exact absurd hc (by decide)
      have n2 : ¬ x2 = 2 := fun e => by rw [e] at hc; exact absurd hc (by decide)
      rw [if_neg n0, if_neg n1, if_neg n2]
      exact ⟨-1, rfl, rfl⟩
    | true =>
      obtain ⟨v, hv, rfl⟩ := inB_t (by omega) hc
      rw [if_neg (show ¬ b2i true = 0 by decide), l3, pk_mul, nI_add, nI_add, ck_nI (by omega) (by omega), cl_nI (by omega)]
      rcases (show v = 0 ∨ v = 1 ∨ v = 2 by omega) with e | e | e
      · subst e
        rw [if_pos (show nI 0 = 0 from rfl), q1]
        exact ⟨_, rfl, rfl⟩
      · subst e
        rw [if_neg (show ¬ nI 1 = 0 by decide), if_pos (show nI 1 = 1 from rfl), q2]
        exact ⟨_, rfl, rfl⟩
      · subst e
        rw [if_neg (show ¬ nI 2 = 0 by decide), if_neg (show ¬ nI 2 = 1 by decide), if_pos (show nI 2 = 2 from rfl), q3]
        exact ⟨_, rfl, rfl⟩
theorem r_heap (E : Enc i m w l d t x y z s) (O : Ok s) {x1 x2 : Int32} : ∃ a m' s', f_X7_heap N m x x1 x2 = some (a, m') ∧ f_X8_heap N s x1 x2 = some (a, s') ∧ Enc i m' w l d t x y z s' ∧ Ok s' := by
  have hw := O.w4
  unfold f_X7_heap f_X8_heap
  rw [E.wide O.S, c_inB.2, bs, e_isWidth O.S, bs, ← E.wide O.S]
  cases hb : inB x1 (wide s) with
  | false => exact ⟨-1, m, s, rfl, rfl, E, O⟩
  | true =>
    obtain ⟨r, hr, rfl⟩ := inB_t (by omega) hb
    rw [if_neg (show ¬ b2i true = 0 by decide), if_neg (show ¬ b2i true = 0 by decide), show (12 : Int64) = (nI 12).toInt64 from rfl, isInC (by omega), bs]
    cases hc : inB x2 (12 + 1) with
    | false =>
      rw [if_pos (show b2i false = 0 from rfl)]
      by_cases h1 : x2 < 0
      · rw [if_pos h1]
        exact ⟨-1, m, s, rfl, rfl, E, O⟩
      · rw [if_neg h1]
        have h2 : ¬ x2 ≤ 12 := fun h2 => by
          obtain ⟨j, hj, rfl⟩ := nI_of2 (M := 12) (n := 12) rfl h1 h2
          rw [inB_i (by omega) (by omega)] at hc
          cases hc
        rw [if_neg h2]
        exact ⟨-1, m, s, rfl, rfl, E, O⟩
    | true =>
      obtain ⟨v, hv, rfl⟩ := inB_t (by omega) hc
      rw [if_neg (nI_pos (by omega)), if_pos (show nI v ≤ 12 from nI_le (b := 12) (by omega) (by omega)), if_neg (show ¬ b2i true = 0 by decide)]
      unfold f_X8_becomes
      rw [l3, l1, pk_mul, nI_add, nI_add, ck_nI (by omega) (by omega), ck_nI (by omega) (by omega), ck_nI (by omega) (by omega), ck_nI (by omega) (by omega), cl_nI (by omega), cl_nI (by omega), bs]
      obtain ⟨q1, q2, q3⟩ := E.2.2.2.1 r (by omega)
      rw [q2]
      exact ⟨_, _, _, rfl, rfl, E.set (by omega), O.set (by omega) (by omega)⟩
end ENC4
