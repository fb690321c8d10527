/-! ===== uses, needs as calls ===== -/
section CAL3
variable {N : Nat} {i m w l d t : Nat → Int32} {x y z : Int32} {s : Nat → Int32} {i0 m0 w0 l0 d0 t0 : Nat → Int32} {x0 y0 z0 : Int32}
variable {free steps sos slots takes places values order way found : Nat → Int32} {states wto aim last slt wrw wt ws eb fs fw : Int32}
theorem r_uses (hN : 5000 < N) (E : Enc i m w l d t x y z s) (O : Ok s) (hso : SO sos) {x1 x2 : Int32} : ∃ p q, f_X7_uses N i m w l d t x y z i0 m0 w0 l0 d0 t0 x0 y0 z0 free steps sos slots takes places values states wto aim last x1 x2 = some p ∧ f_X8_uses N s way found wrw wt ws eb fs fw x1 x2 = some q ∧ p.1 = q.1 ∧ q.2.1 = s ∧ SO p.2.2.2.2.2.2.2.2.2.2.2.2.1 := by
  have h6 := O.h6
  have hw4 := O.w4
  unfold f_X7_uses f_X8_uses
  rw [show f_X7_isWidth N x x2 = some (inB x2 (wide s)) by rw [E.wide O.S]; exact c_inB.2, bs, c_refO E O, bs, e_wrongWidth O, bs]
  by_cases hz : refO s x1 (inB x2 (wide s)) = 0
  · rw [if_pos hz, if_pos hz]
    obtain ⟨r, hr, rfl, hb, hl0⟩ := refO_0 O hz
    obtain ⟨v, hv, rfl⟩ := inB_t (by omega) hb
    obtain ⟨hl1, hl2⟩ := O.ln r hr
    have hm12 := O.m12 v (by omega)
    have g5 : gi (nI v) 4 = true := giT (by omega) (by omega)
    simp only [g5, ck_t, cl_nI (show v < 2 ^ 31 by omega), E.mny O.S (show v < 4 by omega), e_many O.S (show v < 31 by omega), bs]
    by_cases hm : mny s v = 0
    · rw [if_pos (by rw [hm]; rfl), if_pos (by rw [hm]; rfl)]
      exact ⟨_, _, rfl, rfl, rfl, rfl, hso⟩
    · rw [if_neg (nI_ne0 (by omega) (by omega)), if_neg (nI_ne0 (by omega) (by omega))]
      obtain ⟨T, n, a1, a2, a3, a4, a5, a6, e1, e2⟩ := c_waysOf (N := N) E O.wd hN (row := r) (by omega) hl2 (free := free) (steps := steps) (slots := slots) (takes := takes) (places := places) (states := states) (wto := wto) hso
      obtain ⟨v', a, b, e3⟩ := c_number (N := N) (values := values) (aim0 := aim) (last0 := last) E O.wd hN hl2 (by omega) e2
      obtain ⟨q1, q2, q3, q4, q5, q6, q7, e4, _⟩ := e_fillsOf (N := N) (way := way) (found := found) (wrw := wrw) (wt := wt) (ws := ws) (eb := eb) (fs := fs) (fw := fw) (by omega) O.g (r := r) (by omega) (by omega) hl2
      obtain ⟨i', m', w', l', d', t', e5, E2⟩ := c_takeOver (N := N) E (i0 := i0) (m0 := m0) (w0 := w0) (l0 := l0) (d0 := d0) (t0 := t0) (x0 := x0) (y0 := y0) (z0 := z0)
      rw [e1, bs]
      try dsimp only
      rw [e3, bs]
      try dsimp only
      rw [e5, bs]
      try dsimp only
      have hmv : m' v = nI (mny s v) := E2.mny O.S (by omega)
      have E3 := E2.set (v := v) (n := mny s v - 1) (by omega)
      have W3 : Wd (setM s v (mny s v - 1)) := O.wd.set (by omega) (by omega)
      have hln : len (setM s v (mny s v - 1)) r = len s r := setM_len (by omega)
      rw [hmv, show nI (mny s v) - 1 = nI (mny s v - 1) from pk_sub (a := mny s v) (b := 1) (by omega)]
      obtain ⟨T2, n2, b1, b2, b3, b4, b5, b6, e6, e7⟩ := c_waysOf (N := N) E3 W3 hN (row := r) (by omega) (by rw [hln]; exact hl2) (free := a1) (steps := a2) (slots := a4) (takes := a5) (places := a6) (states := nI n) (wto := nI (len s r)) e2.so
      rw [e6, bs]
      try dsimp only
      obtain ⟨v'', a', b', e8⟩ := c_number (N := N) (values := v') (aim0 := a) (last0 := b) E3 W3 hN (by rw [hln]; exact hl2) (by rw [hln]; omega) e7
      rw [e8, bs, e4, bs]
      try dsimp only
      rw [e_leaves1 O.S (by omega) hm, bs, decS_set]
      obtain ⟨p1, p2, p3, p4, p5, p6, p7, e9, _⟩ := e_fillsOf (N := N) (s := setM s v (mny s v - 1)) (way := q1) (found := q2) (wrw := q3) (wt := q4) (ws := q5) (eb := -4) (fs := q6) (fw := q7) (by omega) W3.1 (r := r) (by omega) (by rw [hln]; omega) (by rw [hln]; exact hl2)
      rw [e9, bs]
      try dsimp only
      rw [← decS_set, e_leavesm O.S (by omega) hm, bs]
      exact ⟨_, _, rfl, rfl, rfl, rfl, e7.so⟩
  · rw [if_neg hz, if_neg hz]
    exact ⟨_, _, rfl, rfl, rfl, rfl, hso⟩
/-- whether there is a fill -/
theorem c_hasFill_L {places : Nat → Int32} {W : Nat} {ic mm : Nat → Nat} {fr : Nat → Bool} {src to : Nat} {T : Nat → Nat → Nat} {n : Nat} {sos slots takes : Nat → Int32} (hto : to ≤ 60) (h : TI W ic mm fr src to T n sos slots takes places) : ∀ (f j : Nat), j ≤ n → n < j + f → ∃ b, f_X6_hasFill_L2 N places (nI n) (nI to) f (nI j) = some b ∧ (b = true ↔ ∃ k, j ≤ k ∧ k < n ∧ plc ic src (T k) = to) := by
  intro f
  induction f with
  | zero => intro j h1 h2; omega
  | succ f ih =>
    intro j h1 h2
    have hn : n ≤ 1820 := h.2.2.2.2.2.1
    rw [f_X6_hasFill_L2]
    by_cases hj : j = n
    · subst hj
      rw [if_pos (nI_le (Nat.le_refl _) (by omega))]
      refine ⟨false, rfl, fun q => (Bool.false_ne_true q).elim, fun ⟨k, q1, q2, _⟩ => by omega⟩
    · have hp := (h.1 j (by omega)).1.2.2
      rw [if_neg (nI_ge (by omega) (by omega)), ck_nI (by omega) (by omega), cl_nI (by omega), (h.2.1 j (by omega)).2.2.1, nI_1]
      by_cases he : plc ic src (T j) = to
      · rw [if_pos (by rw [he])]
        exact ⟨true, rfl, fun _ => ⟨j, Nat.le_refl _, by omega, he⟩, fun _ => rfl⟩
      · rw [if_neg (fun q => he ((nI_eq (by omega) (by omega)).mp q))]
        obtain ⟨b, e1, e2⟩ := ih (j + 1) (by omega) (by omega)
        refine ⟨b, e1, e2.trans ⟨fun ⟨k, q1, q2, q3⟩ => ⟨k, by omega, q2, q3⟩, fun ⟨k, q1, q2, q3⟩ => ⟨k, ?_, q2, q3⟩⟩⟩
        by_cases hk : k = j
        · subst hk
          exact absurd q3 he
        · omega
end CAL3
