/-! ===== fills, first, best, ends, uses as calls ===== -/
section CAL2
variable {N : Nat} {i m w l d t : Nat → Int32} {x y z : Int32} {s : Nat → Int32}
variable {free steps sos slots takes places values order way found : Nat → Int32} {states wto aim last slt wrw wt ws eb fs fw : Int32}
theorem e_fillsOf (hN : 20 < N) (hG : Gd s) {r : Nat} (hr : r < 6) (hl1 : 0 < len s r) (hl2 : len s r ≤ 60) : ∃ way' found' a b c fs' fw', f_X8_fillsOf N s way found wrw wt ws eb fs fw (nI r) = some (nI (cnt none (flS s r 0 (len s r))), s, way', found', a, b, c, -4, fs', fw') ∧ FG ((flS s r 0 (len s r)).head?.map (fun q => (q, wsum (wor s) q))) found' fs' fw' := by
  obtain ⟨w', f', s', x', e1, e2⟩ := e_findFills (N := N) hN hG hr hl2 hl1 (ebI := -4) (eb := none) (Or.inl ⟨by decide, rfl⟩) (tk := 0) (t := false) (by decide) (way := way) (found := found) (wr := wrw) (wt := wt) (ws := ws) (fs := fs) (fw := fw)
  unfold f_X8_fillsOf
  have e1' : f_X8_findFills N s way found wrw wt ws (-4) fs fw (nI r) 0 (nI (len s r)) 0 = _ := e1
  rw [e_lengthOf hG.1 hr, bs, e1', bs]
  unfold selS at e2
  rw [sel_false] at e2
  exact ⟨_, _, _, _, _, _, _, rfl, e2⟩
theorem e_findBest (hN : 20 < N) (hG : Gd s) {r : Nat} (hr : r < 6) (hl1 : 0 < len s r) (hl2 : len s r ≤ 60) : ∃ g way' found' a b c fs' fw', f_X8_findBest N s way found wrw wt ws eb fs fw (nI r) = some (g, s, way', found', a, b, c, -4, fs', fw') ∧ FG ((fnd (wor s) (mw (wor s) (flS s r 0 (len s r))) (flS s r 0 (len s r))).map (fun q => (q, wsum (wor s) q))) found' fs' fw' ∧ (g = true ↔ fnd (wor s) (mw (wor s) (flS s r 0 (len s r))) (flS s r 0 (len s r)) ≠ none) := by
  obtain ⟨w', f', s', x', e1, e2⟩ := e_findFills (N := N) hN hG hr hl2 hl1 (ebI := -4) (eb := none) (Or.inl ⟨by decide, rfl⟩) (tk := 1) (t := true) (by decide) (way := way) (found := found) (wr := wrw) (wt := wt) (ws := ws) (fs := fs) (fw := fw)
  unfold f_X8_findBest
  have hwr : ∀ v, v < wide s → wor s v ≤ 99 := fun v hv => hG.1.le (by have := hG.2.1; omega)
  have hbd : ∀ q, q ∈ flS s r 0 (len s r) → wsum (wor s) q < 1000000 := fun q hq => by
    have := (fl_ws (wr := wor s) hwr 61 _ _ q hq).1
    omega
  have e1' : f_X8_findFills N s way found wrw wt ws (-4) fs fw (nI r) 0 (nI (len s r)) 1 = _ := e1
  rw [e_lengthOf hG.1 hr, bs, e1', bs]
  unfold selS at e2
  rw [sel_true (wor s) _ hbd] at e2
  have hcb : cnt none (flS s r 0 (len s r)) < 2 ^ 31 := by
    have := gv_count (wr := wor s) (fr := frB s r 0 (len s r)) (to := len s r) (ve := fun v => if (none : Option Nat) = none ∨ some v = none then 1 else 0) (aim := 0) rfl (fun v hv => by rw [if_pos (Or.inl rfl)]; omega) hG.2.1 hG.2.2.1 61 12 (mny s) 0 (by omega)
    rw [gv_cnt (my := mayB s r) (fun v hv => by have := hG.2.2.1 v hv; omega) (fun x h1 h2 => frB_mid h1 h2) none 61 (mny s) 0 (Nat.le_refl _) hl1 (by omega)] at this
    have e : (4 : Nat) ^ 12 = 16777216 := by decide
    unfold flS
    omega
  try dsimp only
  by_cases hL : flS s r 0 (len s r) = []
  · have hc : cnt none (flS s r 0 (len s r)) = 0 := by rw [hL]; rfl
    rw [hc, if_pos (show nI 0 ≤ 0 by decide)]
    refine ⟨_, _, _, _, _, _, _, _, rfl, e2, fun q => (Bool.false_ne_true q).elim, fun q => ?_⟩
    rw [hL] at q
    exact absurd rfl q
  · have hc := (cnt_none_pos _).mpr hL
    rw [if_neg (nI_nle hc hcb)]
    refine ⟨_, _, _, _, _, _, _, _, rfl, e2, fun _ => ?_, fun _ => rfl⟩
    refine mw_mem _ _ ?_
    cases hq : flS s r 0 (len s r) with
    | nil => exact absurd hq hL
    | cons q L =>
      have := hbd q (by rw [hq]; exact List.mem_cons_self)
      show min (wsum (wor s) q) (mw (wor s) L) < 1000000
      omega
theorem r_fills (hN : 5000 < N) (E : Enc i m w l d t x y z s) (O : Ok s) (hso : SO sos) {x1 : Int32} : ∃ p q, f_X7_fills N i m w l d t x y z free steps sos slots takes places values states wto aim last x1 = some p ∧ f_X8_fills N s way found wrw wt ws eb fs fw x1 = some q ∧ p.1 = q.1 ∧ q.2.1 = s ∧ SO p.2.2.2.1 := by
  have h6 := O.h6
  unfold f_X7_fills f_X8_fills
  rw [show (1 : Int32) = b2i true from rfl, c_refO E O, bs, e_wrong O, bs]
  by_cases hz : refO s x1 true = 0
  · rw [if_pos hz, if_pos hz]
    obtain ⟨r, hr, rfl, _, hl0⟩ := refO_0 O hz
    obtain ⟨hl1, hl2⟩ := O.ln r hr
    obtain ⟨T, n, a1, a2, a3, a4, a5, a6, e1, e2⟩ := c_waysOf (N := N) E O.wd hN (row := r) (by omega) hl2 (free := free) (steps := steps) (slots := slots) (takes := takes) (places := places) (states := states) (wto := wto) hso
    obtain ⟨v', a, b, e3⟩ := c_number (N := N) (values := values) (aim0 := aim) (last0 := last) E O.wd hN hl2 (by omega) e2
    obtain ⟨q1, q2, q3, q4, q5, q6, q7, e4, _⟩ := e_fillsOf (N := N) (way := way) (found := found) (wrw := wrw) (wt := wt) (ws := ws) (eb := eb) (fs := fs) (fw := fw) (by omega) O.g (r := r) (by omega) (by omega) hl2
    rw [e1, bs]
    try dsimp only
    rw [e3, bs, e4, bs]
    exact ⟨_, _, rfl, rfl, rfl, rfl, e2.so⟩
  · rw [if_neg hz, if_neg hz]
    exact ⟨_, _, rfl, rfl, rfl, rfl, hso⟩
theorem r_ends (hN : 5000 < N) (E : Enc i m w l d t x y z s) (O : Ok s) (hso : SO sos) {x1 x2 : Int32} : ∃ p q, f_X7_ends N i m w l d t x y z free steps sos slots takes places values states wto aim last x1 x2 = some p ∧ f_X8_ends N s way found wrw wt ws eb fs fw x1 x2 = some q ∧ p.1 = q.1 ∧ q.2.1 = s ∧ SO p.2.2.2.1 := by
  have h6 := O.h6
  have hw4 := O.w4
  unfold f_X7_ends f_X8_ends
  rw [show f_X7_isWidth N x x2 = some (inB x2 (wide s)) by rw [E.wide O.S]; exact c_inB.2, bs, c_refO E O, bs, e_wrongWidth O, bs]
  by_cases hz : refO s x1 (inB x2 (wide s)) = 0
  · rw [if_pos hz, if_pos hz]
    obtain ⟨r, hr, rfl, hb, hl0⟩ := refO_0 O hz
    obtain ⟨v, hv, rfl⟩ := inB_t (by omega) hb
    obtain ⟨hl1, hl2⟩ := O.ln r hr
    obtain ⟨T, n, a1, a2, a3, a4, a5, a6, e1, e2⟩ := c_waysOf (N := N) E O.wd hN (row := r) (by omega) hl2 (free := free) (steps := steps) (slots := slots) (takes := takes) (places := places) (states := states) (wto := wto) hso
    obtain ⟨v', a, b, e3⟩ := c_numEnd (N := N) (values := values) (aim0 := aim) (last0 := last) E O.wd hN hl2 (by omega) e2 (e := v) (by omega)
    obtain ⟨w', f', s', x', e4, _⟩ := e_findFills (N := N) (by omega) O.g (r := r) (by omega) hl2 (src := 0) (by omega) (ebI := nI v) (eb := some v) (Or.inr ⟨v, rfl, rfl, by omega⟩) (tk := 0) (t := false) (by decide) (way := way) (found := found) (wr := wrw) (wt := wt) (ws := ws) (fs := fs) (fw := fw)
    have e4' : f_X8_findFills N s way found wrw wt ws (nI v) fs fw (nI r) 0 (nI (len s r)) 0 = _ := e4
    rw [e1, bs]
    try dsimp only
    rw [e3, bs, e_lengthOf O.S (by omega), bs, e4', bs]
    exact ⟨_, _, rfl, rfl, rfl, rfl, e2.so⟩
  · rw [if_neg hz, if_neg hz]
    exact ⟨_, _, rfl, rfl, rfl, rfl, hso⟩
theorem refO_f {x1 : Int32} : refO s x1 false = -1 := by
  unfold refO
  rw [if_neg (fun q => Bool.false_ne_true q.2)]
theorem r_first (hN : 5000 < N) (E : Enc i m w l d t x y z s) (O : Ok s) (hso : SO sos) {x1 x2 : Int32} : ∃ p q, f_X7_first N i m w l d t x y z free steps sos slots takes places values states wto aim last order slt x1 x2 = some p ∧ f_X8_first N s way found wrw wt ws eb fs fw x1 x2 = some q ∧ p.1 = q.1 ∧ q.2.1 = s ∧ SO p.2.2.2.1 := by
  have h6 := O.h6
  unfold f_X7_first f_X8_first
  by_cases h0 : x2 < 0
  · rw [if_pos h0, if_neg (fun q => (fa_of_lt h0).2.1 q), show f_X7_refusalOfOpen N d y x1 0 = _ from c_refO (b := false) E O, bs, refO_f, if_neg (show ¬ (-1 : Int32) = 0 by decide)]
    exact ⟨_, _, rfl, rfl, rfl, rfl, hso⟩
  · have h0' : 0 ≤ x2 := fa_of_nlt h0
    rw [if_neg h0, if_pos h0', show f_X7_refusalOfOpen N d y x1 1 = _ from c_refO (b := true) E O, bs, e_wrong O, bs]
    by_cases hz : refO s x1 true = 0
    · rw [if_pos hz, if_pos hz]
      obtain ⟨r, hr, rfl, _, hl0⟩ := refO_0 O hz
      obtain ⟨hl1, hl2⟩ := O.ln r hr
      obtain ⟨T, n, a1, a2, a3, a4, a5, a6, e1, e2⟩ := c_waysOf (N := N) E O.wd hN (row := r) (by omega) hl2 (free := free) (steps := steps) (slots := slots) (takes := takes) (places := places) (states := states) (wto := wto) hso
      obtain ⟨b, v', a, c, o', sl', e3, e5⟩ := c_first (N := N) (values := values) (aim0 := aim) (last0 := last) (order := order) (sl0 := slt) E O.wd hN hl2 (by omega) e2
      obtain ⟨q1, q2, q3, q4, q5, q6, q7, e4, e6⟩ := e_fillsOf (N := N) (way := way) (found := found) (wrw := wrw) (wt := wt) (ws := ws) (eb := eb) (fs := fs) (fw := fw) (by omega) O.g (r := r) (by omega) (by omega) hl2
      rw [e1, bs]
      try dsimp only
      rw [e3, bs, e4, bs]
      try dsimp only
      cases hq : (flS s r 0 (len s r)).head? with
      | none =>
        rw [hq] at e5 e6
        have e5 : b = false := e5
        have e6 : q6 < 0 := e6
        rw [e5, if_pos (show b2i false = 0 from rfl)]
        unfold f_X8_foundAt
        rw [if_pos (show q6 ≤ x2 by rw [fa_le] at h0' ⊢; rw [fa_lt] at e6; omega), bs]
        exact ⟨_, _, rfl, rfl, rfl, rfl, e2.so⟩
      | some q =>
        rw [hq] at e5 e6
        obtain ⟨f1, f2, f3, f4⟩ := e5
        obtain ⟨a, g1, g2⟩ := told_found (N := N) (vals := v') (order := o') (sl0 := sl') f2 f4 f3 e6 h0'
        rw [f1, if_neg (show ¬ b2i true = 0 by decide), g1, bs, g2, bs]
        exact ⟨_, _, rfl, rfl, rfl, rfl, e2.so⟩
    · rw [if_neg hz, if_neg hz]
      exact ⟨_, _, rfl, rfl, rfl, rfl, hso⟩
theorem r_best (hN : 5000 < N) (E : Enc i m w l d t x y z s) (O : Ok s) (hso : SO sos) {x1 x2 : Int32} : ∃ p q, f_X7_best N i m w l d t x y z free steps sos slots takes places values states wto aim last order slt x1 x2 = some p ∧ f_X8_best N s way found wrw wt ws eb fs fw x1 x2 = some q ∧ p.1 = q.1 ∧ q.2.1 = s ∧ SO p.2.2.2.1 := by
  have h6 := O.h6
  unfold f_X7_best f_X8_best
  by_cases h0 : x2 < -1
  · rw [if_pos h0, if_neg (fun q => (fa_of_lt h0).2.1 q), show f_X7_refusalOfOpen N d y x1 0 = _ from c_refO (b := false) E O, bs, refO_f, if_neg (show ¬ (-1 : Int32) = 0 by decide)]
    exact ⟨_, _, rfl, rfl, rfl, rfl, hso⟩
  · have h0' : -1 ≤ x2 := fa_of_nlt h0
    rw [if_neg h0, if_pos h0', show f_X7_refusalOfOpen N d y x1 1 = _ from c_refO (b := true) E O, bs, e_wrong O, bs]
    by_cases hz : refO s x1 true = 0
    · rw [if_pos hz, if_pos hz]
      obtain ⟨r, hr, rfl, _, hl0⟩ := refO_0 O hz
      obtain ⟨hl1, hl2⟩ := O.ln r hr
      obtain ⟨T, n, a1, a2, a3, a4, a5, a6, e1, e2⟩ := c_waysOf (N := N) E O.wd hN (row := r) (by omega) hl2 (free := free) (steps := steps) (slots := slots) (takes := takes) (places := places) (states := states) (wto := wto) hso
      obtain ⟨b, v', a, c, o', sl', e3, e5⟩ := c_cheapest (N := N) (values := values) (aim0 := aim) (last0 := last) (order := order) (sl0 := slt) E O.wd hN hl2 (by omega) e2
      obtain ⟨g, q1, q2, q3, q4, q5, q6, q7, e4, e6, e7⟩ := e_findBest (N := N) (way := way) (found := found) (wrw := wrw) (wt := wt) (ws := ws) (eb := eb) (fs := fs) (fw := fw) (by omega) O.g (r := r) (by omega) (by omega) hl2
      rw [e1, bs]
      try dsimp only
      rw [e3, bs, e4, bs]
      try dsimp only
      cases hq : fnd (wor s) (mw (wor s) (flS s r 0 (len s r))) (flS s r 0 (len s r)) with
      | none =>
        rw [hq] at e5 e7
        have e5 : b = false := e5
        have hg : g = false := by
          cases g with
          | false => rfl
          | true => exact absurd rfl (e7.mp rfl)
        rw [e5, hg, if_pos (show b2i false = 0 from rfl), if_pos (show b2i false = 0 from rfl)]
        exact ⟨_, _, rfl, rfl, rfl, rfl, e2.so⟩
      | some q =>
        rw [hq] at e5 e6 e7
        obtain ⟨f1, f2, f3, f4, f5⟩ := e5
        have hg : g = true := e7.mpr (Option.some_ne_none _)
        rw [f1, hg, if_neg (show ¬ b2i true = 0 by decide), if_neg (show ¬ b2i true = 0 by decide)]
        by_cases hx0 : 0 ≤ x2
        · obtain ⟨a, g1, g2⟩ := told_found (N := N) (vals := v') (order := o') (sl0 := sl') f2 f4 f3 e6 hx0
          rw [if_pos hx0, g1, bs, g2, bs]
          exact ⟨_, _, rfl, rfl, rfl, rfl, e2.so⟩
        · rw [if_neg hx0]
          unfold f_X6_told
          rw [if_neg hx0, show gi 0 1820 = true by decide, ck_t, bs]
          refine ⟨_, _, rfl, rfl, ?_, rfl, e2.so⟩
          show v' (0 : Int32).toNatClampNeg = q7
          exact f5.trans e6.2.2.1.symm
    · rw [if_neg hz, if_neg hz]
      exact ⟨_, _, rfl, rfl, rfl, rfl, hso⟩
end CAL2
