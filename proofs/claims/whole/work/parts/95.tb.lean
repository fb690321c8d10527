/-! ===== t_<m>: either the call is refused without ways, or the ways' end is not 0 ===== -/
section TOB
variable {N : Nat} {i m w l d t : Nat → Int32} {x y z : Int32} {s : Nat → Int32} {i0 m0 w0 l0 d0 t0 : Nat → Int32} {x0 y0 z0 : Int32}
variable {free steps sos slots takes places values order : Nat → Int32} {states wto aim last slt x1 x2 : Int32}
theorem w_ok (E : Enc i m w l d t x y z s) (O : Ok s) {r : Nat} (hr : r < high s) {q} (h : f_X7_waysOf N i m l d t x z free steps sos slots takes places states wto (nI r) = some q) : ¬ q.2.2.2.2.2.2.2 = 0 := by
  have h6 := O.h6
  obtain ⟨hl1, hl2⟩ := O.ln r hr
  rw [(s_waysOf h).2, cl_nI (by omega), E.len O.S (by omega), show (60 : Int32) = nI 60 from rfl, mn_nI (by omega) (by omega)]
  exact nI_ne0 (by omega) (by omega)
theorem t_fills (E : Enc i m w l d t x y z s) (O : Ok s) {p} (h : f_X7_fills N i m w l d t x y z free steps sos slots takes places values states wto aim last x1 = some p) : f_X7_fills_R N d y x1 = some p.1 ∨ ¬ p.2.2.2.2.2.2.2.2.2.1 = 0 := by
  unfold f_X7_fills at h
  unfold f_X7_fills_R
  rw [show (1 : Int32) = b2i true from rfl, c_refO E O, bs] at h ⊢
  by_cases hz : refO s x1 true = 0
  · rw [if_pos hz] at h
    obtain ⟨r3, h3, h⟩ := bd_some h
    obtain ⟨r4, h4, h⟩ := bd_some h
    cases h
    obtain ⟨r, hr, rfl, _, _⟩ := refO_0 O hz
    exact Or.inr (w_ok E O hr h3)
  · rw [if_neg hz] at h ⊢
    cases h
    exact Or.inl rfl
theorem t_ends (E : Enc i m w l d t x y z s) (O : Ok s) {p} (h : f_X7_ends N i m w l d t x y z free steps sos slots takes places values states wto aim last x1 x2 = some p) : f_X7_ends_R N d x y x1 x2 = some p.1 ∨ ¬ p.2.2.2.2.2.2.2.2.2.1 = 0 := by
  unfold f_X7_ends at h
  unfold f_X7_ends_R
  rw [show f_X7_isWidth N x x2 = some (inB x2 (wide s)) by rw [E.wide O.S]; exact c_inB.2, bs, c_refO E O, bs] at h ⊢
  by_cases hz : refO s x1 (inB x2 (wide s)) = 0
  · rw [if_pos hz] at h
    obtain ⟨r3, h3, h⟩ := bd_some h
    obtain ⟨r4, h4, h⟩ := bd_some h
    cases h
    obtain ⟨r, hr, rfl, _, _⟩ := refO_0 O hz
    exact Or.inr (w_ok E O hr h3)
  · rw [if_neg hz] at h ⊢
    cases h
    exact Or.inl rfl
theorem t_first (E : Enc i m w l d t x y z s) (O : Ok s) {p} (h : f_X7_first N i m w l d t x y z free steps sos slots takes places values states wto aim last order slt x1 x2 = some p) : f_X7_first_R N d y x1 x2 = some p.1 ∨ ¬ p.2.2.2.2.2.2.2.2.2.1 = 0 := by
  unfold f_X7_first at h
  unfold f_X7_first_R
  by_cases h2 : x2 < 0
  · rw [if_pos h2, show f_X7_refusalOfOpen N d y x1 0 = some (refO s x1 false) from c_refO (b := false) E O, bs] at h ⊢
    by_cases hz : refO s x1 false = 0
    · rw [if_pos hz] at h
      obtain ⟨_, _, _, hf, _⟩ := refO_0 O hz
      cases hf
    · rw [if_neg hz] at h ⊢
      cases h
      exact Or.inl rfl
  · rw [if_neg h2, show f_X7_refusalOfOpen N d y x1 1 = some (refO s x1 true) from c_refO (b := true) E O, bs] at h ⊢
    by_cases hz : refO s x1 true = 0
    · rw [if_pos hz] at h
      obtain ⟨r, hr, rfl, _, _⟩ := refO_0 O hz
      obtain ⟨r3, h3, h⟩ := bd_some h
      obtain ⟨r4, h4, h⟩ := bd_some h
      split at h
      · cases h
        exact Or.inr (w_ok E O hr h3)
      · obtain ⟨r5, h5, h⟩ := bd_some h
        cases h
        exact Or.inr (w_ok E O hr h3)
    · rw [if_neg hz] at h ⊢
      cases h
      exact Or.inl rfl
theorem t_best (E : Enc i m w l d t x y z s) (O : Ok s) {p} (h : f_X7_best N i m w l d t x y z free steps sos slots takes places values states wto aim last order slt x1 x2 = some p) : f_X7_best_R N d y x1 x2 = some p.1 ∨ ¬ p.2.2.2.2.2.2.2.2.2.1 = 0 := by
  unfold f_X7_best at h
  unfold f_X7_best_R
  by_cases h2 : x2 < (-1)
  · rw [if_pos h2, show f_X7_refusalOfOpen N d y x1 0 = some (refO s x1 false) from c_refO (b := false) E O, bs] at h ⊢
    by_cases hz : refO s x1 false = 0
    · rw [if_pos hz] at h
      obtain ⟨_, _, _, hf, _⟩ := refO_0 O hz
      cases hf
    · rw [if_neg hz] at h ⊢
      cases h
      exact Or.inl rfl
  · rw [if_neg h2, show f_X7_refusalOfOpen N d y x1 1 = some (refO s x1 true) from c_refO (b := true) E O, bs] at h ⊢
    by_cases hz : refO s x1 true = 0
    · rw [if_pos hz] at h
      obtain ⟨r, hr, rfl, _, _⟩ := refO_0 O hz
      obtain ⟨r3, h3, h⟩ := bd_some h
      obtain ⟨r4, h4, h⟩ := bd_some h
      split at h
      · cases h
        exact Or.inr (w_ok E O hr h3)
      · obtain ⟨r5, h5, h⟩ := bd_some h
        cases h
        exact Or.inr (w_ok E O hr h3)
    · rw [if_neg hz] at h ⊢
      cases h
      exact Or.inl rfl
theorem t_cuts (E : Enc i m w l d t x y z s) (O : Ok s) {p} (h : f_X7_cuts N i m w l d t x y z free steps sos slots takes places values states wto aim last order slt x1 x2 = some p) : f_X7_cuts_R N d y x1 x2 = some p.1 ∨ ¬ p.2.2.2.2.2.2.2.2.2.1 = 0 := by
  unfold f_X7_cuts at h
  unfold f_X7_cuts_R
  by_cases h2 : x2 < (-1)
  · rw [if_pos h2, show f_X7_refusalOfOpen N d y x1 0 = some (refO s x1 false) from c_refO (b := false) E O, bs] at h ⊢
    by_cases hz : refO s x1 false = 0
    · rw [if_pos hz] at h
      obtain ⟨_, _, _, hf, _⟩ := refO_0 O hz
      cases hf
    · rw [if_neg hz] at h ⊢
      cases h
      exact Or.inl rfl
  · rw [if_neg h2, show f_X7_refusalOfOpen N d y x1 1 = some (refO s x1 true) from c_refO (b := true) E O, bs] at h ⊢
    by_cases hz : refO s x1 true = 0
    · rw [if_pos hz] at h
      obtain ⟨r, hr, rfl, _, _⟩ := refO_0 O hz
      obtain ⟨r3, h3, h⟩ := bd_some h
      obtain ⟨r4, h4, h⟩ := bd_some h
      split at h
      · cases h
        exact Or.inr (w_ok E O hr h3)
      · obtain ⟨r5, h5, h⟩ := bd_some h
        cases h
        exact Or.inr (w_ok E O hr h3)
    · rw [if_neg hz] at h ⊢
      cases h
      exact Or.inl rfl
theorem t_two (E : Enc i m w l d t x y z s) (O : Ok s) {p} (h : f_X7_two N i m w l d t x y z free steps sos slots takes places values states wto x1 x2 = some p) : f_X7_two_R N d y x1 x2 = some p.1 ∨ ¬ p.2.2.2.2.2.2.2.2.2 = 0 := by
  have h6 := O.h6
  unfold f_X7_two at h
  unfold f_X7_two_R
  rw [show f_X7_isRow N y x1 = some (inB x1 (high s)) by rw [E.high O.S]; exact c_inB.1, bs] at h ⊢
  split at h
  · rename_i q
    rw [if_pos q]
    cases h
    exact Or.inl rfl
  · rename_i q
    rw [if_neg q]
    rw [show f_X7_isRow N y x2 = some (inB x2 (high s)) by rw [E.high O.S]; exact c_inB.1, bs] at h ⊢
    split at h
    · rename_i q
      rw [if_pos q]
      cases h
      exact Or.inl rfl
    · rename_i q2
      rw [if_neg q2]
      have hx2 : inB x2 (high s) = true := by
        cases hb : inB x2 (high s) with
        | true => rfl
        | false => rw [hb] at q2; exact absurd rfl q2
      obtain ⟨r, hr, rfl⟩ := inB_t (by omega) hx2
      split at h
      · rename_i q
        rw [if_pos q]
        obtain ⟨g1, h⟩ := ck_some h
        rw [g1, ck_t]
        split at h
        · rename_i q
          rw [if_pos q]
          cases h
          exact Or.inl rfl
        · rename_i q
          rw [if_neg q]
          obtain ⟨g2, h⟩ := ck_some h
          rw [g2, ck_t]
          split at h
          · obtain ⟨_, _, h⟩ := bd_some h
            obtain ⟨_, _, h⟩ := bd_some h
            obtain ⟨_, h3, h⟩ := bd_some h
            obtain ⟨_, _, h⟩ := bd_some h
            obtain ⟨_, _, h⟩ := bd_some h
            have hn := w_ok E O hr h3
            cases h
            exact Or.inr hn
          · rename_i q
            rw [if_neg q]
            cases h
            exact Or.inl rfl
      · rename_i q
        rw [if_neg q]
        cases h
        exact Or.inl rfl
theorem t_uses (E : Enc i m w l d t x y z s) (O : Ok s) {p} (h : f_X7_uses N i m w l d t x y z i0 m0 w0 l0 d0 t0 x0 y0 z0 free steps sos slots takes places values states wto aim last x1 x2 = some p) : f_X7_uses_R N m d x y x1 x2 = some p.1 ∨ ¬ p.2.2.2.2.2.2.2.2.2.2.2.2.2.2.2.2.2.2.1 = 0 := by
  have h6 := O.h6
  unfold f_X7_uses at h
  unfold f_X7_uses_R
  rw [show f_X7_isWidth N x x2 = some (inB x2 (wide s)) by rw [E.wide O.S]; exact c_inB.2, bs, c_refO E O, bs] at h ⊢
  by_cases hz : refO s x1 (inB x2 (wide s)) = 0
  · rw [if_pos hz] at h ⊢
    obtain ⟨g1, h⟩ := ck_some h
    rw [g1, ck_t]
    split at h
    · rename_i q
      rw [if_pos q]
      cases h
      exact Or.inl rfl
    · obtain ⟨_, _, h⟩ := bd_some h
      obtain ⟨_, _, h⟩ := bd_some h
      obtain ⟨i', m', w', l', d', t', e5, E2⟩ := c_takeOver (N := N) E (i0 := i0) (m0 := m0) (w0 := w0) (l0 := l0) (d0 := d0) (t0 := t0) (x0 := x0) (y0 := y0) (z0 := z0)
      rw [e5, bs] at h
      obtain ⟨_, h⟩ := ck_some h
      obtain ⟨_, h⟩ := ck_some h
      obtain ⟨_, h3, h⟩ := bd_some h
      obtain ⟨_, _, h⟩ := bd_some h
      cases h
      obtain ⟨r, hr, rfl, _, _⟩ := refO_0 O hz
      obtain ⟨hl1, hl2⟩ := O.ln r hr
      refine Or.inr ?_
      show ¬ _ = 0
      rw [(s_waysOf h3).2, cl_nI (by omega)]
      show ¬ mn (l' r) 60 = 0
      rw [E2.len O.S (by omega), show (60 : Int32) = nI 60 from rfl, mn_nI (by omega) (by omega)]
      exact nI_ne0 (by omega) (by omega)
  · rw [if_neg hz] at h ⊢
    cases h
    exact Or.inl rfl
theorem t_needs (E : Enc i m w l d t x y z s) (O : Ok s) {p} (h : f_X7_needs N i m w l d t x y z i0 m0 w0 l0 d0 t0 x0 y0 z0 free steps sos slots takes places states wto x1 x2 = some p) (hw : refO s x1 (inB x2 (wide s)) = 0 → ¬ p.2.2.2.2.2.2.2.2.2.2.2.2.2.2.2.2.2 = 0) : f_X7_needs_R N i m w l d t x y z i0 m0 w0 l0 d0 t0 x0 y0 z0 x1 x2 = some (p.1, i0, m0, w0, l0, d0, t0, x0, y0, z0) ∨ ¬ p.2.2.2.2.2.2.2.2.2.2.2.2.2.2.2.2.2 = 0 := by
  unfold f_X7_needs at h
  unfold f_X7_needs_R
  rw [show f_X7_isWidth N x x2 = some (inB x2 (wide s)) by rw [E.wide O.S]; exact c_inB.2, bs, c_refO E O, bs] at h ⊢
  by_cases hz : refO s x1 (inB x2 (wide s)) = 0
  · exact Or.inr (hw hz)
  · rw [if_neg hz] at h ⊢
    cases h
    exact Or.inl rfl
theorem t_broken (E : Enc i m w l d t x y z s) (O : Ok s) {p} (h : f_X7_broken N i m w l d t x y z i0 m0 w0 l0 d0 t0 x0 y0 z0 free steps sos slots takes places states wto x1 x2 = some p) (hw : inB x1 (high s) = true → inB x2 (ld s x1.toNatClampNeg) = true → ¬ p.2.2.2.2.2.2.2.2.2.2.2.2.2.2.2.2.2 = 0) : f_X7_broken_R N d y x1 x2 = some p.1 ∨ ¬ p.2.2.2.2.2.2.2.2.2.2.2.2.2.2.2.2.2 = 0 := by
  have h6 := O.h6
  unfold f_X7_broken at h
  unfold f_X7_broken_R
  rw [show f_X7_isRow N y x1 = some (inB x1 (high s)) by rw [E.high O.S]; exact c_inB.1, bs] at h ⊢
  cases hb : inB x1 (high s) with
  | false =>
    rw [hb, if_pos (show b2i false = 0 from rfl)] at h
    rw [if_pos (show b2i false = 0 from rfl)]
    cases h
    exact Or.inl rfl
  | true =>
    rw [hb, if_neg (show ¬ b2i true = 0 by decide)] at h
    rw [if_neg (show ¬ b2i true = 0 by decide)]
    obtain ⟨r, hr, rfl⟩ := inB_t (by omega) hb
    have hl12 := O.l12 r (by omega)
    by_cases h1 : x2 < 0
    · rw [if_pos h1] at h ⊢
      cases h
      exact Or.inl rfl
    · rw [if_neg h1] at h ⊢
      rw [ck_nI (by omega) (by omega), cl_nI (by omega), E.ld O.S (by omega)] at h ⊢
      by_cases h2 : x2 < nI (ld s r)
      · refine Or.inr (hw hb ?_)
        rw [cl_nI (by omega)]
        unfold inB
        rw [decide_eq_true h1, decide_eq_true h2]
        rfl
      · rw [if_neg h2] at h ⊢
        cases h
        exact Or.inl rfl
section TALL
variable {fi fm fw fl fd ft : Nat → Int32} {fx fy fz : Int32}
theorem ta_2 (hL : ∀ v : Int32, gi v 6 = true → ¬ y0 ≤ v → ¬ mn (l0 v.toNatClampNeg) 60 = 0) : ∀ (n : Nat) (v2 v3 : Int32) (m0 d0 t0 free steps sos slots takes places values : Nat → Int32) (states wto aim last : Int32) (order : Nat → Int32) (slt : Int32) p, ¬ wto = 0 → f_X7_all_L26 N fi fm fw fl fd ft fx fy fz i0 w0 l0 x0 y0 z0 x1 n v2 v3 m0 d0 t0 free steps sos slots takes places values states wto aim last order slt = some p → ¬ p.2.2.2.2.2.2.2.2.2.2.2.2.2.2.2.2.2.2.1 = 0 := by
  intro n
  induction n with
  | zero => intro v2 v3 m0 d0 t0 free steps sos slots takes places values states wto aim last order slt p hw h; rw [f_X7_all_L26] at h; cases h
  | succ n ih =>
    intro v2 v3 m0 d0 t0 free steps sos slots takes places values states wto aim last order slt p hw h
    rw [f_X7_all_L26] at h
    split at h
    · split at h
      · cases h; exact hw
      · obtain ⟨_, _, h⟩ := bd_some h
        cases h; exact hw
    · rename_i hv
      obtain ⟨g1, h⟩ := ck_some h
      split at h
      · obtain ⟨r7, h7, h⟩ := bd_some h
        obtain ⟨r8, h8, h⟩ := bd_some h
        have hn : ¬ r7.2.2.2.2.2.2.2 = 0 := by rw [(s_waysOf h7).2]; exact hL _ g1 hv
        split at h
        · split at h
          · cases h; exact hn
          · obtain ⟨_, _, h⟩ := bd_some h
            cases h; exact hn
        · obtain ⟨_, _, h⟩ := bd_some h
          exact ih _ _ _ _ _ _ _ _ _ _ _ _ _ _ _ _ _ _ _ hn h
      · exact ih _ _ _ _ _ _ _ _ _ _ _ _ _ _ _ _ _ _ _ hw h
theorem ta_1 (hL : ∀ v : Int32, gi v 6 = true → ¬ y0 ≤ v → ¬ mn (l0 v.toNatClampNeg) 60 = 0) : ∀ (n : Nat) (v2 v3 : Int32) p, f_X7_all_L26 N fi fm fw fl fd ft fx fy fz i0 w0 l0 x0 y0 z0 x1 n v2 v3 m0 d0 t0 free steps sos slots takes places values states wto aim last order slt = some p → f_X7_all_R_L26 N fi fm fw fl fd ft fx fy fz i0 m0 w0 l0 d0 t0 x0 y0 z0 x1 n v2 v3 = some (p.1, i0, m0, w0, l0, d0, t0, x0, y0, z0) ∨ ¬ p.2.2.2.2.2.2.2.2.2.2.2.2.2.2.2.2.2.2.1 = 0 := by
  intro n
  induction n with
  | zero => intro v2 v3 p h; rw [f_X7_all_L26] at h; cases h
  | succ n ih =>
    intro v2 v3 p h
    rw [f_X7_all_L26] at h
    rw [f_X7_all_R_L26]
    split at h
    · rename_i q
      rw [if_pos q]
      split at h
      · rename_i q
        rw [if_pos q]
        cases h; exact Or.inl rfl
      · rename_i q
        rw [if_neg q]
        obtain ⟨r5, e5, h⟩ := bd_some h
        rw [e5, bs]
        cases h; exact Or.inl rfl
    · rename_i hv
      rw [if_neg hv]
      obtain ⟨g1, h⟩ := ck_some h
      rw [g1, ck_t]
      split at h
      · obtain ⟨r7, h7, h⟩ := bd_some h
        obtain ⟨r8, h8, h⟩ := bd_some h
        have hn : ¬ r7.2.2.2.2.2.2.2 = 0 := by rw [(s_waysOf h7).2]; exact hL _ g1 hv
        refine Or.inr ?_
        split at h
        · split at h
          · cases h; exact hn
          · obtain ⟨_, _, h⟩ := bd_some h
            cases h; exact hn
        · obtain ⟨_, _, h⟩ := bd_some h
          exact ta_2 hL _ _ _ _ _ _ _ _ _ _ _ _ _ _ _ _ _ _ _ _ hn h
      · rename_i q
        rw [if_neg q]
        exact ih _ _ _ h
end TALL
theorem t_all (E : Enc i m w l d t x y z s) (O : Ok s) {p} (h : f_X7_all N i m w l d t x y z i0 m0 w0 l0 d0 t0 x0 y0 z0 free steps sos slots takes places values states wto aim last order slt x1 = some p) : (∃ i' m' w' l' d' t' x' y' z', f_X7_all_R N i m w l d t x y z i0 m0 w0 l0 d0 t0 x0 y0 z0 x1 = some (p.1, i', m', w', l', d', t', x', y', z')) ∨ ¬ p.2.2.2.2.2.2.2.2.2.2.2.2.2.2.2.2.2.2.1 = 0 := by
  have h6 := O.h6
  unfold f_X7_all at h
  unfold f_X7_all_R
  obtain ⟨i', m', w', l', d', t', e5, E2⟩ := c_takeOver (N := N) E (i0 := i0) (m0 := m0) (w0 := w0) (l0 := l0) (d0 := d0) (t0 := t0) (x0 := x0) (y0 := y0) (z0 := z0)
  have hL : ∀ v : Int32, gi v 6 = true → ¬ y ≤ v → ¬ mn (l' v.toNatClampNeg) 60 = 0 := fun v hv hy => by
    have hb : inB v (high s) = true := by
      unfold inB
      rw [E.high O.S] at hy
      have h0 : ¬ v < 0 := fun q => gi_in hv (Or.inl q)
      rw [decide_eq_true h0, decide_eq_true (show v < nI (high s) by
        rw [Int32.lt_iff_toInt_lt]
        rw [Int32.le_iff_toInt_le] at hy
        omega)]
      rfl
    obtain ⟨r, hr, rfl⟩ := inB_t (by omega) hb
    obtain ⟨hl1, hl2⟩ := O.ln r hr
    rw [cl_nI (by omega), E2.len O.S (by omega), show (60 : Int32) = nI 60 from rfl, mn_nI (by omega) (by omega)]
    exact nI_ne0 (by omega) (by omega)
  split at h
  · rename_i q
    rw [if_pos q, e5, bs]
    rw [e5, bs] at h
    rcases ta_1 hL _ _ _ _ h with q | q
    · exact Or.inl ⟨_, _, _, _, _, _, _, _, _, q⟩
    · exact Or.inr q
  · rename_i q
    rw [if_neg q]
    split at h
    · rename_i q
      rw [if_pos q, e5, bs]
      rw [e5, bs] at h
      rcases ta_1 hL _ _ _ _ h with q | q
      · exact Or.inl ⟨_, _, _, _, _, _, _, _, _, q⟩
      · exact Or.inr q
    · rename_i q
      rw [if_neg q]
      cases h
      exact Or.inl ⟨_, _, _, _, _, _, _, _, _, rfl⟩
end TOB
