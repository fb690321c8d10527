/-! ===== counted, first, cheapest: both sides ===== -/
section FLL
variable {W : Nat} {ic : Nat → Nat} {my : Nat → Bool} {to : Nat}
theorem fl_len (hic : ∀ w, w < W → 5 ≤ ic w) : ∀ (d : Nat) (m : Nat → Nat) (p : Nat) (q : List Nat), q ∈ fl W ic my to d m p → p + 5 * q.length ≤ to := by
  intro d
  induction d with
  | zero => intro m p q hq; cases hq
  | succ d ih =>
    intro m p q hq
    rw [fl] at hq
    by_cases hp : p = to
    · rw [if_pos hp] at hq
      have : q = [] := by simpa using hq
      subst this
      simp
      omega
    · rw [if_neg hp] at hq
      obtain ⟨w, _, hw, hq2⟩ := mem_flw hq
      try dsimp only at hq2
      by_cases hs : stp ic my to m p w = true
      · rw [if_pos hs] at hq2
        obtain ⟨q2, h1, rfl⟩ := List.mem_map.mp hq2
        have := ih _ _ q2 h1
        have h5 := hic w (by omega)
        simp only [List.length_cons]
        omega
      · rw [if_neg hs] at hq2
        cases hq2
end FLL
section CAL
variable {N : Nat} {i m w l d t : Nat → Int32} {x y z : Int32} {s : Nat → Int32}
variable {row src to : Nat} {steps sos slots takes places values : Nat → Int32} {T : Nat → Nat → Nat} {n : Nat}
theorem ve0 {v : Nat} : f_X6_valueAtEnd N (nI 0) (-1) w (nI v) = some (nI (if (none : Option Nat) = none ∨ some v = none then 1 else 0)) := by
  unfold f_X6_valueAtEnd
  rw [if_pos (show nI 0 = 0 from rfl), if_pos rfl, if_pos (Or.inl rfl)]
  rfl
theorem ve1 {v e : Nat} (hv : v < 4) (he : e < 4) : f_X6_valueAtEnd N (nI 0) (nI e) w (nI v) = some (nI (if (some e : Option Nat) = none ∨ some v = some e then 1 else 0)) := by
  unfold f_X6_valueAtEnd
  rw [if_pos (show nI 0 = 0 from rfl), if_neg (fun q => absurd (show nI e < 0 by rw [q]; decide) (nI_pos (by omega)))]
  by_cases h : e = v
  · subst h
    rw [if_pos rfl, if_pos (Or.inr rfl)]
    rfl
  · rw [if_neg (fun q => h ((nI_eq (by omega) (by omega)).mp q)), if_neg (fun q => by
      rcases q with q | q
      · cases q
      · exact h (Option.some.inj q).symm)]
    rfl
theorem ve2 (E : Enc i m w l d t x y z s) (h : Sm s) {last : Int32} {v : Nat} (hv : v < 4) : f_X6_valueAtEnd N (nI 1) last w (nI v) = some (nI (wor s v)) := by
  unfold f_X6_valueAtEnd
  rw [if_neg (show ¬ nI 1 = 0 by decide), if_pos (show nI 1 = 1 from rfl), ck_nI (by omega) (by omega), cl_nI (by omega), E.wor h hv]
theorem c_number (E : Enc i m w l d t x y z s) (hW : Wd s) (hN : 5000 < N) (hto : to ≤ 60) (hsrc : src < to) (h : WT s row src to steps sos slots takes places T n) {aim0 last0 : Int32} :
    ∃ values' a b, f_X6_number N steps sos slots takes places values (nI n) (nI to) aim0 last0 i m w x = some (nI (cnt none (flS s row src to)), values', a, b) := by
  obtain ⟨v', e1, _, _⟩ := w_find (N := N) (values := values) (aim := 0) (last := -1) (ve := fun v => if (none : Option Nat) = none ∨ some v = none then 1 else 0) (aim0 := aim0) (last0 := last0) E hW hN hto hsrc h (by omega) (fun v hv => ve0) (fun v hv => by rw [if_pos (Or.inl rfl)]; omega)
  rw [gv_cnt (my := mayB s row) (fun v hv => by have := hW.1.2.2.1 v hv; omega) (fun x h1 h2 => frB_mid h1 h2) none 61 (mny s) src (Nat.le_refl _) hsrc (by omega)] at e1
  unfold f_X6_number
  rw [show (0 : Int32) = nI 0 from rfl, e1]
  exact ⟨_, _, _, rfl⟩
theorem c_numEnd (E : Enc i m w l d t x y z s) (hW : Wd s) (hN : 5000 < N) (hto : to ≤ 60) (hsrc : src < to) (h : WT s row src to steps sos slots takes places T n) {aim0 last0 : Int32} {e : Nat} (he : e < 4) :
    ∃ values' a b, f_X6_numberEndingWith N steps sos slots takes places values (nI n) (nI to) aim0 last0 i m w x (nI e) = some (nI (cnt (some e) (flS s row src to)), values', a, b) := by
  have h4 := hW.1.2.1
  obtain ⟨v', e1, _, _⟩ := w_find (N := N) (values := values) (aim := 0) (last := nI e) (ve := fun v => if (some e : Option Nat) = none ∨ some v = some e then 1 else 0) (aim0 := aim0) (last0 := last0) E hW hN hto hsrc h (by omega) (fun v hv => ve1 (by omega) he) (fun v hv => by split <;> omega)
  rw [gv_cnt (my := mayB s row) (fun v hv => by have := hW.1.2.2.1 v hv; omega) (fun x h1 h2 => frB_mid h1 h2) (some e) 61 (mny s) src (Nat.le_refl _) hsrc (by omega)] at e1
  unfold f_X6_numberEndingWith
  rw [show (0 : Int32) = nI 0 from rfl, e1]
  exact ⟨_, _, _, rfl⟩
theorem c_first (E : Enc i m w l d t x y z s) (hW : Wd s) (hN : 5000 < N) (hto : to ≤ 60) (hsrc : src < to) (h : WT s row src to steps sos slots takes places T n) {aim0 last0 : Int32} {order : Nat → Int32} {sl0 : Int32} :
    ∃ b values' a c order' sl', f_X6_findFirst N steps sos slots takes places values (nI n) (nI to) aim0 last0 order sl0 i m w x = some (b, values', a, c, order', sl') ∧ match (flS s row src to).head? with
      | none => b = false
      | some q => b = true ∧ q.length ≤ 12 ∧ sl' = nI q.length ∧ ∀ j, j < q.length → order' j = nI (q.getD j 0) := by
  have hi1 : ∀ v, v < wide s → 1 ≤ inch s v := fun v hv => by have := hW.1.2.2.1 v hv; omega
  obtain ⟨v', e1, _, e3⟩ := w_find (N := N) (values := values) (aim := 0) (last := -1) (ve := fun v => if (none : Option Nat) = none ∨ some v = none then 1 else 0) (aim0 := aim0) (last0 := last0) E hW hN hto hsrc h (by omega) (fun v hv => ve0) (fun v hv => by rw [if_pos (Or.inl rfl)]; omega)
  rw [gv_cnt (my := mayB s row) hi1 (fun x h1 h2 => frB_mid h1 h2) none 61 (mny s) src (Nat.le_refl _) hsrc (by omega)] at e1 e3
  unfold f_X6_findFirst
  rw [show f_X6_settle N steps sos slots takes places values (nI n) (nI to) aim0 last0 i m w x 0 (-1) = _ from e1, bs]
  try dsimp only
  have hbd : cnt none (flS s row src to) < 2 ^ 31 := by
    have := gv_count (wr := wor s) (fr := frB s row src to) (to := to) (ve := fun v => if (none : Option Nat) = none ∨ some v = none then 1 else 0) (aim := 0) rfl (fun v hv => by rw [if_pos (Or.inl rfl)]; omega) hW.1.2.1 hW.1.2.2.1 61 12 (mny s) src (by omega)
    rw [gv_cnt (my := mayB s row) hi1 (fun x h1 h2 => frB_mid h1 h2) none 61 (mny s) src (Nat.le_refl _) hsrc (by omega)] at this
    have e : (4 : Nat) ^ 12 = 16777216 := by decide
    unfold flS
    omega
  by_cases hL : flS s row src to = []
  · have hc : cnt none (flS s row src to) = 0 := by rw [hL]; rfl
    have hc' : cnt none (fl (wide s) (inch s) (mayB s row) to 61 (mny s) src) = 0 := hc
    rw [hc', if_pos (show nI 0 ≤ 0 by decide), hL]
    exact ⟨_, _, _, _, _, _, rfl, rfl⟩
  · have hc := (cnt_none_pos _).mpr hL
    have hc' : 0 < cnt none (fl (wide s) (inch s) (mayB s row) to 61 (mny s) src) := hc
    rw [if_neg (show ¬ nI (cnt none (fl (wide s) (inch s) (mayB s row) to 61 (mny s) src)) ≤ 0 from nI_nle hc' hbd)]
    obtain ⟨o', f1, f2⟩ := e3 (by unfold live; rw [if_pos rfl]; exact hc') order sl0
    rw [f1, bs]
    try dsimp only
    rw [if_neg (show ¬ b2i true = 0 by decide)]
    refine ⟨_, _, _, _, _, _, rfl, ?_⟩
    have hp := path_first (wr := wor s) (my := mayB s row) (fr := frB s row src to) hi1 (fun x h1 h2 => frB_mid h1 h2) 61 (mny s) src (Nat.le_refl _) hsrc (by omega) hL
    have hp' : (flS s row src to).head? = some (fpath (wide s) (inch s) (wor s) (frB s row src to) to 0 (fun w => if (none : Option Nat) = none ∨ some w = none then 1 else 0) 61 (mny s) src) := hp
    rw [hp']
    have hmem := List.mem_of_mem_head? (show _ ∈ (flS s row src to).head? from hp')
    have := fl_len hW.1.2.2.1 61 (mny s) src _ hmem
    exact ⟨rfl, by omega, rfl, f2⟩
theorem c_cheapest (E : Enc i m w l d t x y z s) (hW : Wd s) (hN : 5000 < N) (hto : to ≤ 60) (hsrc : src < to) (h : WT s row src to steps sos slots takes places T n) {aim0 last0 : Int32} {order : Nat → Int32} {sl0 : Int32} :
    ∃ b values' a c order' sl', f_X6_findCheapest N steps sos slots takes places values (nI n) (nI to) aim0 last0 order sl0 i m w x = some (b, values', a, c, order', sl') ∧ match fnd (wor s) (mw (wor s) (flS s row src to)) (flS s row src to) with
      | none => b = false
      | some q => b = true ∧ q.length ≤ 12 ∧ sl' = nI q.length ∧ (∀ j, j < q.length → order' j = nI (q.getD j 0)) ∧ values' 0 = nI (wsum (wor s) q) := by
  have h4 := hW.1.2.1
  have hi1 : ∀ v, v < wide s → 1 ≤ inch s v := fun v hv => by have := hW.1.2.2.1 v hv; omega
  have hwr : ∀ v, v < wide s → wor s v ≤ 99 := fun v hv => hW.1.1.le (by omega)
  obtain ⟨v', e1, e2, e3⟩ := w_find (N := N) (values := values) (aim := 1) (last := -1) (ve := wor s) (aim0 := aim0) (last0 := last0) E hW hN hto hsrc h (by omega) (fun v hv => ve2 E hW.1.1 (by omega)) (fun v hv => by have := hwr v hv; omega)
  rw [gv_mw (my := mayB s row) hi1 hwr (fun x h1 h2 => frB_mid h1 h2) 61 (mny s) src (Nat.le_refl _) hsrc (by omega) (by omega)] at e1 e2 e3
  unfold f_X6_findCheapest
  rw [show f_X6_settle N steps sos slots takes places values (nI n) (nI to) aim0 last0 i m w x 1 (-1) = _ from e1, bs]
  try dsimp only
  have hle := mw_le (wor s) (flS s row src to)
  by_cases hlt : mw (wor s) (flS s row src to) < 1000000
  · rw [if_neg (show ¬ (1000000 : Int32) ≤ nI (mw (wor s) (fl (wide s) (inch s) (mayB s row) to 61 (mny s) src)) from nI_ge (b := 1000000) hlt (by omega))]
    obtain ⟨o', f1, f2⟩ := e3 (by unfold live; rw [if_neg (by omega)]; exact hlt) order sl0
    rw [f1, bs]
    try dsimp only
    rw [if_neg (show ¬ b2i true = 0 by decide)]
    refine ⟨_, _, _, _, _, _, rfl, ?_⟩
    have hp := path_best (wr := wor s) (my := mayB s row) (fr := frB s row src to) hi1 hwr (fun x h1 h2 => frB_mid h1 h2) 61 (mny s) src (Nat.le_refl _) hsrc (by omega) (by omega) hlt
    have hp' : fnd (wor s) (mw (wor s) (flS s row src to)) (flS s row src to) = some (fpath (wide s) (inch s) (wor s) (frB s row src to) to 1 (wor s) 61 (mny s) src) := hp
    rw [hp']
    have hmem := List.mem_of_find?_eq_some (show (flS s row src to).find? _ = some _ from hp')
    have hval := List.find?_some (show (flS s row src to).find? _ = some _ from hp')
    have hval := of_decide_eq_true hval
    have := fl_len hW.1.2.2.1 61 (mny s) src _ hmem
    refine ⟨rfl, by omega, rfl, f2, ?_⟩
    rw [e2, hval]
    rfl
  · have e : mw (wor s) (flS s row src to) = 1000000 := by omega
    have e' : mw (wor s) (fl (wide s) (inch s) (mayB s row) to 61 (mny s) src) = 1000000 := e
    rw [e', if_pos (show (1000000 : Int32) ≤ nI 1000000 by decide)]
    refine ⟨_, _, _, _, _, _, rfl, ?_⟩
    have hn : fnd (wor s) (mw (wor s) (flS s row src to)) (flS s row src to) = none := by
      refine List.find?_eq_none.mpr (fun q hq => ?_)
      have := (fl_ws (wr := wor s) hwr 61 _ _ q hq).1
      rw [e]
      simp
      omega
    rw [hn]
theorem told_found {q : List Nat} {v : Nat} {found order vals : Nat → Int32} {fs fw sl0 x2 : Int32} (hq : q.length ≤ 12) (ho : ∀ j, j < q.length → order j = nI (q.getD j 0)) (hsl : sl0 = nI q.length) (hF : FG (some (q, v)) found fs fw) (h0 : 0 ≤ x2) : ∃ a, f_X6_told N vals order sl0 x2 = some a ∧ f_X8_foundAt N found fs x2 = some a := by
  obtain ⟨f1, f2, f3, f4, f5⟩ := hF
  unfold f_X6_told f_X8_foundAt
  rw [if_pos h0, hsl, f2]
  by_cases hx : nI q.length ≤ x2
  · rw [if_pos hx, if_pos hx]
    exact ⟨_, rfl, rfl⟩
  · rw [if_neg hx, if_neg hx]
    obtain ⟨j, hj, rfl⟩ := nI_of (fun q => (fa_of_lt q).2.1 h0)
    have hj2 : j < q.length := Nat.lt_of_not_le fun z => hx (nI_le z hj)
    rw [if_neg (show ¬ (12 : Int32) ≤ nI j from nI_ge (b := 12) (by omega) (by omega)), ck_nI (by omega) (by omega), ck_nI (by omega) (by omega), cl_nI (by omega), ho j hj2, f5 j hj2]
    exact ⟨_, rfl, rfl⟩
end CAL
