/-! ===== carrying out; roof as a call ===== -/
section CAR
variable {N : Nat} {i m w l d t : Nat → Int32} {x y z : Int32} {s : Nat → Int32}
theorem Enc.lapS (E : Enc i m w l d t x y z s) {v : Int32} : Enc i m w l d t x y v (upd s 0 v) := by
  obtain ⟨e1, e2, e3, e4, e5⟩ := E
  refine ⟨pk_us.symm, by rw [e2, pk_un (by omega)], by rw [e3, pk_un (by omega)], fun k hk => ?_, fun r hr => ?_⟩
  · rw [pk_un (by omega), pk_un (by omega), pk_un (by omega)]
    exact e4 k hk
  · rw [pk_un (by omega), pk_un (by omega)]
    refine ⟨(e5 r hr).1, (e5 r hr).2.1, fun j hj => ?_⟩
    rw [pk_un (by omega)]
    exact (e5 r hr).2.2 j hj
theorem Enc.rowS (E : Enc i m w l d t x y z s) {h : Nat} (hh : h < 6) {v u : Int32} : Enc i m w (upd l h v) (upd d h (nI 0)) t x u z (upd (upd (upd s (15 + 14 * h) v) (15 + 14 * h + 1) (nI 0)) 2 u) := by
  obtain ⟨e1, e2, e3, e4, e5⟩ := E
  refine ⟨by rw [e1, pk_un (by omega), pk_un (by omega), pk_un (by omega)], by rw [e2, pk_un (by omega), pk_un (by omega), pk_un (by omega)], pk_us.symm, fun k hk => ?_, fun r hr => ?_⟩
  · rw [pk_un (by omega), pk_un (by omega), pk_un (by omega), pk_un (by omega), pk_un (by omega), pk_un (by omega), pk_un (by omega), pk_un (by omega), pk_un (by omega)]
    exact e4 k hk
  · by_cases e : r = h
    · subst e
      refine ⟨?_, ?_, fun j hj => ?_⟩
      · rw [pk_us, pk_un (by omega), pk_un (by omega), pk_us]
      · rw [pk_us, pk_un (by omega), pk_us]
      · rw [pk_un (by omega), pk_un (by omega), pk_un (by omega)]
        exact (e5 r hr).2.2 j hj
    · refine ⟨?_, ?_, fun j hj => ?_⟩
      · rw [pk_un e, pk_un (by omega), pk_un (by omega), pk_un (by omega)]
        exact (e5 r hr).1
      · rw [pk_un e, pk_un (by omega), pk_un (by omega), pk_un (by omega)]
        exact (e5 r hr).2.1
      · rw [pk_un (by omega), pk_un (by omega), pk_un (by omega)]
        exact (e5 r hr).2.2 j hj
theorem Enc.widthS (E : Enc i m w l d t x y z s) {h : Nat} (hh : h < 4) {a b c u : Int32} : Enc (upd i h a) (upd m h b) (upd w h c) l d t u y z (upd (upd (upd (upd s (3 + 3 * h) a) (3 + 3 * h + 1) b) (3 + 3 * h + 2) c) 1 u) := by
  obtain ⟨e1, e2, e3, e4, e5⟩ := E
  refine ⟨by rw [e1, pk_un (by omega), pk_un (by omega), pk_un (by omega), pk_un (by omega)], pk_us.symm, by rw [e3, pk_un (by omega), pk_un (by omega), pk_un (by omega), pk_un (by omega)], fun k hk => ?_, fun r hr => ?_⟩
  · by_cases e : k = h
    · subst e
      refine ⟨?_, ?_, ?_⟩
      · rw [pk_us, pk_un (by omega), pk_un (by omega), pk_un (by omega), pk_us]
      · rw [pk_us, pk_un (by omega), pk_un (by omega), pk_us]
      · rw [pk_us, pk_un (by omega), pk_us]
    · refine ⟨?_, ?_, ?_⟩
      · rw [pk_un e, pk_un (by omega), pk_un (by omega), pk_un (by omega), pk_un (by omega)]
        exact (e4 k hk).1
      · rw [pk_un e, pk_un (by omega), pk_un (by omega), pk_un (by omega), pk_un (by omega)]
        exact (e4 k hk).2.1
      · rw [pk_un e, pk_un (by omega), pk_un (by omega), pk_un (by omega), pk_un (by omega)]
        exact (e4 k hk).2.2
  · refine ⟨?_, ?_, fun j hj => ?_⟩
    · rw [pk_un (by omega), pk_un (by omega), pk_un (by omega), pk_un (by omega)]
      exact (e5 r hr).1
    · rw [pk_un (by omega), pk_un (by omega), pk_un (by omega), pk_un (by omega)]
      exact (e5 r hr).2.1
    · rw [pk_un (by omega), pk_un (by omega), pk_un (by omega), pk_un (by omega)]
      exact (e5 r hr).2.2 j hj
theorem e_188 (hN : 5000 < N) (h : Sm s) (hw : wide s < 4) {nb : Nat → Int32} {a b c : Nat} (h0 : nb 0 = nI a) (h1 : nb 1 = nI b) (h2 : nb 2 = nI c) : f_X8_comes_L188 N nb N 0 s = some (true, upd (upd (upd (upd s (3 + 3 * wide s) (nI a)) (3 + 3 * wide s + 1) (nI b)) (3 + 3 * wide s + 2) (nI c)) 1 (nI (wide s + 1))) := by
  obtain ⟨f, hf⟩ : ∃ f, N = f + 4 := ⟨N - 4, by omega⟩
  have hfu : f_X8_comes_L188 N nb N 0 s = f_X8_comes_L188 N nb (f + 4) (nI 0) s := by rw [← hf]; rfl
  have g1 : gi 1 99 = true := by decide
  have s1 : s (1 : Int32).toNatClampNeg = nI (wide s) := h.at (k := 1) (by omega)
  have ix : ∀ k : Nat, (3 + 3 * nI (wide s)) + nI k = nI (3 + 3 * wide s + k) := fun k => by rw [l3, pk_mul, nI_add, nI_add]
  rw [hfu, f_X8_comes_L188, if_neg (show ¬ (3 : Int32) ≤ nI 0 by decide), g1, ck_t, s1, ix, ck_nI (by omega) (by omega), ck_nI (by omega) (by omega), cl_nI (by omega), cl_nI (by omega), h0, nI_1]
  have s2 : upd s (3 + 3 * wide s + 0) (nI a) (1 : Int32).toNatClampNeg = nI (wide s) := (pk_un (show (1 : Int32).toNatClampNeg ≠ 3 + 3 * wide s + 0 by show 1 ≠ _; omega)).trans s1
  rw [f_X8_comes_L188, if_neg (show ¬ (3 : Int32) ≤ nI (0 + 1) by decide), g1, ck_t, s2, ix, ck_nI (by omega) (by omega), ck_nI (by omega) (by omega), cl_nI (by omega), cl_nI (by omega), show nb (0 + 1) = nI b from h1, nI_1]
  have s3 : upd (upd s (3 + 3 * wide s + 0) (nI a)) (3 + 3 * wide s + (0 + 1)) (nI b) (1 : Int32).toNatClampNeg = nI (wide s) := (pk_un (show (1 : Int32).toNatClampNeg ≠ 3 + 3 * wide s + (0 + 1) by show 1 ≠ _; omega)).trans s2
  rw [f_X8_comes_L188, if_neg (show ¬ (3 : Int32) ≤ nI (0 + 1 + 1) by decide), g1, ck_t, s3, ix, ck_nI (by omega) (by omega), ck_nI (by omega) (by omega), cl_nI (by omega), cl_nI (by omega), show nb (0 + 1 + 1) = nI c from h2, nI_1]
  have s4 : upd (upd (upd s (3 + 3 * wide s + 0) (nI a)) (3 + 3 * wide s + (0 + 1)) (nI b)) (3 + 3 * wide s + (0 + 1 + 1)) (nI c) (1 : Int32).toNatClampNeg = nI (wide s) := (pk_un (show (1 : Int32).toNatClampNeg ≠ 3 + 3 * wide s + (0 + 1 + 1) by show 1 ≠ _; omega)).trans s3
  rw [f_X8_comes_L188, if_pos (show (3 : Int32) ≤ nI (0 + 1 + 1 + 1) by decide), g1, ck_t, ck_t, s4, nI_1]
  rfl
theorem r_carry_w (hN : 5000 < N) (E : Enc i m w l d t x y z s) (O : Ok s) {c : Int32} (hc : c = 119) {v0 v1 v2 : Nat} (b0 : v0 ≤ 99) (b1 : v1 ≤ 99) (b2 : v2 ≤ 99) {nb nbs : Nat → Int32} (h0 : nb 0 = nI v0) (h0' : nbs 0 = nI v0) (h12 : c = 119 → nb 1 = nI v1 ∧ nb 2 = nI v2) (h12' : c = 119 → nbs 1 = nI v1 ∧ nbs 2 = nI v2) :
    ∃ b i' m' w' l' d' x' y' z' s', f_X2_carryOut N nb c i m w l d x y z = some (b, i', m', w', l', d', x', y', z') ∧ f_X8_comes N s nbs c = some (b, s') ∧ (b = true → Enc i' m' w' l' d' t x' y' z' s' ∧ Ok s') := by
  have h6 := O.h6
  have hw4 := O.w4
  have g03 : gi 0 3 = true := by decide
  have g13 : gi 1 3 = true := by decide
  have g23 : gi 2 3 = true := by decide
  have g09 : gi 0 99 = true := by decide
  have g19 : gi 1 99 = true := by decide
  have g29 : gi 2 99 = true := by decide
  have n0 : nb (0 : Int32).toNatClampNeg = nI v0 := h0
  have n0' : nbs (0 : Int32).toNatClampNeg = nI v0 := h0'
  have s2 : s (2 : Int32).toNatClampNeg = nI (high s) := O.S.at (k := 2) (by omega)
  have s1 : s (1 : Int32).toNatClampNeg = nI (wide s) := O.S.at (k := 1) (by omega)
  have fail : ∀ s' : Nat → Int32, ∃ b i' m' w' l' d' x' y' z' s'', some (false, i, m, w, l, d, x, y, z) = some (b, i', m', w', l', d', x', y', z') ∧ some (false, s') = some (b, s'') ∧ (b = true → Enc i' m' w' l' d' t x' y' z' s'' ∧ Ok s'') := fun s' => ⟨_, _, _, _, _, _, _, _, _, _, rfl, rfl, fun q => absurd q Bool.false_ne_true⟩
  unfold f_X2_carryOut f_X8_comes
  obtain ⟨n1, n2⟩ := h12 hc
  obtain ⟨n1', n2'⟩ := h12' hc
  subst hc
  have n1 : nb (1 : Int32).toNatClampNeg = nI v1 := n1
  have n2 : nb (2 : Int32).toNatClampNeg = nI v2 := n2
  have n1' : nbs (1 : Int32).toNatClampNeg = nI v1 := n1'
  rw [if_neg (show ¬ (119 : Int32) = 114 by decide), if_pos rfl, if_neg (show ¬ (119 : Int32) = 108 by decide), if_neg (show ¬ (119 : Int32) = 114 by decide), g03, g13, g23, g19, ck_t, ck_t, ck_t, ck_t, ck_t, ck_t, n0, n1, n2, n0', n1', s1, show f_X8_isIn N (nI v0).toInt64 5 30 = some (decide (5 ≤ nI v0) && decide (nI v0 ≤ 30)) from isIn_e N (nI v0) 5 30, bs]
  unfold f_X3_addWidth
  by_cases a1 : v0 < 5
  · rw [if_pos (show nI v0 < 5 from nI_lt (b := 5) a1 (by omega)), decide_eq_false (p := (5 : Int32) ≤ nI v0) (nI_ge (b := 5) a1 (by omega)), Bool.false_and, if_pos (show b2i false = 0 from rfl), bs]
    exact fail _
  rw [if_neg (show ¬ nI v0 < 5 from nI_nlt (b := 5) (by omega) (by omega)), decide_eq_true (p := (5 : Int32) ≤ nI v0) (nI_le (a := 5) (by omega) (by omega)), Bool.true_and]
  by_cases a2 : 30 < v0
  · rw [if_pos (show (30 : Int32) < nI v0 from nI_lt (a := 30) a2 (by omega)), decide_eq_false (p := nI v0 ≤ (30 : Int32)) (nI_ge (a := 30) a2 (by omega)), if_pos (show b2i false = 0 from rfl), bs]
    exact fail _
  rw [if_neg (show ¬ (30 : Int32) < nI v0 from nI_nlt (a := 30) (by omega) (by omega)), decide_eq_true (p := nI v0 ≤ (30 : Int32)) (nI_le (b := 30) (by omega) (by omega)), if_neg (show ¬ b2i true = 0 by decide)]
  by_cases a3 : 12 < v1
  · rw [if_pos (show (12 : Int32) < nI v1 from nI_lt (a := 12) a3 (by omega)), if_pos (show (12 : Int32) < nI v1 from nI_lt (a := 12) a3 (by omega)), bs]
    exact fail _
  rw [if_neg (show ¬ (12 : Int32) < nI v1 from nI_nlt (a := 12) (by omega) (by omega)), if_neg (show ¬ (12 : Int32) < nI v1 from nI_nlt (a := 12) (by omega) (by omega)), if_pos (show nI v2 ≤ (99 : Int32) from nI_le (b := 99) b2 (by omega)), E.wide O.S]
  by_cases a4 : wide s = 4
  · rw [if_pos (show (4 : Int32) ≤ nI (wide s) by rw [a4]; decide), if_pos (show nI (wide s) = 4 by rw [a4]; rfl), bs, ← E.wide O.S]
    exact fail _
  rw [if_neg (show ¬ (4 : Int32) ≤ nI (wide s) from nI_ge (b := 4) (by omega) (by omega)), if_neg (show ¬ nI (wide s) = 4 from fun q => a4 ((nI_eq (b := 4) (by omega) (by omega)).mp q))]
  have key : ∀ (f j : Nat), j ≤ wide s → wide s < j + f → (∀ u, u < j → inch s u ≠ v0) → (f_X3_hasInches_L2 N i (nI (wide s)) (nI v0) f (nI j) = some true ∧ f_X8_comes_L154 N s nbs (nI v0) f (nI j) = some (false, s)) ∨ (f_X3_hasInches_L2 N i (nI (wide s)) (nI v0) f (nI j) = some false ∧ f_X8_comes_L154 N s nbs (nI v0) f (nI j) = f_X8_comes_L188 N nbs N 0 s ∧ ∀ u, u < wide s → inch s u ≠ v0) := by
    intro f
    induction f with
    | zero => intro j q1 q2; omega
    | succ f ih =>
      intro j q1 q2 q3
      rw [f_X3_hasInches_L2, f_X8_comes_L154, g19, ck_t, s1]
      by_cases hj : j = wide s
      · subst hj
        rw [if_pos (nI_le (Nat.le_refl _) (by omega)), if_pos (nI_le (Nat.le_refl _) (by omega))]
        exact Or.inr ⟨rfl, rfl, q3⟩
      · have hi := O.i30 j (by omega)
        rw [if_neg (nI_ge (by omega) (by omega)), if_neg (nI_ge (by omega) (by omega)), ck_nI (by omega) (by omega), cl_nI (by omega), E.inch O.S (by omega), l3, pk_mul, nI_add, ck_nI (by omega) (by omega), cl_nI (by omega), show s (3 + 3 * j) = nI (inch s j) from O.S.at (by omega), nI_1]
        by_cases he : inch s j = v0
        · rw [if_pos (by rw [he]), if_pos (by rw [he])]
          exact Or.inl ⟨rfl, rfl⟩
        · rw [if_neg (fun q => he ((nI_eq (by omega) (by omega)).mp q)), if_neg (fun q => he ((nI_eq (by omega) (by omega)).mp q))]
          exact ih (j + 1) (by omega) (by omega) (fun u hu => by
            by_cases e : u = j
            · subst e
              exact he
            · exact q3 u (by omega))
  unfold f_X3_hasInches
  rcases key N 0 (by omega) (by omega) (fun u hu => by omega) with ⟨k1, k2⟩ | ⟨k1, k2, k3⟩
  · have k1' : f_X3_hasInches_L2 N i (nI (wide s)) (nI v0) N 0 = some true := k1
    have k2' : f_X8_comes_L154 N s nbs (nI v0) N 0 = some (false, s) := k2
    rw [k1', bs, if_neg (show ¬ b2i true = 0 by decide), k2', bs, ← E.wide O.S]
    exact fail _
  · have k1' : f_X3_hasInches_L2 N i (nI (wide s)) (nI v0) N 0 = some false := k1
    have k2' : f_X8_comes_L154 N s nbs (nI v0) N 0 = _ := k2
    rw [k1', bs, if_pos (show b2i false = 0 from rfl), k2', e_188 hN O.S (by omega) h0' n1' n2', ck_nI (by omega) (by omega), ck_nI (by omega) (by omega), ck_nI (by omega) (by omega), cl_nI (by omega), bs, nI_1]
    exact ⟨_, _, _, _, _, _, _, _, _, _, rfl, rfl, fun _ => ⟨E.widthS (by omega), O.addWidth (by omega) (by omega) (by omega) b2 (by omega) k3⟩⟩
theorem r_carry_r (hN : 5000 < N) (E : Enc i m w l d t x y z s) (O : Ok s) {c : Int32} (hc : c = 114) {v0 v1 v2 : Nat} (b0 : v0 ≤ 99) (b1 : v1 ≤ 99) (b2 : v2 ≤ 99) {nb nbs : Nat → Int32} (h0 : nb 0 = nI v0) (h0' : nbs 0 = nI v0) (h12 : c = 119 → nb 1 = nI v1 ∧ nb 2 = nI v2) (h12' : c = 119 → nbs 1 = nI v1 ∧ nbs 2 = nI v2) :
    ∃ b i' m' w' l' d' x' y' z' s', f_X2_carryOut N nb c i m w l d x y z = some (b, i', m', w', l', d', x', y', z') ∧ f_X8_comes N s nbs c = some (b, s') ∧ (b = true → Enc i' m' w' l' d' t x' y' z' s' ∧ Ok s') := by
  have h6 := O.h6
  have hw4 := O.w4
  have g03 : gi 0 3 = true := by decide
  have g13 : gi 1 3 = true := by decide
  have g23 : gi 2 3 = true := by decide
  have g09 : gi 0 99 = true := by decide
  have g19 : gi 1 99 = true := by decide
  have g29 : gi 2 99 = true := by decide
  have n0 : nb (0 : Int32).toNatClampNeg = nI v0 := h0
  have n0' : nbs (0 : Int32).toNatClampNeg = nI v0 := h0'
  have s2 : s (2 : Int32).toNatClampNeg = nI (high s) := O.S.at (k := 2) (by omega)
  have s1 : s (1 : Int32).toNatClampNeg = nI (wide s) := O.S.at (k := 1) (by omega)
  have fail : ∀ s' : Nat → Int32, ∃ b i' m' w' l' d' x' y' z' s'', some (false, i, m, w, l, d, x, y, z) = some (b, i', m', w', l', d', x', y', z') ∧ some (false, s') = some (b, s'') ∧ (b = true → Enc i' m' w' l' d' t x' y' z' s'' ∧ Ok s'') := fun s' => ⟨_, _, _, _, _, _, _, _, _, _, rfl, rfl, fun q => absurd q Bool.false_ne_true⟩
  unfold f_X2_carryOut f_X8_comes
  subst hc
  rw [if_pos rfl, if_neg (show ¬ (114 : Int32) = 108 by decide), if_pos rfl, g03, ck_t, ck_t, n0, n0', show f_X8_isIn N (nI v0).toInt64 10 60 = some (decide (10 ≤ nI v0) && decide (nI v0 ≤ 60)) from isIn_e N (nI v0) 10 60, bs]
  unfold f_X3_addRow
  by_cases a1 : v0 < 10
  · rw [if_pos (show nI v0 < 10 from nI_lt (b := 10) a1 (by omega)), decide_eq_false (p := (10 : Int32) ≤ nI v0) (nI_ge (b := 10) a1 (by omega)), Bool.false_and, if_pos (show b2i false = 0 from rfl), bs]
    exact fail _
  rw [if_neg (show ¬ nI v0 < 10 from nI_nlt (b := 10) (by omega) (by omega)), decide_eq_true (p := (10 : Int32) ≤ nI v0) (nI_le (a := 10) (by omega) (by omega)), Bool.true_and]
  by_cases a2 : 60 < v0
  · rw [if_pos (show (60 : Int32) < nI v0 from nI_lt (a := 60) a2 (by omega)), decide_eq_false (p := nI v0 ≤ (60 : Int32)) (nI_ge (a := 60) a2 (by omega)), if_pos (show b2i false = 0 from rfl), bs]
    exact fail _
  rw [if_neg (show ¬ (60 : Int32) < nI v0 from nI_nlt (a := 60) (by omega) (by omega)), decide_eq_true (p := nI v0 ≤ (60 : Int32)) (nI_le (b := 60) (by omega) (by omega)), if_neg (show ¬ b2i true = 0 by decide), E.high O.S]
  rw [g29, ck_t, s2]
  by_cases a3 : high s = 6
  · rw [if_neg (show ¬ nI (high s) < 6 by rw [a3]; decide), if_pos (show nI (high s) = 6 by rw [a3]; rfl), bs, ← E.high O.S]
    exact fail _
  · have e1 : (15 : Int32) + 14 * nI (high s) = nI (15 + 14 * high s) := by rw [l15, l14, pk_mul, nI_add]
    have u2 : upd s (15 + 14 * high s) (nI v0) (2 : Int32).toNatClampNeg = nI (high s) := (pk_un (show (2 : Int32).toNatClampNeg ≠ 15 + 14 * high s by show 2 ≠ _; omega)).trans s2
    have u3 : upd (upd s (15 + 14 * high s) (nI v0)) (15 + 14 * high s + 1) 0 (2 : Int32).toNatClampNeg = nI (high s) := (pk_un (show (2 : Int32).toNatClampNeg ≠ 15 + 14 * high s + 1 by show 2 ≠ _; omega)).trans u2
    rw [if_pos (show nI (high s) < 6 from nI_lt (b := 6) (by omega) (by omega)), if_neg (show ¬ nI (high s) = 6 from fun q => a3 ((nI_eq (b := 6) (by omega) (by omega)).mp q)), ck_nI (by omega) (by omega), ck_nI (by omega) (by omega), bs, ck_t, e1, cl_nI (show 15 + 14 * high s < 2 ^ 31 by omega), ck_nI (by omega) (by omega), ck_t, u2, e1, nI_1, nI_1, cl_nI (show 15 + 14 * high s + 1 < 2 ^ 31 by omega), ck_nI (by omega) (by omega), ck_t, ck_t, u3, nI_1, cl_nI (show high s < 2 ^ 31 by omega)]
    have hE := E.rowS (h := high s) (v := nI v0) (u := nI (high s + 1)) (by omega)
    have hO := O.addRow (v := v0) (by omega) (by omega) (by omega)
    exact ⟨_, _, _, _, _, _, _, _, _, _, rfl, rfl, fun _ => ⟨hE, hO⟩⟩
theorem r_carry_l (hN : 5000 < N) (E : Enc i m w l d t x y z s) (O : Ok s) {c : Int32} (hc : c = 108) {v0 v1 v2 : Nat} (b0 : v0 ≤ 99) (b1 : v1 ≤ 99) (b2 : v2 ≤ 99) {nb nbs : Nat → Int32} (h0 : nb 0 = nI v0) (h0' : nbs 0 = nI v0) (h12 : c = 119 → nb 1 = nI v1 ∧ nb 2 = nI v2) (h12' : c = 119 → nbs 1 = nI v1 ∧ nbs 2 = nI v2) :
    ∃ b i' m' w' l' d' x' y' z' s', f_X2_carryOut N nb c i m w l d x y z = some (b, i', m', w', l', d', x', y', z') ∧ f_X8_comes N s nbs c = some (b, s') ∧ (b = true → Enc i' m' w' l' d' t x' y' z' s' ∧ Ok s') := by
  have h6 := O.h6
  have hw4 := O.w4
  have g03 : gi 0 3 = true := by decide
  have g13 : gi 1 3 = true := by decide
  have g23 : gi 2 3 = true := by decide
  have g09 : gi 0 99 = true := by decide
  have g19 : gi 1 99 = true := by decide
  have g29 : gi 2 99 = true := by decide
  have n0 : nb (0 : Int32).toNatClampNeg = nI v0 := h0
  have n0' : nbs (0 : Int32).toNatClampNeg = nI v0 := h0'
  have s2 : s (2 : Int32).toNatClampNeg = nI (high s) := O.S.at (k := 2) (by omega)
  have s1 : s (1 : Int32).toNatClampNeg = nI (wide s) := O.S.at (k := 1) (by omega)
  have fail : ∀ s' : Nat → Int32, ∃ b i' m' w' l' d' x' y' z' s'', some (false, i, m, w, l, d, x, y, z) = some (b, i', m', w', l', d', x', y', z') ∧ some (false, s') = some (b, s'') ∧ (b = true → Enc i' m' w' l' d' t x' y' z' s'' ∧ Ok s'') := fun s' => ⟨_, _, _, _, _, _, _, _, _, _, rfl, rfl, fun q => absurd q Bool.false_ne_true⟩
  unfold f_X2_carryOut f_X8_comes
  subst hc
  rw [if_neg (show ¬ (108 : Int32) = 114 by decide), if_neg (show ¬ (108 : Int32) = 119 by decide), if_pos rfl, g03, g09, ck_t, ck_t, ck_t, n0, n0']
  unfold f_X3_changeLap
  by_cases a1 : v0 ≤ 20
  · rw [if_pos (show nI v0 ≤ (20 : Int32) from nI_le (b := 20) a1 (by omega)), if_neg (show ¬ (20 : Int32) < nI v0 from nI_nlt (a := 20) (by omega) (by omega)), bs]
    exact ⟨_, _, _, _, _, _, _, _, _, _, rfl, rfl, fun _ => ⟨E.lapS, O.lap (by omega)⟩⟩
  · rw [if_neg (show ¬ nI v0 ≤ (20 : Int32) from nI_ge (a := 20) (by omega) (by omega)), if_pos (show (20 : Int32) < nI v0 from nI_lt (a := 20) (by omega) (by omega)), bs]
    exact fail _
theorem r_carry (hN : 5000 < N) (E : Enc i m w l d t x y z s) (O : Ok s) {c : Int32} (hc : c = 119 ∨ c = 114 ∨ c = 108) {v0 v1 v2 : Nat} (b0 : v0 ≤ 99) (b1 : v1 ≤ 99) (b2 : v2 ≤ 99) {nb nbs : Nat → Int32} (h0 : nb 0 = nI v0) (h0' : nbs 0 = nI v0) (h12 : c = 119 → nb 1 = nI v1 ∧ nb 2 = nI v2) (h12' : c = 119 → nbs 1 = nI v1 ∧ nbs 2 = nI v2) :
    ∃ b i' m' w' l' d' x' y' z' s', f_X2_carryOut N nb c i m w l d x y z = some (b, i', m', w', l', d', x', y', z') ∧ f_X8_comes N s nbs c = some (b, s') ∧ (b = true → Enc i' m' w' l' d' t x' y' z' s' ∧ Ok s') := by
  rcases hc with hc | hc | hc
  · exact r_carry_w hN E O hc b0 b1 b2 h0 h0' h12 h12'
  · exact r_carry_r hN E O hc b0 b1 b2 h0 h0' h12 h12'
  · exact r_carry_l hN E O hc b0 b1 b2 h0 h0' h12 h12'
end CAR
theorem neg2000 {x : Nat} (h : x < 2 ^ 20) : (-2000 - nI x : Int32) < 0 := by
  have : (-2000 - nI x : Int32).toInt = -2000 - (x : Int) := by
    rw [Int32.toInt_sub, nI_toInt (by omega), show (-2000 : Int32).toInt = -2000 from rfl]
    exact Int.bmod_eq_of_le (by omega) (by omega)
  rw [fa_lt, this, show (0 : Int32).toInt = 0 from rfl]
  omega
theorem neg1000 {x : Nat} (h : x < 2 ^ 20) : (-1000 - nI x : Int32) < 0 := by
  have : (-1000 - nI x : Int32).toInt = -1000 - (x : Int) := by
    rw [Int32.toInt_sub, nI_toInt (by omega), show (-1000 : Int32).toInt = -1000 from rfl]
    exact Int.bmod_eq_of_le (by omega) (by omega)
  rw [fa_lt, this, show (0 : Int32).toInt = 0 from rfl]
  omega
theorem ite_skip {α : Type} {a b c : Prop} [Decidable a] [Decidable b] [Decidable c] {X Y Z : α} (h : ¬ a → ¬ b ∧ ¬ c) : (if a then X else (if b then Y else (if c then Z else X))) = X := by
  by_cases ha : a
  · rw [if_pos ha]
  · rw [if_neg ha, if_neg (h ha).1, if_neg (h ha).2]
def posP (tx : Nat → Int32) (n : Nat) : Nat → Nat
  | 0 => 0
  | j + 1 => (PS tx n (posP tx n j)).2.1
theorem PS_pos {tx : Nat → Int32} {n p : Nat} : (PS tx n p).2.1 ≤ p + 10 := by
  unfold PS
  by_cases c1 : chr tx n p = 119
  · rw [if_pos c1]
    cases h1 : pnum tx n (p + 1) with
    | none => show p + 1 ≤ _; omega
    | some a =>
      obtain ⟨_, a2, a3⟩ := pnum_le h1
      dsimp only
      by_cases c2 : chr tx n a.2 = 32
      · rw [if_pos c2]
        cases h2 : pnum tx n (a.2 + 1) with
        | none => show a.2 + 1 ≤ _; omega
        | some b =>
          obtain ⟨_, b2, b3⟩ := pnum_le h2
          dsimp only
          by_cases c3 : chr tx n b.2 = 32
          · rw [if_pos c3]
            cases h3 : pnum tx n (b.2 + 1) with
            | none => show b.2 + 1 ≤ _; omega
            | some c =>
              obtain ⟨_, d2, d3⟩ := pnum_le h3
              dsimp only
              split
              · show c.2 + 1 ≤ _; omega
              · show c.2 ≤ _; omega
          · rw [if_neg c3]
            show b.2 ≤ _; omega
      · rw [if_neg c2]
        show a.2 ≤ _; omega
  · rw [if_neg c1]
    split
    · cases h1 : pnum tx n (p + 1) with
      | none => show p + 1 ≤ _; omega
      | some a =>
        obtain ⟨_, a2, a3⟩ := pnum_le h1
        dsimp only
        split
        · show a.2 + 1 ≤ _; omega
        · show a.2 ≤ _; omega
    · show p ≤ _; omega
section ROO
variable {N : Nat} {tx el : Nat → Int32} {n dd : Nat} {s rd kp so sz : Nat → Int32}
theorem e_pass1 (hN : 5000 < N) (hn : n ≤ 100) (hd : dd < 8) (hel : ∀ k, k < 100 → el (100 * dd + k) = tx k) : ∀ (f j : Nat) (num told : Int32) (nb : Nat → Int32), posP tx n j ≤ n → n < posP tx n j + f → (j = 0 ∨ posP tx n j < n) →
    ∃ K, j ≤ K ∧ (∀ i, j ≤ i → i < K → (PS tx n (posP tx n i)).1 = true) ∧ (∀ i, j < i → i < K → posP tx n i < n) ∧
      (((PS tx n (posP tx n K)).1 = false ∧ (K = 0 ∨ posP tx n K < n) ∧ ∃ rest, f_X8_roof_L38 N s rd kp so sz el (nI (100 * dd)) (nI n) f (nI j) (nI (posP tx n j)) num told nb = some (-1000 - nI (posP tx n (K + 1)), s, rest)) ∨
       (j < K ∧ n ≤ posP tx n K ∧ ∃ num' told' nb', f_X8_roof_L38 N s rd kp so sz el (nI (100 * dd)) (nI n) f (nI j) (nI (posP tx n j)) num told nb = f_X8_roof_L71 N s kp so sz el (nI (posP tx n K)) (nI (100 * dd)) (nI n) num' told' nb' (nI K) N 0 rd)) := by
  intro f
  induction f with
  | zero => intro j num told nb h1 h2; omega
  | succ f ih =>
    intro j num told nb h1 h2 h3
    obtain ⟨num', told', nb', e1, e2⟩ := e_stmt (N := N) (tx := tx) hN hn hd hel (p := posP tx n j) (by omega) (nb := nb) (num := num) (told := told)
    rw [f_X8_roof_L38, e1, bs]
    dsimp only
    cases hb : (PS tx n (posP tx n j)).1 with
    | false =>
      rw [if_pos (show b2i false = 0 from rfl)]
      exact ⟨j, Nat.le_refl _, fun i q1 q2 => by omega, fun i q1 q2 => by omega, Or.inl ⟨hb, h3, _, rfl⟩⟩
    | true =>
      obtain ⟨p1, p2, _⟩ := PS_le hb
      rw [if_neg (show ¬ b2i true = 0 by decide), nI_1]
      have hpj : (PS tx n (posP tx n j)).2.1 = posP tx n (j + 1) := rfl
      rw [hpj] at p1 p2 ⊢
      by_cases hlt : posP tx n (j + 1) < n
      · rw [if_pos (nI_lt hlt (by omega))]
        obtain ⟨K, k1, k2, k3, k4⟩ := ih (j + 1) num' told' nb' (by omega) (by omega) (Or.inr hlt)
        refine ⟨K, by omega, fun i q1 q2 => ?_, fun i q1 q2 => ?_, ?_⟩
        · by_cases e : i = j
          · subst e
            exact hb
          · exact k2 i (by omega) q2
        · by_cases e : i = j + 1
          · subst e
            exact hlt
          · exact k3 i (by omega) q2
        · rcases k4 with k4 | ⟨k4, k5⟩
          · exact Or.inl k4
          · exact Or.inr ⟨by omega, k5⟩
      · rw [if_neg (nI_nlt (by omega) (by omega))]
        refine ⟨j + 1, by omega, fun i q1 q2 => ?_, fun i q1 q2 => by omega, Or.inr ⟨by omega, by omega, num', told', nb', rfl⟩⟩
        rw [show i = j by omega]
        exact hb
variable {i m w l d t : Nat → Int32} {x y z : Int32}
/-- the class: a statement fails at last -/
theorem c_fail (hN : 5000 < N) (hn : n ≤ 100) {K : Nat} (hK : (PS tx n (posP tx n K)).1 = false) (hlast : K = 0 ∨ posP tx n K < n) (hjK : ∀ i, i < K → (PS tx n (posP tx n i)).1 = true) (hlt : ∀ i, 0 < i → i < K → posP tx n i < n) : ∀ (f j : Nat) (v2 : Int32) (nb : Nat → Int32) (lt : Int32) (i m w l d : Nat → Int32) (x y z : Int32), j ≤ K → K < j + f → j ≤ posP tx n j → posP tx n j ≤ n → ((v2 = -1 ∧ ∃ s, Enc i m w l d t x y z s ∧ Ok s) ∨ ¬ v2 = -1) → ∃ rest, f_X2_read_L4 N tx (nI n) f (nI j) v2 nb lt (nI (posP tx n j)) i m w l d x y z = some (-1000 - nI (posP tx n (K + 1)), rest) := by
  intro f
  induction f with
  | zero => intro j v2 nb lt i m w l d x y z h1 h2; omega
  | succ f ih =>
    intro j v2 nb lt i m w l d x y z h1 h2 h3 h4 hst
    obtain ⟨nb', e1, e2⟩ := c_stmt (N := N) (tx := tx) hN hn (p := posP tx n j) (by omega) (nb := nb) (lt := lt)
    have hjn : ¬ nI j = 0 → posP tx n j < n := fun q => by
      by_cases e : j = K
      · subst e
        rcases hlast with g | g
        · exact absurd (by rw [g]; rfl) q
        · exact g
      · refine hlt j (Nat.pos_of_ne_zero fun z => q (by rw [z]; rfl)) (by omega)
    rw [f_X2_read_L4, ite_skip (fun q => ⟨nI_ge (hjn q) (by omega), show ¬ (100 : Int32) ≤ nI j from nI_ge (b := 100) (by have := hjn q; omega) (by omega)⟩), e1, bs]
    dsimp only
    by_cases e : j = K
    · subst e
      rw [hK, if_pos (show b2i false = 0 from rfl)]
      exact ⟨_, rfl⟩
    · have hb := hjK j (by omega)
      obtain ⟨p1, p2, p3, p4, p5, p6⟩ := PS_le hb
      have hpj : (PS tx n (posP tx n j)).2.1 = posP tx n (j + 1) := rfl
      obtain ⟨q1, q2⟩ := e2 hb
      rw [hb, if_neg (show ¬ b2i true = 0 by decide), nI_1]
      rw [hpj] at p1 p2 ⊢
      rcases hst with ⟨g1, s, E, O⟩ | g1
      · rw [if_pos g1]
        obtain ⟨b, i', m', w', l', d', x', y', z', s', c1, _, c3⟩ := r_carry (N := N) hN E O p3 p4 p5 p6 q1 q1 q2 q2
        rw [c1, bs]
        dsimp only
        cases b with
        | false =>
          rw [if_pos (show b2i false = 0 from rfl)]
          exact ih (j + 1) _ _ _ _ _ _ _ _ _ _ _ (by omega) (by omega) (by omega) (by omega) (Or.inr (nI_m1 (by omega)))
        | true =>
          rw [if_neg (show ¬ b2i true = 0 by decide)]
          exact ih (j + 1) _ _ _ _ _ _ _ _ _ _ _ (by omega) (by omega) (by omega) (by omega) (Or.inl ⟨g1, s', c3 rfl⟩)
      · rw [if_neg g1]
        exact ih (j + 1) _ _ _ _ _ _ _ _ _ _ _ (by omega) (by omega) (by omega) (by omega) (Or.inr g1)
/-- the class: a statement could not be carried out, all are well written -/
theorem c_fault (hN : 5000 < N) (hn : n ≤ 100) {K q : Nat} (hq : q < 1000) (hK : n ≤ posP tx n K) (hjK : ∀ i, i < K → (PS tx n (posP tx n i)).1 = true) (hlt : ∀ i, 0 < i → i < K → posP tx n i < n) : ∀ (f j : Nat) (nb : Nat → Int32) (lt : Int32) (i m w l d : Nat → Int32) (x y z : Int32), 0 < j → j ≤ K → K < j + f → j ≤ posP tx n j → posP tx n j ≤ n → ∃ rest, f_X2_read_L4 N tx (nI n) f (nI j) (nI q) nb lt (nI (posP tx n j)) i m w l d x y z = some (-2000 - nI q, rest) := by
  intro f
  induction f with
  | zero => intro j nb lt i m w l d x y z h0 h1 h2; omega
  | succ f ih =>
    intro j nb lt i m w l d x y z h0 h1 h2 h3 h4
    by_cases e : j = K
    · subst e
      rw [f_X2_read_L4, if_neg (nI_ne0 (by omega) (by omega)), if_pos (nI_le hK (by omega)), if_neg (nI_m1 (by omega))]
      exact ⟨_, rfl⟩
    · obtain ⟨nb', e1, e2⟩ := c_stmt (N := N) (tx := tx) hN hn (p := posP tx n j) (by omega) (nb := nb) (lt := lt)
      have hjn := hlt j h0 (by omega)
      have hb := hjK j (by omega)
      obtain ⟨p1, p2, p3, p4, p5, p6⟩ := PS_le hb
      have hpj : (PS tx n (posP tx n j)).2.1 = posP tx n (j + 1) := rfl
      rw [f_X2_read_L4, ite_skip (fun q => ⟨nI_ge hjn (by omega), show ¬ (100 : Int32) ≤ nI j from nI_ge (b := 100) (by omega) (by omega)⟩), e1, bs]
      dsimp only
      rw [hb, if_neg (show ¬ b2i true = 0 by decide), nI_1, if_neg (nI_m1 (by omega))]
      rw [hpj] at p1 p2 ⊢
      exact ih (j + 1) _ _ _ _ _ _ _ _ _ _ (by omega) (by omega) (by omega) (by omega) (by omega)
/-- the class and the reference's second pass -/
theorem r_pass2 (hN : 5000 < N) (hn : n ≤ 100) (hd : dd < 8) (hel : ∀ k, k < 100 → el (100 * dd + k) = tx k) {K : Nat} (hK0 : 0 < K) (hK : n ≤ posP tx n K) (hjK : ∀ i, i < K → (PS tx n (posP tx n i)).1 = true) (hlt : ∀ i, 0 < i → i < K → posP tx n i < n) (hn0 : 0 < n) : ∀ (f g j : Nat) (nb : Nat → Int32) (lt : Int32) (i m w l d : Nat → Int32) (x y z : Int32) (sj : Nat → Int32) (num told : Int32) (nbs : Nat → Int32), j ≤ K → K < j + f → K < j + g → j ≤ posP tx n j → posP tx n j ≤ n → Enc i m w l d t x y z sj → Ok sj →
    ∃ a D1 D2 D3 i' m' w' l' d' x' y' z', f_X2_read_L4 N tx (nI n) f (nI j) (-1) nb lt (nI (posP tx n j)) i m w l d x y z = some (a, D1, D2, D3, i', m', w', l', d', x', y', z') ∧ ((a < 0 ∧ ∃ rest, f_X8_roof_L103 N s kp so sz el (nI (100 * dd)) (nI n) (nI K) g sj (nI (posP tx n j)) num told nbs = some (a, s, rest)) ∨ (a = nI K ∧ ∃ sk pos' num' told' nbs', f_X8_roof_L103 N s kp so sz el (nI (100 * dd)) (nI n) (nI K) g sj (nI (posP tx n j)) num told nbs = f_X8_roof_L154 N sk kp so sz el pos' (nI (100 * dd)) (nI n) num' told' nbs' (nI K) N 0 s ∧ Enc i' m' w' l' d' t x' y' z' sk ∧ Ok sk)) := by
  intro f
  induction f with
  | zero => intro g j nb lt i m w l d x y z sj num told nbs h1 h2; omega
  | succ f ih =>
    intro g j nb lt i m w l d x y z sj num told nbs h1 h2 h3 h4 h5 E O
    obtain ⟨g, rfl⟩ : ∃ q, g = q + 1 := ⟨g - 1, by omega⟩
    have hKn : posP tx n K ≤ n := by
      have := hjK (K - 1) (by omega)
      obtain ⟨_, p2, _⟩ := PS_le this
      have e : posP tx n K = (PS tx n (posP tx n (K - 1))).2.1 := by
        have : K = (K - 1) + 1 := by omega
        rw [this]
        rfl
      omega
    by_cases e : j = K
    · subst e
      rw [f_X2_read_L4, if_neg (nI_ne0 (by omega) (by omega)), if_pos (nI_le hK (by omega)), if_pos rfl, f_X8_roof_L103, if_pos (nI_le hK (by omega))]
      exact ⟨_, _, _, _, _, _, _, _, _, _, _, _, rfl, Or.inr ⟨rfl, _, _, _, _, _, rfl, E, O⟩⟩
    · obtain ⟨nb', e1, e2⟩ := c_stmt (N := N) (tx := tx) hN hn (p := posP tx n j) (by omega) (nb := nb) (lt := lt)
      obtain ⟨num', told', nbs', f1, f2⟩ := e_stmt (N := N) (tx := tx) hN hn hd hel (p := posP tx n j) (by omega) (nb := nbs) (num := num) (told := told)
      have hjn : posP tx n j < n := by
        by_cases z0 : j = 0
        · subst z0
          exact hn0
        · exact hlt j (by omega) (by omega)
      have hb := hjK j (by omega)
      obtain ⟨p1, p2, p3, p4, p5, p6⟩ := PS_le hb
      have hpj : (PS tx n (posP tx n j)).2.1 = posP tx n (j + 1) := rfl
      obtain ⟨q1, q2⟩ := e2 hb
      obtain ⟨r1, r2⟩ := f2 hb
      have hch : (if posP tx n j < n then tx (posP tx n j) else -1000) = chr tx n (posP tx n j) := by
        unfold chr
        rw [if_pos hjn, if_pos hjn]
      rw [f_X2_read_L4, ite_skip (fun q => ⟨nI_ge hjn (by omega), show ¬ (100 : Int32) ≤ nI j from nI_ge (b := 100) (by omega) (by omega)⟩), e1, bs, f_X8_roof_L103, if_neg (nI_ge hjn (by omega)), e_here hn hd hel (by omega), bs, f1, bs, hch]
      dsimp only
      rw [hb, if_neg (show ¬ b2i true = 0 by decide), nI_1, if_pos rfl]
      rw [hpj] at p1 p2 ⊢
      obtain ⟨b, i', m', w', l', d', x', y', z', s', c1, c2, c3⟩ := r_carry (N := N) hN E O p3 p4 p5 p6 q1 r1 q2 r2
      rw [c1, bs, c2, bs]
      dsimp only
      cases b with
      | false =>
        rw [if_pos (show b2i false = 0 from rfl), if_pos (show b2i false = 0 from rfl)]
        obtain ⟨rest, k1⟩ := c_fault (N := N) hN hn (q := posP tx n j) (by omega) hK hjK hlt f (j + 1) nb' (chr tx n (posP tx n j)) i' m' w' l' d' x' y' z' (by omega) (by omega) (by omega) (by omega) (by omega)
        obtain ⟨D1, D2, D3, i2, m2, w2, l2, d2, x2, y2, z2⟩ := rest
        refine ⟨_, _, _, _, _, _, _, _, _, _, _, _, k1, Or.inl ⟨?_, _, rfl⟩⟩
        exact neg2000 (by omega)
      | true =>
        obtain ⟨E2, O2⟩ := c3 rfl
        rw [if_neg (show ¬ b2i true = 0 by decide), if_neg (show ¬ b2i true = 0 by decide)]
        exact ih g (j + 1) nb' _ i' m' w' l' d' x' y' z' s' num' told' nbs' (by omega) (by omega) (by omega) (by omega) (by omega) E2 O2
variable {i0 m0 w0 l0 d0 t0 nums nbs : Nat → Int32} {x0 y0 z0 hold sort size pos base end' num told : Int32} {Sh : Nat → Option Nat}
theorem r_roof (hN : 5000 < N) (E : Enc i m w l d t x y z s) (O : Ok s) {x1 : Int32} (hT : ∀ dd, dd < 8 → x1 = nI dd → ShN nums hold sort size kp so sz el dd) : ∃ a i' m' w' l' d' t' x' y' z' rest s' rest2, f_X7_roof N Sh i m w l d t x y z i0 m0 w0 l0 d0 t0 x0 y0 z0 nums hold sort size x1 = some (a, i', m', w', l', d', t', x', y', z', rest) ∧ f_X8_roof N s rd kp so sz el pos base end' num told nbs x1 = some (a, s', rest2) ∧ Enc i' m' w' l' d' t' x' y' z' s' ∧ Ok s' := by
  have keep : ∀ (a : Int32) (R : (Nat → Int32) × (Nat → Int32) × (Nat → Int32) × (Nat → Int32) × (Nat → Int32) × (Nat → Int32) × Int32 × Int32 × Int32) (R2 : (Nat → Int32) × Int32 × Int32 × Int32 × Int32 × Int32 × (Nat → Int32)), ∃ a' i' m' w' l' d' t' x' y' z' rest s' rest2, some (a, i, m, w, l, d, t, x, y, z, R) = some (a', i', m', w', l', d', t', x', y', z', rest) ∧ some (a, s, R2) = some (a', s', rest2) ∧ Enc i' m' w' l' d' t' x' y' z' s' ∧ Ok s' := fun a R R2 => ⟨_, _, _, _, _, _, _, _, _, _, _, _, _, rfl, rfl, E, O⟩
  unfold f_X7_roof f_X8_roof f_X8_wrongRow
  rw [c_isShelf, bs, e_isShelf, bs]
  cases hb : inB x1 8 with
  | false =>
    rw [if_pos (show b2i false = 0 from rfl), if_pos (show b2i false = 0 from rfl), bs, if_neg (show ¬ (-1 : Int32) = 0 by decide)]
    exact keep _ _ _
  | true =>
    obtain ⟨dd, hd, rfl⟩ := inB_t (by omega) hb
    have T := hT dd hd rfl
    rw [if_neg (show ¬ b2i true = 0 by decide), if_neg (show ¬ b2i true = 0 by decide)]
    simp only [giT (show dd < 8 by omega) (show 8 < 2 ^ 31 by omega), ck_t, cl_nI (show dd < 2 ^ 31 by omega), T.1]
    by_cases b0 : hold = 0
    · rw [if_pos b0, if_pos b0, bs, if_neg (show ¬ (-11 : Int32) = 0 by decide)]
      exact keep _ _ _
    rw [if_neg b0, if_neg b0]
    by_cases b2 : ¬ hold = 2
    · rw [if_neg b2, if_neg b2, bs, if_neg (show ¬ (-12 : Int32) = 0 by decide)]
      exact keep _ _ _
    have b2 := Classical.not_not.mp b2
    rw [if_pos b2, if_pos b2, if_neg (show ¬ (0 : Int32) < 0 by decide)]
    obtain ⟨T1, T2, ⟨n, n1, n2, n3⟩, T4⟩ := T.2.2 b2
    rw [T1]
    by_cases b3 : ¬ sort = 0
    · rw [if_neg b3, if_neg b3, bs, if_neg (show ¬ (-12 : Int32) = 0 by decide)]
      exact keep _ _ _
    have b3 := Classical.not_not.mp b3
    rw [if_pos b3, if_pos b3, bs, if_pos rfl, n3, n2, show (100 : Int32) = nI 100 from rfl, pk_mul]
    obtain ⟨i', m', w', l', d', t', e5, E2⟩ := c_takeOver (N := N) E (i0 := i0) (m0 := m0) (w0 := w0) (l0 := l0) (d0 := d0) (t0 := t0) (x0 := x0) (y0 := y0) (z0 := z0)
    unfold f_X2_init f_X2_read
    rw [e5, bs, bs]
    dsimp only
    obtain ⟨K, k1, k2, k3, k4⟩ := e_pass1 (N := N) (tx := nums) (el := el) (n := n) (dd := dd) (s := s) (rd := rd) (kp := kp) (so := so) (sz := sz) hN n1 hd T4 N 0 num told nbs (Nat.zero_le _) (by show n < 0 + N; omega) (Or.inl rfl)
    have hjK : ∀ i, i < K → (PS nums n (posP nums n i)).1 = true := fun i hi => k2 i (Nat.zero_le _) hi
    rcases k4 with ⟨k5, k6, rest, k7⟩ | ⟨k5, k6, num', told', nb', k7⟩
    · have k7' : f_X8_roof_L38 N s rd kp so sz el (nI (100 * dd)) (nI n) N 0 0 num told nbs = some (-1000 - nI (posP nums n (K + 1)), s, rest) := k7
      have hKle : K < 5000 := by
        rcases k6 with g | g
        · omega
        · have hall : ∀ j, j ≤ K → j ≤ posP nums n j := by
            intro j
            induction j with
            | zero => intro _; exact Nat.zero_le _
            | succ j ihj =>
              intro hj
              have h1 := ihj (by omega)
              obtain ⟨p1, _⟩ := PS_le (hjK j (by omega))
              show j + 1 ≤ (PS nums n (posP nums n j)).2.1
              omega
          have := hall K (Nat.le_refl _)
          omega
      have hKn : posP nums n K ≤ n := by
        rcases k6 with g | g
        · subst g
          exact Nat.zero_le _
        · omega
      obtain ⟨r2, c1⟩ := c_fail (N := N) (tx := nums) (n := n) (t := t') hN n1 k5 k6 hjK (fun i q1 q2 => k3 i q1 q2) N 0 (-1) (fun _ => 0) 0 i' m' w' l' d' x y z (Nat.zero_le _) (by omega) (Nat.zero_le _) (Nat.zero_le _) (Or.inl ⟨rfl, s, E2, O⟩)
      have c1' : f_X2_read_L4 N nums (nI n) N 0 (-1) (fun _ => 0) 0 0 i' m' w' l' d' x y z = _ := c1
      have hneg : (-1000 - nI (posP nums n (K + 1)) : Int32) < 0 := by
        have hpb := PS_pos (tx := nums) (n := n) (p := posP nums n K)
        have hpe : posP nums n (K + 1) = (PS nums n (posP nums n K)).2.1 := rfl
        exact neg1000 (by omega)
      rw [k7', c1', bs]
      dsimp only
      rw [if_pos hneg]
      exact keep _ _ _
    · have k7' : f_X8_roof_L38 N s rd kp so sz el (nI (100 * dd)) (nI n) N 0 0 num told nbs = _ := k7
      have hn0 : 0 < n := by
        have := hjK 0 (by omega)
        obtain ⟨p1, p2, _⟩ := PS_le this
        omega
      have hKle : K ≤ 200 := by
        have hall : ∀ j, j ≤ K → j ≤ posP nums n j ∧ posP nums n j ≤ n := by
          intro j
          induction j with
          | zero => intro _; exact ⟨Nat.zero_le _, Nat.zero_le _⟩
          | succ j ihj =>
            intro hj
            have h1 := ihj (by omega)
            obtain ⟨p1, p2, _⟩ := PS_le (hjK j (by omega))
            show j + 1 ≤ (PS nums n (posP nums n j)).2.1 ∧ (PS nums n (posP nums n j)).2.1 ≤ n
            omega
        have := hall K (Nat.le_refl _)
        omega
      rw [k7']
      -- what is read begins as what stands
      have key71 : ∀ (f j : Nat) (rj : Nat → Int32), j ≤ 99 → 99 < j + f → (∀ k, k < j → rj k = s k) → ∃ r', f_X8_roof_L71 N s kp so sz el (nI (posP nums n K)) (nI (100 * dd)) (nI n) num' told' nb' (nI K) f (nI j) rj = f_X8_roof_L103 N s kp so sz el (nI (100 * dd)) (nI n) (nI K) N r' 0 num' told' nb' ∧ ∀ k, k < 99 → r' k = s k := by
        intro f
        induction f with
        | zero => intro j rj h1 h2; omega
        | succ f ih =>
          intro j rj h1 h2 h3
          rw [f_X8_roof_L71]
          by_cases hj : j = 99
          · subst hj
            rw [if_pos (show (99 : Int32) ≤ nI 99 by decide)]
            exact ⟨_, rfl, h3⟩
          · rw [if_neg (show ¬ (99 : Int32) ≤ nI j from nI_ge (b := 99) (by omega) (by omega)), ck_nI (by omega) (by omega), ck_nI (by omega) (by omega), cl_nI (by omega), nI_1]
            exact ih (j + 1) _ (by omega) (by omega) (upd_le h3)
      obtain ⟨r', a1, a2⟩ := key71 N 0 rd (by omega) (by omega) (fun k hk => by omega)
      have a1' : f_X8_roof_L71 N s kp so sz el (nI (posP nums n K)) (nI (100 * dd)) (nI n) num' told' nb' (nI K) N 0 rd = _ := a1
      rw [a1']
      obtain ⟨a, D1, D2, D3, i2, m2, w2, l2, d2, x2, y2, z2, c1, c2⟩ := r_pass2 (N := N) (tx := nums) (el := el) (n := n) (dd := dd) (s := s) (kp := kp) (so := so) (sz := sz) (t := t') hN n1 hd T4 k5 k6 hjK (fun i q1 q2 => k3 i q1 q2) hn0 N N 0 (fun _ => 0) 0 i' m' w' l' d' x y z r' num' told' nb' (Nat.zero_le _) (by omega) (by omega) (Nat.zero_le _) (Nat.zero_le _) (E2.cong a2) (O.cong a2)
      have c1' : f_X2_read_L4 N nums (nI n) N 0 (-1) (fun _ => 0) 0 0 i' m' w' l' d' x y z = _ := c1
      rw [c1', bs]
      dsimp only
      rcases c2 with ⟨c3, rest, c4⟩ | ⟨c3, sk, pos', num2, told2, nbs2, c4, E3, O3⟩
      · have c4' : f_X8_roof_L103 N s kp so sz el (nI (100 * dd)) (nI n) (nI K) N r' 0 num' told' nb' = _ := c4
        rw [c4', if_pos c3]
        exact keep _ _ _
      · have c4' : f_X8_roof_L103 N s kp so sz el (nI (100 * dd)) (nI n) (nI K) N r' 0 num' told' nb' = _ := c4
        have key154 : ∀ (f j : Nat) (rj : Nat → Int32), j ≤ 99 → 99 < j + f → (∀ k, k < j → rj k = sk k) → ∃ s', f_X8_roof_L154 N sk kp so sz el pos' (nI (100 * dd)) (nI n) num2 told2 nbs2 (nI K) f (nI j) rj = some (nI K, s', sk, pos', nI (100 * dd), nI n, num2, told2, nbs2) ∧ ∀ k, k < 99 → s' k = sk k := by
          intro f
          induction f with
          | zero => intro j rj h1 h2; omega
          | succ f ih =>
            intro j rj h1 h2 h3
            rw [f_X8_roof_L154]
            by_cases hj : j = 99
            · subst hj
              rw [if_pos (show (99 : Int32) ≤ nI 99 by decide)]
              exact ⟨_, rfl, h3⟩
            · rw [if_neg (show ¬ (99 : Int32) ≤ nI j from nI_ge (b := 99) (by omega) (by omega)), ck_nI (by omega) (by omega), ck_nI (by omega) (by omega), cl_nI (by omega), nI_1]
              exact ih (j + 1) _ (by omega) (by omega) (upd_le h3)
        obtain ⟨s', b1, b4⟩ := key154 N 0 s (by omega) (by omega) (fun k hk => by omega)
        have b1' : f_X8_roof_L154 N sk kp so sz el pos' (nI (100 * dd)) (nI n) num2 told2 nbs2 (nI K) N 0 s = _ := b1
        obtain ⟨i3, m3, w3, l3, d3, t3, e6, E4⟩ := c_takeOver (N := N) E3 (i0 := i) (m0 := m) (w0 := w) (l0 := l) (d0 := d) (t0 := t) (x0 := x) (y0 := y) (z0 := z)
        rw [c4', b1', c3, if_neg (nI_pos (by omega)), e6, bs]
        exact ⟨_, _, _, _, _, _, _, _, _, _, _, _, _, rfl, rfl, E4.cong b4, O3.cong b4⟩
end ROO
