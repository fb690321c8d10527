/-! ===== the course of a laying on both sides ===== -/
theorem dec_back {s : Nat → Int32} (h : Sm s) {a b : Nat} (ha : a < 4) (hb : b < 4) (h1 : mny s a ≠ 0) (h2 : mny (decS s a) b ≠ 0) : setM (decS (decS s a) b) a (mny (decS (decS s a) b) a + 1) = decS s b := by
  have hma := mny_le h (w := a) (by omega)
  have S1 := decS_Sm h (w := a) (by omega)
  rw [decS_mny S1 (by omega), decS_mny h (by omega)]
  rw [decS_mny h (by omega)] at h2
  unfold dec at h2 ⊢
  by_cases e : a = b
  · subst e
    rw [if_pos rfl, if_pos rfl] at *
    unfold setM decS
    rw [upd_upd]
    have : rN (upd s (3 + 3 * a + 1) (nI (mny s a - 1))) (3 + 3 * a + 1) = mny s a - 1 := rN_eq (by omega)
    rw [show mny s a - 1 - 1 + 1 = mny s a - 1 by omega, upd_upd]
  · rw [if_neg e, if_pos rfl]
    unfold setM decS
    have hmb : mny (upd s (3 + 3 * a + 1) (nI (mny s a - 1))) b = mny s b := rN_ne (by omega)
    rw [hmb, show mny s a - 1 + 1 = mny s a by omega]
    funext k
    by_cases ek : k = 3 + 3 * a + 1
    · subst ek
      rw [pk_us, pk_un (by omega)]
      exact (h.at (by omega)).symm
    · rw [pk_un ek]
      by_cases ek2 : k = 3 + 3 * b + 1
      · subst ek2
        rw [pk_us, pk_us]
      · rw [pk_un ek2, pk_un ek2, pk_un ek]
theorem dec_back1 {s : Nat → Int32} (h : Sm s) {b : Nat} (hb : b < 4) (h2 : mny s b ≠ 0) : setM (decS s b) b (mny (decS s b) b + 1) = s := by
  have hmb := mny_le h (w := b) (by omega)
  rw [decS_mny h (by omega)]
  unfold dec setM decS
  rw [if_pos rfl, upd_upd, show mny s b - 1 + 1 = mny s b by omega]
  exact upd_self (h.at (by omega))
theorem Ok.dec {s : Nat → Int32} (O : Ok s) {v : Nat} (hv : v < 4) : Ok (decS s v) := by
  have := O.m12 v hv
  rw [decS_set]
  exact O.set hv (by omega)
theorem decS_high {s : Nat → Int32} {w : Nat} : high (decS s w) = high s := rN_ne (by omega)
section CRS2
variable {N : Nat} {i m w l d t : Nat → Int32} {x y z : Int32} {s : Nat → Int32}
theorem enc_dec (E : Enc i m w l d t x y z s) {v : Nat} (hv : v < 4) : Enc i (upd m v (nI (mny s v - 1))) w l d t x y z (decS s v) := by
  rw [decS_set]
  exact E.set hv
theorem c_give (E : Enc i m w l d t x y z s) (h : Sm s) {v : Nat} (hv : v < 4) : f_X0_giveBack N m (nI v) = some (upd m v (nI (mny s v + 1))) := by
  unfold f_X0_giveBack
  rw [if_neg (show ¬ nI v = -1 from fun q => by
    have h2 : ¬ nI v < 0 := nI_pos (by omega)
    rw [q] at h2
    exact h2 (by decide)), ck_nI (by omega) (by omega), ck_nI (by omega) (by omega), cl_nI (by omega), E.mny h hv, nI_1]
theorem nI_m1 {v : Nat} (hv : v < 2 ^ 20) : ¬ nI v = -1 := fun q => by
  have h2 : ¬ nI v < 0 := nI_pos (by omega)
  rw [q] at h2
  exact h2 (by decide)
theorem fitB_dec {r P : Nat} {c : Bool} {u v : Nat} (hu : u < 4) : fitB (decS s u) r P c v = fitB s r P c v := by
  unfold fitB
  rw [decS_inch, decS_len hu, decS_mayB hu]
/-- one slate out of the heap -/
theorem r_handed (hN : 5000 < N) (E : Enc i m w l d t x y z s) (O : Ok s) {r P : Nat} (hr : r < high s) (hP : P < 100) (hpos : 0 < hpN s (wide s)) {seed one two : Int32} : ∃ o u sd m', f_X0_handed N (nI r) seed (nI (len s r)) (nI P) i m d t x z (nI 2) = some (encC o, sd, m') ∧ f_X8_ofHanded N s seed (nI r) (nI P) one two 0 = some (encM o, s, sd, nI u, -4) ∧ u < wide s ∧ mny s u ≠ 0 ∧ (∀ v, o = some v → v = u) ∧ Enc i m' w l d t x y z (decS s u) := by
  have hw4 := O.w4
  obtain ⟨u, sd, a1, a2, a3, a4⟩ := r_drawn hN E O.S hw4 hpos seed
  unfold f_X0_handed f_X8_ofHanded
  rw [a3, bs, a4, bs]
  try dsimp only
  rw [if_neg (nI_m1 (by omega)), c_fits hN E O hr hP a1 (by omega), bs, e_canLay (c := false) hN O hr hP a1 ⟨fun _ => rfl, fun _ => rfl⟩, bs, if_pos rfl, decide_eq_true a2, Bool.true_and, decide_eq_false (p := 2 = 4) (by decide)]
  cases hf : fitB s r P false u with
  | false => exact ⟨none, u, sd, _, rfl, rfl, a1, a2, (fun v hv => by cases hv), enc_dec E (by omega)⟩
  | true => exact ⟨some u, u, sd, _, rfl, rfl, a1, a2, fun v hv => by cases hv; rfl, enc_dec E (by omega)⟩
/-- two slates out of the heap, or one if there is no other -/
theorem r_two (hN : 5000 < N) (E : Enc i m w l d t x y z s) (O : Ok s) {r P : Nat} (hr : r < high s) (hP : P < 100) (hpos : 0 < hpN s (wide s)) {seed one two : Int32} : ∃ o u o2 sd m', f_X0_betterOfTwo N (nI r) seed (nI (len s r)) (nI P) i m d t x z (nI 5) = some (encC o, sd, m') ∧ f_X8_ofHanded N s seed (nI r) (nI P) one two 1 = some (encM o, s, sd, nI u, encM o2) ∧ u < wide s ∧ mny s u ≠ 0 ∧ (∀ v, o = some v → v < wide s ∧ mny s v ≠ 0 ∧ Enc i m' w l d t x y z (decS s v)) ∧ (o = none → match o2 with
      | none => Enc i m' w l d t x y z (decS s u)
      | some v => v < wide s ∧ mny (decS s u) v ≠ 0 ∧ Enc i m' w l d t x y z (decS (decS s u) v)) := by
  have hw4 := O.w4
  obtain ⟨u, sd, a1, a2, a3, a4⟩ := r_drawn hN E O.S hw4 hpos seed
  have O1 := O.dec (v := u) (by omega)
  have E1 := enc_dec E (v := u) (by omega)
  have hb := hpN_le (s := s) (fun v hv => mny_le O.S (by omega)) (wide s) hw4
  have hh1 : hpN (decS s u) (wide (decS s u)) = hpN s (wide s) - 1 := by
    rw [decS_wide, hpN_dec O.S (by omega) a2, if_pos a1]
  have hx := E.wide O.S
  have hfu := c_fits (k := 5) hN E O hr hP a1 (by omega)
  have hcu := e_canLay (c := false) (cI := 0) hN O hr hP a1 ⟨fun _ => rfl, fun _ => rfl⟩
  rw [decide_eq_false (p := 5 = 4) (by decide)] at hfu
  rw [decide_eq_true a2, Bool.true_and] at hcu
  unfold f_X0_betterOfTwo f_X8_ofHanded
  rw [a3, bs, a4, bs]
  try dsimp only
  rw [hcu, bs, if_neg (show ¬ (1 : Int32) = 0 by decide), e_heapSize (by omega) O.S hw4, bs]
  by_cases h1 : hpN s (wide s) = 1
  · -- no other
    have hz : f_X0_drawn N sd (upd m u (nI (mny s u - 1))) x = some (-1, sd, upd m u (nI (mny s u - 1))) := by
      unfold f_X0_drawn
      rw [c_slatesInHeap (by omega) E1 O1.S O1.w4, bs, hh1, h1, if_neg (show ¬ (0 : Int32) < nI (1 - 1) by decide)]
    rw [hz, bs, h1, if_pos (show nI 1 ≤ 1 by decide)]
    try dsimp only
    rw [if_neg (nI_m1 (by omega)), hfu, bs, if_pos (show (-1 : Int32) = -1 from rfl), if_pos (show (-1 : Int32) = -1 from rfl)]
    cases hf : fitB s r P false u with
    | false => exact ⟨none, u, none, sd, _, rfl, rfl, a1, a2, (fun v hv => by cases hv), fun _ => E1⟩
    | true => exact ⟨some u, u, none, sd, _, rfl, rfl, a1, a2, fun v hv => by cases hv; exact ⟨a1, a2, E1⟩, fun q => by cases q⟩
  · obtain ⟨v, se, b1, b2, b3, b4⟩ := r_drawn hN E1 O1.S O1.w4 (by rw [hh1]; omega) sd
    rw [decS_wide] at b1
    have hmv : mny s v ≠ 0 := by
      rw [decS_mny O.S (by omega)] at b2
      unfold dec at b2
      split at b2 <;> omega
    have E2 := enc_dec E1 (v := v) (by omega)
    have O2 := O1.dec (v := v) (by omega)
    have hfv := c_fits (k := 5) hN E O hr hP b1 (by omega)
    have hcv := e_canLay (c := false) (cI := 0) hN O hr hP b1 ⟨fun _ => rfl, fun _ => rfl⟩
    rw [decide_eq_false (p := 5 = 4) (by decide)] at hfv
    rw [decide_eq_true hmv, Bool.true_and] at hcv
    have gu := c_give (N := N) E2 O2.S (v := u) (by omega)
    have gv2 := c_give (N := N) E2 O2.S (v := v) (by omega)
    have Eu : Enc i (upd (upd (upd m u (nI (mny s u - 1))) v (nI (mny (decS s u) v - 1))) u (nI (mny (decS (decS s u) v) u + 1))) w l d t x y z (decS s v) := by
      have := E2.set (v := u) (n := mny (decS (decS s u) v) u + 1) (by omega)
      rw [dec_back O.S (by omega) (by omega) a2 b2] at this
      exact this
    have Ev : Enc i (upd (upd (upd m u (nI (mny s u - 1))) v (nI (mny (decS s u) v - 1))) v (nI (mny (decS (decS s u) v) v + 1))) w l d t x y z (decS s u) := by
      have := E2.set (v := v) (n := mny (decS (decS s u) v) v + 1) (by omega)
      rw [dec_back1 O1.S (by omega) b2] at this
      exact this
    rw [b3, bs, if_neg (show ¬ nI (hpN s (wide s)) ≤ 1 from nI_ge (a := 1) (by omega) (by omega)), e_leaves1 O.S (by omega) a2, bs, b4, bs]
    try dsimp only
    rw [e_leavesm O.S (by omega) a2, bs, if_neg (nI_pos (by omega)), hcv, bs, if_neg (nI_m1 (by omega)), hfu, bs, if_neg (nI_m1 (by omega)), if_neg (nI_m1 (by omega)), hfv, bs, bs, gu, gv2, bs, bs, e_inches O.S (by omega), e_inches O.S (by omega), bs, bs, ck_nI (by omega) (by omega), ck_nI (by omega) (by omega), cl_nI (by omega), cl_nI (by omega), E.inch O.S (by omega), E.inch O.S (by omega)]
    have tu : ∀ q, some u = some q → q < wide s ∧ mny s q ≠ 0 ∧ Enc i (upd (upd (upd m u (nI (mny s u - 1))) v (nI (mny (decS s u) v - 1))) v (nI (mny (decS (decS s u) v) v + 1))) w l d t x y z (decS s q) := fun q hq => by
      cases hq
      exact ⟨a1, a2, Ev⟩
    have tv : ∀ q, some v = some q → q < wide s ∧ mny s q ≠ 0 ∧ Enc i (upd (upd (upd m u (nI (mny s u - 1))) v (nI (mny (decS s u) v - 1))) u (nI (mny (decS (decS s u) v) u + 1))) w l d t x y z (decS s q) := fun q hq => by
      cases hq
      exact ⟨b1, hmv, Eu⟩
    cases hf : fitB s r P false u with
    | false =>
      rw [if_pos (show b2i false = 0 from rfl), if_pos (show b2i false = 0 from rfl)]
      cases hg : fitB s r P false v with
      | false =>
        rw [if_pos (show b2i false = 0 from rfl), if_pos (show b2i false = 0 from rfl)]
        exact ⟨none, u, some v, se, _, rfl, rfl, a1, a2, (fun q hq => by cases hq), fun _ => ⟨b1, b2, E2⟩⟩
      | true =>
        rw [if_neg (show ¬ b2i true = 0 by decide), if_neg (show ¬ b2i true = 0 by decide)]
        exact ⟨some v, u, some v, se, _, rfl, rfl, a1, a2, tv, fun q => by cases q⟩
    | true =>
      rw [if_neg (show ¬ b2i true = 0 by decide), if_neg (show ¬ b2i true = 0 by decide)]
      cases hg : fitB s r P false v with
      | false =>
        rw [if_pos (show b2i false = 0 from rfl), if_pos (show b2i false = 0 from rfl)]
        exact ⟨some u, u, some v, se, _, rfl, rfl, a1, a2, tu, fun q => by cases q⟩
      | true =>
        rw [if_neg (show ¬ b2i true = 0 by decide), if_neg (show ¬ b2i true = 0 by decide)]
        by_cases hi : inch s u < inch s v
        · have hi2 := O.i30 v b1
          rw [if_pos (nI_lt hi (by omega)), if_pos (nI_lt hi (by omega))]
          exact ⟨some v, u, some v, se, _, rfl, rfl, a1, a2, tv, fun q => by cases q⟩
        · have hi2 := O.i30 u a1
          rw [if_neg (nI_nlt (by omega) (by omega)), if_neg (nI_nlt (by omega) (by omega))]
          exact ⟨some u, u, some v, se, _, rfl, rfl, a1, a2, tu, fun q => by cases q⟩
end CRS2
