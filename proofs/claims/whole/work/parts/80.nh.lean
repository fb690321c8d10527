/-! ===== image, restore; shelves: row, put, keep, toil, copy ===== -/
section IMG
variable {N : Nat} {i m w l d t : Nat → Int32} {x y z : Int32} {s : Nat → Int32} {i0 m0 w0 l0 d0 t0 : Nat → Int32} {x0 y0 z0 : Int32} {img : Nat → Int32} {ik hi : Int32}
theorem upd_le {f g : Nat → Int32} {j : Nat} (h : ∀ k, k < j → f k = g k) : ∀ k, k < j + 1 → upd f j (g j) k = g k := by
  intro k hk
  by_cases e : k = j
  · subst e
    rw [pk_us]
  · rw [pk_un e]
    exact h k (by omega)
theorem r_image (hN : 5000 < N) (E : Enc i m w l d t x y z s) (O : Ok s) : ∃ a i' m' w' l' d' t' x' y' z' im', f_X7_image N ik i m w l d t x y z i0 m0 w0 l0 d0 t0 x0 y0 z0 = some (a, 1, i', m', w', l', d', t', x', y', z') ∧ f_X8_image N s img hi = some (a, im', 1) ∧ Enc i' m' w' l' d' t' x' y' z' im' ∧ Ok im' := by
  obtain ⟨i', m', w', l', d', t', e5, E2⟩ := c_takeOver (N := N) E (i0 := i0) (m0 := m0) (w0 := w0) (l0 := l0) (d0 := d0) (t0 := t0) (x0 := x0) (y0 := y0) (z0 := z0)
  have key : ∀ (f j : Nat) (sj : Nat → Int32), j ≤ 99 → 99 < j + f → (∀ k, k < j → sj k = s k) → ∃ im', f_X8_image_L2 N s hi f (nI j) sj = some (y, im', 1) ∧ ∀ k, k < 99 → im' k = s k := by
    intro f
    induction f with
    | zero => intro j sj h1 h2; omega
    | succ f ih =>
      intro j sj h1 h2 h3
      rw [f_X8_image_L2]
      by_cases hj : j = 99
      · subst hj
        rw [if_pos (show (99 : Int32) ≤ nI 99 by decide), (ck2 O.S).1, (ck2 O.S (α := Nat) (k := none)).2, ← E.high O.S]
        exact ⟨_, rfl, h3⟩
      · rw [if_neg (show ¬ (99 : Int32) ≤ nI j from nI_ge (b := 99) (by omega) (by omega)), ck_nI (by omega) (by omega), ck_nI (by omega) (by omega), cl_nI (by omega), nI_1]
        exact ih (j + 1) _ (by omega) (by omega) (upd_le h3)
  obtain ⟨im', k1, k2⟩ := key N 0 img (by omega) (by omega) (fun k hk => by omega)
  refine ⟨y, i', m', w', l', d', t', x, y, z, im', ?_, k1, E2.cong k2, O.cong k2⟩
  unfold f_X7_image
  rw [e5, bs]
theorem r_restore (hN : 5000 < N) (E : Enc i m w l d t x y z s) (O : Ok s) (hk : (ik = 0 ∧ hi = 0) ∨ (ik = 1 ∧ hi = 1 ∧ Enc i0 m0 w0 l0 d0 t0 x0 y0 z0 img ∧ Ok img)) : ∃ a i' m' w' l' d' t' x' y' z' s', f_X7_restore N ik i m w l d t x y z i0 m0 w0 l0 d0 t0 x0 y0 z0 = some (a, i', m', w', l', d', t', x', y', z') ∧ f_X8_restore N s img hi = some (a, s') ∧ Enc i' m' w' l' d' t' x' y' z' s' ∧ Ok s' := by
  unfold f_X7_restore f_X8_restore
  rcases hk with ⟨k1, k2⟩ | ⟨k1, k2, E0, O0⟩
  · rw [if_pos k1, if_pos k2]
    exact ⟨_, _, _, _, _, _, _, _, _, _, _, rfl, rfl, E, O⟩
  · rw [if_neg (by rw [k1]; decide), if_neg (by rw [k2]; decide)]
    obtain ⟨i', m', w', l', d', t', e5, E2⟩ := c_takeOver (N := N) E0 (i0 := i) (m0 := m) (w0 := w) (l0 := l) (d0 := d) (t0 := t) (x0 := x) (y0 := y) (z0 := z)
    have key : ∀ (f j : Nat) (sj : Nat → Int32), j ≤ 99 → 99 < j + f → (∀ k, k < j → sj k = img k) → ∃ s', f_X8_restore_L12 N img hi f (nI j) sj = some (y0, s') ∧ ∀ k, k < 99 → s' k = img k := by
      intro f
      induction f with
      | zero => intro j sj h1 h2; omega
      | succ f ih =>
        intro j sj h1 h2 h3
        rw [f_X8_restore_L12]
        by_cases hj : j = 99
        · subst hj
          rw [if_pos (show (99 : Int32) ≤ nI 99 by decide), show gi 2 99 = true by decide, ck_t, show sj (2 : Int32).toNatClampNeg = img 2 from h3 2 (by omega), ← E0.2.2.1]
          exact ⟨_, rfl, h3⟩
        · rw [if_neg (show ¬ (99 : Int32) ≤ nI j from nI_ge (b := 99) (by omega) (by omega)), ck_nI (by omega) (by omega), ck_nI (by omega) (by omega), cl_nI (by omega), nI_1]
          exact ih (j + 1) _ (by omega) (by omega) (upd_le h3)
    obtain ⟨s', k3, k4⟩ := key N 0 s (by omega) (by omega) (fun k hk => by omega)
    have k3' : f_X8_restore_L12 N img hi N 0 s = some (y0, s') := k3
    rw [e5, bs, k3']
    exact ⟨_, _, _, _, _, _, _, _, _, _, _, rfl, rfl, E2.cong k4, O0.cong k4⟩
end IMG
/-- all other shelves are as they were -/
def SFr (x1 : Int32) (kp so sz el kp' so' sz' el' : Nat → Int32) : Prop := ∀ e, e < 8 → x1 ≠ nI e → kp' e = kp e ∧ so' e = so e ∧ sz' e = sz e ∧ ∀ k, k < 100 → el' (100 * e + k) = el (100 * e + k)
theorem SFr.rf {x1 : Int32} {kp so sz el : Nat → Int32} : SFr x1 kp so sz el kp so sz el := fun e _ _ => ⟨rfl, rfl, rfl, fun _ _ => rfl⟩
section SHF
variable {N : Nat} {nums kp so sz el kk kf : Nat → Int32} {hold sort size : Int32} {Sh : Nat → Option Nat} {lay : Option Nat}
theorem nI8 {dd e : Nat} (h1 : dd < 8) (h2 : e < 8) (h : nI dd ≠ nI e) : e ≠ dd := fun z => h (by rw [z])
theorem r_row (hN : 5000 < N) {x1 x2 x3 : Int32} (hT : ∀ dd, dd < 8 → x1 = nI dd → ShN nums hold sort size kp so sz el dd) : ∃ a nums' hold' lay' sort' size' kp' so' sz' el', f_X7_row N Sh nums hold lay sort size x1 x2 x3 = some (a, nums', hold', lay', sort', size') ∧ f_X8_row N kp so sz el x1 x2 x3 = some (a, kp', so', sz', el') ∧ (∀ dd, dd < 8 → x1 = nI dd → ShN nums' hold' sort' size' kp' so' sz' el' dd) ∧ ((hold' = hold ∧ lay' = lay) ∨ (hold' = 2 ∧ lay' = none)) ∧ SFr x1 kp so sz el kp' so' sz' el' := by
  unfold f_X7_row f_X8_row
  rw [c_isShelf, bs, e_isShelf, bs]
  cases hb : inB x1 8 with
  | false =>
    rw [if_pos (show b2i false = 0 from rfl), if_pos (show b2i false = 0 from rfl)]
    exact ⟨_, _, _, _, _, _, _, _, _, _, rfl, rfl, hT, Or.inl ⟨rfl, rfl⟩, SFr.rf⟩
  | true =>
    obtain ⟨dd, hd, rfl⟩ := inB_t (by omega) hb
    rw [if_neg (show ¬ b2i true = 0 by decide), if_neg (show ¬ b2i true = 0 by decide), show (2 : Int64) = (nI 2).toInt64 from rfl, isInC (by omega), bs]
    cases hc : inB x2 (2 + 1) with
    | false =>
      rw [if_pos (show b2i false = 0 from rfl)]
      by_cases h1 : x2 < 0
      · rw [if_pos h1]
        exact ⟨_, _, _, _, _, _, _, _, _, _, rfl, rfl, hT, Or.inl ⟨rfl, rfl⟩, SFr.rf⟩
      · rw [if_neg h1]
        have h2 : 2 < x2 := fa_of_nle fun h2 => by
          obtain ⟨j, hj, rfl⟩ := nI_of2 (M := 2) (n := 2) rfl h1 h2
          rw [inB_i (by omega) (by omega)] at hc
          cases hc
        rw [if_pos h2]
        exact ⟨_, _, _, _, _, _, _, _, _, _, rfl, rfl, hT, Or.inl ⟨rfl, rfl⟩, SFr.rf⟩
    | true =>
      obtain ⟨v, hv, rfl⟩ := inB_t (by omega) hc
      rw [if_neg (show ¬ b2i true = 0 by decide), if_neg (nI_pos (by omega)), if_neg (show ¬ (2 : Int32) < nI v from nI_nlt (a := 2) (by omega) (by omega))]
      by_cases h3 : x3 ≤ 100
      · rw [if_pos h3, if_pos h3]
        by_cases h4 : 0 ≤ x3
        · rw [if_pos h4, if_pos h4, ck_nI (by omega) (by omega), ck_nI (by omega) (by omega), ck_nI (by omega) (by omega), ck_nI (by omega) (by omega), cl_nI (by omega)]
          obtain ⟨n, hn, rfl⟩ := nI_of2 (M := 100) (n := 100) rfl (fun q => (fa_of_lt q).2.1 h4) h3
          have key1 : ∀ (f j : Nat) (nj : Nat → Int32), j ≤ 100 → 100 < j + f → (∀ k, k < j → nj k = 0) → ∃ n', f_X4_holdNumbers_L22 N 2 none (nI v) (nI n) f (nI j) nj = some (n', 2, none, nI v, nI n) ∧ ∀ k, k < 100 → n' k = 0 := by
            intro f
            induction f with
            | zero => intro j nj h1 h2; omega
            | succ f ih =>
              intro j nj h1 h2 h3
              rw [f_X4_holdNumbers_L22]
              by_cases hj : j = 100
              · subst hj
                rw [if_pos (show (100 : Int32) ≤ nI 100 by decide)]
                exact ⟨_, rfl, h3⟩
              · rw [if_neg (show ¬ (100 : Int32) ≤ nI j from nI_ge (b := 100) (by omega) (by omega)), ck_nI (by omega) (by omega), cl_nI (by omega), nI_1]
                exact ih (j + 1) _ (by omega) (by omega) (fun k hk => by
                  by_cases e : k = j
                  · subst e
                    rw [pk_us]
                  · rw [pk_un e]
                    exact h3 k (by omega))
          have key2 : ∀ (kp' so' sz' : Nat → Int32) (f j : Nat) (ej : Nat → Int32), j ≤ 100 → 100 < j + f → (∀ k, k < j → ej (100 * dd + k) = 0) → (∀ k, (k < 100 * dd ∨ 100 * dd + 100 ≤ k) → ej k = el k) → ∃ e', f_X8_row_L58 N kp' so' sz' (nI dd) f (nI j) ej = some (0, kp', so', sz', e') ∧ (∀ k, k < 100 → e' (100 * dd + k) = 0) ∧ (∀ k, (k < 100 * dd ∨ 100 * dd + 100 ≤ k) → e' k = el k) := by
            intro kp' so' sz' f
            induction f with
            | zero => intro j nj h1 h2; omega
            | succ f ih =>
              intro j nj h1 h2 h3 h4
              rw [f_X8_row_L58]
              by_cases hj : j = 100
              · subst hj
                rw [if_pos (show (100 : Int32) ≤ nI 100 by decide)]
                exact ⟨_, rfl, h3, h4⟩
              · rw [if_neg (show ¬ (100 : Int32) ≤ nI j from nI_ge (b := 100) (by omega) (by omega)), show (100 : Int32) = nI 100 from rfl, pk_mul, nI_add, ck_nI (by omega) (by omega), cl_nI (by omega), nI_1]
                exact ih (j + 1) _ (by omega) (by omega) (fun k hk => by
                  by_cases e : k = j
                  · subst e
                    rw [pk_us]
                  · rw [pk_un (by omega)]
                    exact h3 k (by omega)) (fun k hk => by
                  rw [pk_un (by omega)]
                  exact h4 k hk)
          obtain ⟨n', a1, a2⟩ := key1 N 0 nums (by omega) (by omega) (fun k hk => by omega)
          obtain ⟨e', b1, b2, b3⟩ := key2 (upd kp dd 2) (upd so dd (nI v)) (upd sz dd (nI n)) N 0 el (by omega) (by omega) (fun k hk => by omega) (fun k _ => rfl)
          unfold f_X4_holdNumbers
          have a1' : f_X4_holdNumbers_L22 N 2 none (nI v) (nI n) N 0 nums = _ := a1
          have b1' : f_X8_row_L58 N (upd kp dd 2) (upd so dd (nI v)) (upd sz dd (nI n)) (nI dd) N 0 el = _ := b1
          rw [a1', bs, b1']
          refine ⟨_, _, _, _, _, _, _, _, _, _, rfl, rfl, fun d2 hd2 he => ?_, Or.inr ⟨rfl, rfl⟩, fun e he hne => ?_⟩
          · have : d2 = dd := ((nI_eq (by omega) (by omega)).mp he).symm
            subst this
            refine ⟨pk_us, Or.inr (Or.inr rfl), fun _ => ⟨pk_us, ?_, ⟨n, by omega, rfl, pk_us⟩, fun k hk => (b2 k hk).trans (a2 k hk).symm⟩⟩
            rcases (show v = 0 ∨ v = 1 ∨ v = 2 by omega) with q | q | q <;> subst q
            · exact Or.inl rfl
            · exact Or.inr (Or.inl rfl)
            · exact Or.inr (Or.inr rfl)
          · have hed := nI8 hd he hne
            refine ⟨pk_un hed, pk_un hed, pk_un hed, fun k hk => b3 _ (by omega)⟩
        · rw [if_neg h4, if_neg h4]
          exact ⟨_, _, _, _, _, _, _, _, _, _, rfl, rfl, hT, Or.inl ⟨rfl, rfl⟩, SFr.rf⟩
      · rw [if_neg h3, if_neg h3]
        exact ⟨_, _, _, _, _, _, _, _, _, _, rfl, rfl, hT, Or.inl ⟨rfl, rfl⟩, SFr.rf⟩
theorem r_put {x1 x2 x3 : Int32} (hT : ∀ dd, dd < 8 → x1 = nI dd → ShN nums hold sort size kp so sz el dd) : ∃ a nums' el', f_X7_put N Sh nums hold sort size x1 x2 x3 = some (a, nums') ∧ f_X8_put N kp so sz el x1 x2 x3 = some (a, el') ∧ (∀ dd, dd < 8 → x1 = nI dd → ShN nums' hold sort size kp so sz el' dd) ∧ SFr x1 kp so sz el kp so sz el' := by
  unfold f_X7_put f_X8_put
  rw [c_isShelf, bs]
  cases hb : inB x1 8 with
  | false =>
    rw [if_pos (show b2i false = 0 from rfl)]
    unfold f_X8_wrongRow
    rw [e_isShelf, bs, hb, if_pos (show b2i false = 0 from rfl), bs, if_neg (show ¬ (-1 : Int32) = 0 by decide)]
    exact ⟨_, _, _, rfl, rfl, hT, SFr.rf⟩
  | true =>
    obtain ⟨dd, hd, rfl⟩ := inB_t (by omega) hb
    have T := hT dd hd rfl
    obtain ⟨a, q1, q2, q3⟩ := rN_hold (N := N) (Sh := Sh) hd T
    rw [if_neg (show ¬ b2i true = 0 by decide), q1, bs, q2, bs]
    by_cases ha : a = 0
    · have hh := q3 ha
      obtain ⟨T1, T2, ⟨n, n1, n2, n3⟩, T4⟩ := T.2.2 hh
      subst n2
      rw [if_pos ha, if_pos ha]
      simp only [giT (show dd < 8 by omega) (show 8 < 2 ^ 31 by omega), ck_t, cl_nI (show dd < 2 ^ 31 by omega), T1, n3]
      rw [isIn0 (by omega), bs]
      unfold f_X4_hasPlace
      cases hc : inB x2 n with
      | false =>
        rw [if_pos (show b2i false = 0 from rfl)]
        have e1 : (if x2 < 0 then some false else if nI n ≤ x2 then some false else some true) = some false := by
          by_cases h1 : x2 < 0
          · rw [if_pos h1]
          · rw [if_neg h1]
            have h2 : nI n ≤ x2 := fa_of_nlt fun h2 => by
              unfold inB at hc
              rw [decide_eq_true h1, decide_eq_true h2] at hc
              cases hc
            rw [if_pos h2]
        rw [e1, bs, if_pos (show b2i false = 0 from rfl)]
        exact ⟨_, _, _, rfl, rfl, hT, SFr.rf⟩
      | true =>
        obtain ⟨j, hj, rfl⟩ := inB_t (by omega) hc
        rw [if_neg (nI_pos (by omega)), if_neg (nI_ge hj (by omega)), bs, if_neg (show ¬ b2i true = 0 by decide), if_neg (show ¬ b2i true = 0 by decide)]
        have e100 : (100 : Int32) * nI dd + nI j = nI (100 * dd + j) := by rw [show (100 : Int32) = nI 100 from rfl, pk_mul, nI_add]
        simp only [e100, giT (show j < 100 by omega) (show 100 < 2 ^ 31 by omega), giT (show 100 * dd + j < 800 by omega) (show 800 < 2 ^ 31 by omega), ck_t, cl_nI (show j < 2 ^ 31 by omega), cl_nI (show 100 * dd + j < 2 ^ 31 by omega)]
        unfold f_X4_narrowed
        have fin : ∀ v : Int32, ∃ a nums' el', some ((0 : Int32), upd nums j v) = some (a, nums') ∧ some ((0 : Int32), upd el (100 * dd + j) v) = some (a, el') ∧ (∀ d2, d2 < 8 → nI dd = nI d2 → ShN nums' hold sort (nI n) kp so sz el' d2) ∧ SFr (nI dd) kp so sz el kp so sz el' := fun v => by
          refine ⟨_, _, _, rfl, rfl, fun d2 hd2 he => ?_, fun e he hne => ?_⟩
          · have : d2 = dd := ((nI_eq (by omega) (by omega)).mp he).symm
            subst this
            refine ⟨T.1, T.2.1, fun _ => ⟨T1, T2, ⟨n, n1, rfl, n3⟩, fun k hk => ?_⟩⟩
            by_cases e : k = j
            · subst e
              rw [pk_us, pk_us]
            · rw [pk_un e, pk_un (by omega)]
              exact T4 k hk
          · have hed := nI8 hd he hne
            exact ⟨rfl, rfl, rfl, fun k hk => pk_un (by omega)⟩
        by_cases s0 : sort = 0
        · rw [if_pos s0, if_pos s0, bs]
          exact fin _
        · rw [if_neg s0, if_neg s0]
          by_cases s1 : sort = 1
          · rw [if_pos s1, if_pos s1, bs]
            exact fin _
          · rw [if_neg s1, if_neg s1, bs]
            exact fin _
    · rw [if_neg ha, if_neg ha]
      exact ⟨_, _, _, rfl, rfl, hT, SFr.rf⟩
theorem r_keep {x1 x2 x3 x4 : Int32} : ∃ a hold' size' kp' kk' kf', f_X7_keep N Sh hold size x1 x2 x3 x4 = some (a, hold', size') ∧ f_X8_keep N kp kk kf x1 x2 x3 x4 = some (a, kp', kk', kf') ∧
    ((a = -1 ∧ hold' = hold ∧ size' = size ∧ kp' = kp ∧ kk' = kk ∧ kf' = kf) ∨ (a = 0 ∧ x2 = 0 ∧ hold' = 0 ∧ size' = 0 ∧ ∃ dd, dd < 8 ∧ x1 = nI dd ∧ kp' = upd kp dd 0 ∧ kk' = upd kk dd x3 ∧ kf' = upd kf dd x4) ∨ (a = 0 ∧ ¬ x2 = 0 ∧ hold' = 1 ∧ size' = 0 ∧ ∃ dd, dd < 8 ∧ x1 = nI dd ∧ kp' = upd kp dd 1 ∧ kk' = upd kk dd x3 ∧ kf' = upd kf dd x4 ∧ ∃ k f, k ≤ 6 ∧ f ≤ 9 ∧ x3 = nI k ∧ x4 = nI f)) := by
  have no : ∀ {b : Int32} {n : Nat}, n < 2 ^ 20 → ¬ b < 0 → inB b (n + 1) = false → ¬ b ≤ nI n := fun {b n} hn h1 hc h2 => by
    rcases pk_ix b (n := n + 1) (by omega) with q | q | ⟨v, q1, q2⟩
    · exact h1 q
    · have z1 : (nI n).toInt = (n : Int) := nI_toInt (by omega)
      have z2 : (nI (n + 1)).toInt = ((n + 1 : Nat) : Int) := nI_toInt (by omega)
      rw [fa_le, z1] at h2
      rw [fa_le, z2] at q
      omega
    · rw [q2, inB_i (by omega) q1] at hc
      cases hc
  unfold f_X7_keep f_X8_keep
  rw [c_isShelf, bs, e_isShelf, bs]
  cases hb : inB x1 8 with
  | false =>
    rw [if_pos (show b2i false = 0 from rfl), if_pos (show b2i false = 0 from rfl)]
    exact ⟨_, _, _, _, _, _, rfl, rfl, Or.inl ⟨rfl, rfl, rfl, rfl, rfl, rfl⟩⟩
  | true =>
    obtain ⟨dd, hd, rfl⟩ := inB_t (by omega) hb
    rw [if_neg (show ¬ b2i true = 0 by decide), if_neg (show ¬ b2i true = 0 by decide), show (1 : Int64) = (nI 1).toInt64 from rfl, isInC (by omega), bs, show (6 : Int64) = (nI 6).toInt64 from rfl, isInC (by omega), show (9 : Int64) = (nI 9).toInt64 from rfl, isInC (by omega)]
    simp only [giT (show dd < 8 by omega) (show 8 < 2 ^ 31 by omega), ck_t, cl_nI (show dd < 2 ^ 31 by omega), bs]
    cases hc : inB x2 (1 + 1) with
    | false =>
      rw [if_pos (show b2i false = 0 from rfl)]
      by_cases h1 : x2 < 0
      · rw [if_pos h1]
        exact ⟨_, _, _, _, _, _, rfl, rfl, Or.inl ⟨rfl, rfl, rfl, rfl, rfl, rfl⟩⟩
      · rw [if_neg h1, if_neg (show ¬ x2 ≤ 1 from no (n := 1) (by omega) h1 hc)]
        exact ⟨_, _, _, _, _, _, rfl, rfl, Or.inl ⟨rfl, rfl, rfl, rfl, rfl, rfl⟩⟩
    | true =>
      obtain ⟨v, hv, rfl⟩ := inB_t (by omega) hc
      rw [if_neg (show ¬ b2i true = 0 by decide), if_neg (nI_pos (by omega)), if_pos (show nI v ≤ 1 from nI_le (b := 1) (by omega) (by omega))]
      rcases (show v = 0 ∨ v = 1 by omega) with e | e <;> subst e
      · rw [if_pos (show nI 0 = 0 from rfl), if_neg (show ¬ nI 0 = 1 by decide)]
        exact ⟨_, _, _, _, _, _, rfl, rfl, Or.inr (Or.inl ⟨rfl, rfl, rfl, rfl, dd, hd, rfl, rfl, rfl, rfl⟩)⟩
      · rw [if_neg (show ¬ nI 1 = 0 by decide), if_pos (show nI 1 = 1 from rfl)]
        cases hk : inB x3 (6 + 1) with
        | false =>
          rw [if_pos (show b2i false = 0 from rfl)]
          by_cases h1 : x3 < 0
          · rw [if_pos h1]
            exact ⟨_, _, _, _, _, _, rfl, rfl, Or.inl ⟨rfl, rfl, rfl, rfl, rfl, rfl⟩⟩
          · rw [if_neg h1, if_pos (show 6 < x3 from fa_of_nle (no (n := 6) (by omega) h1 hk))]
            exact ⟨_, _, _, _, _, _, rfl, rfl, Or.inl ⟨rfl, rfl, rfl, rfl, rfl, rfl⟩⟩
        | true =>
          obtain ⟨k, hk2, rfl⟩ := inB_t (by omega) hk
          rw [if_neg (show ¬ b2i true = 0 by decide), if_neg (nI_pos (by omega)), if_neg (show ¬ (6 : Int32) < nI k from nI_nlt (a := 6) (by omega) (by omega))]
          cases hf : inB x4 (9 + 1) with
          | false =>
            rw [if_pos (show b2i false = 0 from rfl)]
            by_cases h1 : x4 < 0
            · rw [if_pos h1]
              exact ⟨_, _, _, _, _, _, rfl, rfl, Or.inl ⟨rfl, rfl, rfl, rfl, rfl, rfl⟩⟩
            · rw [if_neg h1, if_neg (show ¬ x4 ≤ 9 from no (n := 9) (by omega) h1 hf)]
              exact ⟨_, _, _, _, _, _, rfl, rfl, Or.inl ⟨rfl, rfl, rfl, rfl, rfl, rfl⟩⟩
          | true =>
            obtain ⟨f, hf2, rfl⟩ := inB_t (by omega) hf
            rw [if_neg (show ¬ b2i true = 0 by decide), if_neg (nI_pos (by omega)), if_pos (show nI f ≤ 9 from nI_le (b := 9) (by omega) (by omega))]
            exact ⟨_, _, _, _, _, _, rfl, rfl, Or.inr (Or.inr ⟨rfl, by decide, rfl, rfl, dd, hd, rfl, rfl, rfl, rfl, k, f, by omega, by omega, rfl, rfl⟩)⟩
/-- what wrongLaying answers, on both sides -/
theorem r_wrongL {x1 : Int32} {dd : Nat} (hd : dd < 8) (hx : x1 = nI dd) (hk : kp dd = hold) (hh : hold = 0 ∨ hold = 1 ∨ hold = 2) : (hold = 1 → f_X7_refusalOfLaying_L N Sh hold x1 = some 0 ∧ f_X8_wrongLaying N kp x1 = some 0) ∧ (¬ hold = 1 → ∃ a, ¬ a = 0 ∧ f_X7_refusalOfLaying_N N Sh hold x1 = some a ∧ f_X8_wrongLaying N kp x1 = some a) := by
  subst hx
  unfold f_X7_refusalOfLaying_L f_X7_refusalOfLaying_N f_X8_wrongLaying
  rw [e_isShelf, bs, inB_i (by omega) hd, if_neg (show ¬ b2i true = 0 by decide)]
  simp only [giT (show dd < 8 by omega) (show 8 < 2 ^ 31 by omega), ck_t, cl_nI (show dd < 2 ^ 31 by omega), hk]
  rcases hh with e | e | e
  · rw [e]
    exact ⟨fun q => absurd q (by decide), fun _ => ⟨-11, by decide, rfl, rfl⟩⟩
  · rw [e]
    exact ⟨fun _ => ⟨rfl, rfl⟩, fun q => absurd rfl q⟩
  · rw [e]
    exact ⟨fun q => absurd q (by decide), fun _ => ⟨-12, by decide, rfl, rfl⟩⟩
theorem wrongL_out {x1 : Int32} (hb : inB x1 8 = false) : f_X8_wrongLaying N kp x1 = some (-1) := by
  unfold f_X8_wrongLaying
  rw [e_isShelf, bs, hb, if_pos (show b2i false = 0 from rfl)]
theorem r_effort {dd k f : Nat} (hd : dd < 8) (hk : kk dd = nI k) (hf : kf dd = nI f) (hk6 : k ≤ 6) (hf9 : f ≤ 9) : ∃ a, f_X1_effort N (nI k) (nI f) = some a ∧ f_X8_toilOf N kk kf (nI dd) = some a := by
  unfold f_X1_effort f_X8_toilOf
  simp only [giT (show dd < 8 by omega) (show 8 < 2 ^ 31 by omega), ck_t, cl_nI (show dd < 2 ^ 31 by omega), hk, hf]
  have e1 : ((2 : Int32) + nI f) + 4 = 6 + nI f := by
    rw [show (2 : Int32) = nI 2 from rfl, show (4 : Int32) = nI 4 from rfl, show (6 : Int32) = nI 6 from rfl, nI_add, nI_add, nI_add, show 2 + f + 4 = 6 + f by omega]
  rw [e1]
  by_cases h1 : nI k = 1
  · rw [if_pos h1]
    exact ⟨_, rfl, rfl⟩
  rw [if_neg h1]
  by_cases h2 : nI k = 2
  · rw [if_pos h2]
    exact ⟨_, rfl, rfl⟩
  rw [if_neg h2]
  by_cases h3 : nI k = 3
  · rw [if_pos h3]
    exact ⟨_, rfl, rfl⟩
  rw [if_neg h3]
  by_cases h4 : nI k = 4
  · rw [if_pos h4]
    exact ⟨_, rfl, rfl⟩
  rw [if_neg h4]
  by_cases h5 : nI k = 5
  · rw [if_pos h5]
    exact ⟨_, rfl, rfl⟩
  rw [if_neg h5]
  by_cases h6 : nI k = 6
  · rw [if_pos h6]
    exact ⟨_, rfl, rfl⟩
  rw [if_neg h6]
  exact ⟨_, rfl, rfl⟩
theorem r_toil_L {x1 : Int32} {k f : Nat} (hT : ∀ dd, dd < 8 → x1 = nI dd → kp dd = hold ∧ hold = 1 ∧ kk dd = nI k ∧ kf dd = nI f ∧ k ≤ 6 ∧ f ≤ 9) : ∃ a, f_X7_toil_L N Sh hold (nI k) (nI f) x1 = some a ∧ f_X8_toil N kp kk kf x1 = some a := by
  unfold f_X7_toil_L f_X8_toil
  rw [c_isShelf, bs]
  cases hb : inB x1 8 with
  | false =>
    rw [if_pos (show b2i false = 0 from rfl), wrongL_out hb, bs, if_neg (show ¬ (-1 : Int32) = 0 by decide)]
    exact ⟨_, rfl, rfl⟩
  | true =>
    obtain ⟨dd, hd, hx⟩ := inB_t (by omega) hb
    obtain ⟨t1, t2, t3, t4, t5, t6⟩ := hT dd hd hx
    obtain ⟨a1, a2⟩ := (r_wrongL (N := N) (Sh := Sh) hd hx t1 (Or.inr (Or.inl t2))).1 t2
    obtain ⟨e, b1, b2⟩ := r_effort (N := N) (kk := kk) (kf := kf) hd t3 t4 t5 t6
    subst hx
    rw [if_neg (show ¬ b2i true = 0 by decide), a1, bs, if_pos rfl, a2, bs, if_pos rfl, ck_nI (by omega) (by omega), b1, bs, b2, bs]
    exact ⟨_, rfl, rfl⟩
theorem r_toil_N {x1 : Int32} (hT : ∀ dd, dd < 8 → x1 = nI dd → kp dd = hold ∧ (hold = 0 ∨ hold = 2)) : ∃ a, f_X7_toil_N N Sh hold x1 = some a ∧ f_X8_toil N kp kk kf x1 = some a := by
  unfold f_X7_toil_N f_X8_toil
  rw [c_isShelf, bs]
  cases hb : inB x1 8 with
  | false =>
    rw [if_pos (show b2i false = 0 from rfl), wrongL_out hb, bs, if_neg (show ¬ (-1 : Int32) = 0 by decide)]
    exact ⟨_, rfl, rfl⟩
  | true =>
    obtain ⟨dd, hd, hx⟩ := inB_t (by omega) hb
    obtain ⟨t1, t2⟩ := hT dd hd hx
    have hn1 : ¬ hold = 1 := by
      rcases t2 with e | e <;> rw [e] <;> decide
    obtain ⟨a, a0, a1, a2⟩ := (r_wrongL (N := N) (Sh := Sh) hd hx t1 (by rcases t2 with e | e; exact Or.inl e; exact Or.inr (Or.inr e))).2 hn1
    rw [if_neg (show ¬ b2i true = 0 by decide), a1, bs, if_neg a0, a2, bs, if_neg a0]
    exact ⟨_, rfl, rfl⟩
end SHF
