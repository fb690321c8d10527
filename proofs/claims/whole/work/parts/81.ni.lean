/-! ===== copy ===== -/
section CPY
variable {N : Nat} {n1 n2 kp so sz el : Nat → Int32} {h1 s1 z1 h2 s2 z2 : Int32} {Sh : Nat → Option Nat}
theorem e_copyL (hN : 5000 < N) {D e i j n : Nat} (hd : D < 8) (he : e < 8) (hi : i + n ≤ 100) (hj : j + n ≤ 100) : ∃ el', f_X8_copy_L122 N kp so sz (nI D) (nI i) (nI e) (nI j) (nI n) N 0 el = some (nI n, el') ∧ (∀ k, k < n → el' (100 * e + j + k) = el (100 * D + i + k)) ∧ ∀ k, (k < 100 * e + j ∨ 100 * e + j + n ≤ k) → el' k = el k := by
  by_cases hij : i ≤ j
  · have key : ∀ (f v : Nat) (ej : Nat → Int32), v ≤ n → n < v + f → (∀ k, n - v ≤ k → k < n → ej (100 * e + j + k) = el (100 * D + i + k)) → (∀ k, (k < 100 * e + j + (n - v) ∨ 100 * e + j + n ≤ k) → ej k = el k) → ∃ el', f_X8_copy_L122 N kp so sz (nI D) (nI i) (nI e) (nI j) (nI n) f (nI v) ej = some (nI n, el') ∧ (∀ k, k < n → el' (100 * e + j + k) = el (100 * D + i + k)) ∧ ∀ k, (k < 100 * e + j ∨ 100 * e + j + n ≤ k) → el' k = el k := by
      intro f
      induction f with
      | zero => intro v ej q1 q2; omega
      | succ f ih =>
        intro v ej q1 q2 q3 q4
        rw [f_X8_copy_L122]
        by_cases hv : v = n
        · subst hv
          rw [if_pos (nI_le (Nat.le_refl _) (by omega))]
          exact ⟨_, rfl, fun k hk => q3 k (by omega) hk, fun k hk => q4 k (by omega)⟩
        · rw [if_neg (nI_ge (by omega) (by omega)), if_pos (nI_le hij (by omega)), show (100 : Int32) = nI 100 from rfl, l1, pk_mul, pk_mul, nI_add, nI_add, pk_sub (by omega), pk_sub (by omega), nI_add, nI_add, ck_nI (by omega) (by omega), ck_nI (by omega) (by omega), cl_nI (by omega), cl_nI (by omega), nI_add]
          refine ih (v + 1) _ (by omega) (by omega) (fun k hk1 hk2 => ?_) (fun k hk => ?_)
          · by_cases ek : k = n - 1 - v
            · subst ek
              rw [pk_us]
              refine q4 _ ?_
              by_cases hde : D = e
              · subst hde
                omega
              · omega
            · rw [pk_un (by omega)]
              exact q3 k (by omega) hk2
          · rw [pk_un (by omega)]
            exact q4 k (by omega)
    exact key N 0 el (by omega) (by omega) (fun k q1 q2 => by omega) (fun k _ => rfl)
  · have key : ∀ (f v : Nat) (ej : Nat → Int32), v ≤ n → n < v + f → (∀ k, k < v → ej (100 * e + j + k) = el (100 * D + i + k)) → (∀ k, (k < 100 * e + j ∨ 100 * e + j + v ≤ k) → ej k = el k) → ∃ el', f_X8_copy_L122 N kp so sz (nI D) (nI i) (nI e) (nI j) (nI n) f (nI v) ej = some (nI n, el') ∧ (∀ k, k < n → el' (100 * e + j + k) = el (100 * D + i + k)) ∧ ∀ k, (k < 100 * e + j ∨ 100 * e + j + n ≤ k) → el' k = el k := by
      intro f
      induction f with
      | zero => intro v ej q1 q2; omega
      | succ f ih =>
        intro v ej q1 q2 q3 q4
        rw [f_X8_copy_L122]
        by_cases hv : v = n
        · subst hv
          rw [if_pos (nI_le (Nat.le_refl _) (by omega))]
          exact ⟨_, rfl, q3, q4⟩
        · rw [if_neg (nI_ge (by omega) (by omega)), if_neg (nI_ge (by omega) (by omega)), show (100 : Int32) = nI 100 from rfl, pk_mul, pk_mul, nI_add, nI_add, nI_add, nI_add, ck_nI (by omega) (by omega), ck_nI (by omega) (by omega), cl_nI (by omega), cl_nI (by omega), nI_1]
          refine ih (v + 1) _ (by omega) (by omega) (fun k hk => ?_) (fun k hk => ?_)
          · by_cases ek : k = v
            · subst ek
              rw [pk_us]
              refine q4 _ ?_
              by_cases hde : D = e
              · subst hde
                omega
              · omega
            · rw [pk_un (by omega)]
              exact q3 k (by omega)
          · rw [pk_un (by omega)]
            exact q4 k (by omega)
    exact key N 0 el (by omega) (by omega) (fun k q1 => by omega) (fun k _ => rfl)
/-- the stretch is there -/
theorem c_stretch {n : Nat} (hn : n ≤ 100) {x2 x5 : Int32} : ∃ b, f_X4_hasStretch N (nI n) x2 x5 = some b ∧ (b = true ↔ ∃ i q, x2 = nI i ∧ x5 = nI q ∧ i + q ≤ n) ∧ (b = false ↔ (x2 < 0 ∨ x5 < 0 ∨ nI n - x2 < x5)) := by
  unfold f_X4_hasStretch
  have zz : (0 : Int32).toInt = 0 := rfl
  by_cases a1 : x2 < 0
  · rw [if_pos a1]
    refine ⟨false, rfl, ⟨fun q => (Bool.false_ne_true q).elim, fun ⟨i, q, e1, _, e3⟩ => ?_⟩, ⟨fun _ => Or.inl a1, fun _ => rfl⟩⟩
    rw [e1] at a1
    exact absurd a1 (nI_pos (by omega))
  rw [if_neg a1]
  by_cases a2 : x5 < 0
  · rw [if_pos a2]
    refine ⟨false, rfl, ⟨fun q => (Bool.false_ne_true q).elim, fun ⟨i, q, _, e1, e3⟩ => ?_⟩, ⟨fun _ => Or.inr (Or.inl a2), fun _ => rfl⟩⟩
    rw [e1] at a2
    exact absurd a2 (nI_pos (by omega))
  rw [if_neg a2]
  obtain ⟨i, hi, rfl⟩ := nI_of a1
  obtain ⟨q, hq, rfl⟩ := nI_of a2
  have zq : (nI q).toInt = (q : Int) := nI_toInt hq
  have zi : (nI i).toInt = (i : Int) := nI_toInt hi
  have zn : (nI n).toInt = (n : Int) := nI_toInt (by omega)
  have zs : (nI n - nI i).toInt = (n : Int) - i := by
    rw [Int32.toInt_sub, zn, zi]
    exact Int.bmod_eq_of_le (by omega) (by omega)
  have inj : ∀ {a b : Nat}, a < 2 ^ 31 → b < 2 ^ 31 → nI a = nI b → a = b := fun h1 h2 h => (nI_eq h1 h2).mp h
  by_cases a3 : nI n < nI i
  · rw [if_pos a3]
    rw [fa_lt, zn, zi] at a3
    refine ⟨false, rfl, ⟨fun q => (Bool.false_ne_true q).elim, fun ⟨i2, q2, e1, _, e3⟩ => ?_⟩, ⟨fun _ => Or.inr (Or.inr (by rw [fa_lt, zs, zq]; omega)), fun _ => rfl⟩⟩
    have := inj hi (show i2 < 2 ^ 31 by omega) e1
    omega
  rw [if_neg a3]
  rw [fa_lt, zn, zi] at a3
  by_cases a4 : nI n - nI i < nI q
  · rw [if_pos a4]
    refine ⟨false, rfl, ⟨fun q => (Bool.false_ne_true q).elim, fun ⟨i2, q2, e1, e2, e3⟩ => ?_⟩, ⟨fun _ => Or.inr (Or.inr a4), fun _ => rfl⟩⟩
    have g1 := inj hi (show i2 < 2 ^ 31 by omega) e1
    have g2 := inj hq (show q2 < 2 ^ 31 by omega) e2
    rw [fa_lt, zs, zq] at a4
    omega
  · rw [if_neg a4]
    refine ⟨true, rfl, ⟨fun _ => ⟨i, q, rfl, rfl, ?_⟩, fun _ => rfl⟩, ⟨(fun z => by cases z), fun z => ?_⟩⟩
    · rw [fa_lt, zs, zq] at a4
      omega
    · rcases z with z | z | z
      · exact absurd z a1
      · exact absurd z a2
      · exact absurd z a4
theorem r_copy_core (hN : 5000 < N) {D e : Nat} {x2 x4 x5 : Int32} (hd : D < 8) (he : e < 8) (T1 : ShN n1 h1 s1 z1 kp so sz el D) (T2 : ShN n2 h2 s2 z2 kp so sz el e) : ∃ a n2' el', f_X7_copy N Sh n1 h1 s1 z1 n2 h2 s2 z2 (nI D) x2 (nI e) x4 x5 = some (a, n2') ∧ f_X8_copy N kp so sz el (nI D) x2 (nI e) x4 x5 = some (a, el') ∧ (∀ k, (k < 100 * e ∨ 100 * e + 100 ≤ k) → el' k = el k) ∧ (h2 = 2 → ∀ k, k < 100 → el' (100 * e + k) = n2' k) := by
  unfold f_X7_copy f_X8_copy
  rw [c_isShelf, c_isShelf, bs, bs, e_isShelf, e_isShelf, bs, bs, inB_i (by omega) hd, inB_i (by omega) he]
  simp only [giT (show D < 8 by omega) (show 8 < 2 ^ 31 by omega), giT (show e < 8 by omega) (show 8 < 2 ^ 31 by omega), ck_t, cl_nI (show D < 2 ^ 31 by omega), cl_nI (show e < 2 ^ 31 by omega), T1.1, T2.1]
  simp only [show ¬ b2i true = 0 by decide, if_false]
  have keep : ∀ a : Int32, ∃ a' n2' el', some (a, n2) = some (a', n2') ∧ some (a, el) = some (a', el') ∧ (∀ k, (k < 100 * e ∨ 100 * e + 100 ≤ k) → el' k = el k) ∧ (h2 = 2 → ∀ k, k < 100 → el' (100 * e + k) = n2' k) := fun a => ⟨_, _, _, rfl, rfl, fun _ _ => rfl, fun q => (T2.2.2 q).2.2.2⟩
  by_cases b1 : h1 = 0
  · rw [if_pos b1, if_pos b1]
    exact keep _
  rw [if_neg b1, if_neg b1]
  by_cases b2 : h2 = 0
  · rw [if_pos b2, if_pos b2]
    exact keep _
  rw [if_neg b2, if_neg b2]
  by_cases b3 : ¬ h1 = 2
  · rw [if_neg b3, if_neg b3]
    exact keep _
  have b3 := Classical.not_not.mp b3
  rw [if_pos b3, if_pos b3]
  by_cases b4 : ¬ h2 = 2
  · rw [if_neg b4, if_neg b4]
    exact keep _
  have b4 := Classical.not_not.mp b4
  rw [if_pos b4, if_pos b4]
  obtain ⟨u1, u2, ⟨m1, u3, u4, u5⟩, u6⟩ := T1.2.2 b3
  obtain ⟨w1, w2, ⟨m2, w3, w4, w5⟩, w6⟩ := T2.2.2 b4
  rw [u1, w1, u5, w5, u4, w4]
  by_cases b5 : ¬ s1 = s2
  · rw [if_neg b5, if_neg b5]
    exact keep _
  have b5 := Classical.not_not.mp b5
  rw [if_pos b5, if_pos b5]
  obtain ⟨g1, p1, p2, p3⟩ := c_stretch (N := N) (n := m1) u3 (x2 := x2) (x5 := x5)
  obtain ⟨g2, r1, r2, r3⟩ := c_stretch (N := N) (n := m2) w3 (x2 := x4) (x5 := x5)
  rw [p1, bs, r1, bs]
  by_cases c1 : x5 < 0
  · have : g1 = false := p3.mpr (Or.inr (Or.inl c1))
    rw [if_pos c1, this, if_pos (show b2i false = 0 from rfl)]
    exact keep _
  rw [if_neg c1]
  by_cases c2 : x2 < 0
  · have : g1 = false := p3.mpr (Or.inl c2)
    rw [if_pos c2, this, if_pos (show b2i false = 0 from rfl)]
    exact keep _
  rw [if_neg c2]
  by_cases c3 : x4 < 0
  · have : g2 = false := r3.mpr (Or.inl c3)
    rw [if_pos c3, this, if_pos (show b2i false = 0 from rfl)]
    split
    · exact keep _
    · exact keep _
  rw [if_neg c3]
  by_cases c4 : nI m1 - x2 < x5
  · have : g1 = false := p3.mpr (Or.inr (Or.inr c4))
    rw [if_pos c4, this, if_pos (show b2i false = 0 from rfl)]
    exact keep _
  rw [if_neg c4]
  have g1t : g1 = true := by
    cases g1 with
    | true => rfl
    | false =>
      rcases p3.mp rfl with q | q | q
      · exact absurd q c2
      · exact absurd q c1
      · exact absurd q c4
  rw [g1t, if_neg (show ¬ b2i true = 0 by decide)]
  by_cases c5 : x5 ≤ nI m2 - x4
  · rw [if_pos c5]
    have g2t : g2 = true := by
      cases g2 with
      | true => rfl
      | false =>
        rcases r3.mp rfl with q | q | q
        · exact absurd q c3
        · exact absurd q c1
        · exact absurd c5 (fa_of_lt q).2.1
    rw [g2t, if_neg (show ¬ b2i true = 0 by decide)]
    obtain ⟨i, q, e1, e2, e3⟩ := p2.mp g1t
    obtain ⟨j, q', f1, f2, f3⟩ := r2.mp g2t
    subst e1
    subst f1
    subst e2
    have hqq : q = q' := (nI_eq (by omega) (by omega)).mp f2
    subst hqq
    obtain ⟨el', a1, a2, a3⟩ := e_copyL (N := N) (kp := kp) (so := so) (sz := sz) (el := el) hN hd he (i := i) (j := j) (n := q) (by omega) (by omega)
    have hc : cpk (nI i) (nI j) (nI q) 100 100 = true := by
      rw [cpk_iff, cl_nI (by omega), cl_nI (by omega), cl_nI (by omega)]
      exact ⟨⟨⟨⟨nI_pos (by omega), nI_pos (by omega)⟩, nI_pos (by omega)⟩, by omega⟩, by omega⟩
    rw [a1, hc, ck_t, cl_nI (by omega), cl_nI (by omega), cl_nI (by omega)]
    refine ⟨_, _, _, rfl, rfl, fun k hk => a3 k (by omega), fun _ k hk => ?_⟩
    by_cases hin : j ≤ k ∧ k < j + q
    · have := a2 (k - j) (by omega)
      rw [show 100 * e + j + (k - j) = 100 * e + k by omega] at this
      rw [this, pk_cpy_in (by omega) (by omega), show 100 * D + i + (k - j) = 100 * D + (i + (k - j)) by omega]
      exact u6 _ (by omega)
    · rw [a3 _ (by omega), pk_cpy_out (by omega)]
      exact w6 k hk
  · rw [if_neg c5]
    have g2f : g2 = false := r3.mpr (Or.inr (Or.inr (fa_of_nle c5)))
    rw [g2f, if_pos (show b2i false = 0 from rfl)]
    exact keep _
theorem copy_same_eq {x1 x2 x3 x4 x5 : Int32} : f_X7_copy_same N Sh n1 h1 s1 z1 x1 x2 x3 x4 x5 = f_X7_copy N Sh n1 h1 s1 z1 n1 h1 s1 z1 x1 x2 x3 x4 x5 := rfl
theorem r_copy_out {x1 x2 x3 x4 x5 : Int32} (h : inB x1 8 = false ∨ inB x3 8 = false) : f_X7_copy N Sh n1 h1 s1 z1 n2 h2 s2 z2 x1 x2 x3 x4 x5 = some (-1, n2) ∧ f_X8_copy N kp so sz el x1 x2 x3 x4 x5 = some (-1, el) := by
  unfold f_X7_copy f_X8_copy
  rw [c_isShelf, c_isShelf, bs, bs, e_isShelf, e_isShelf, bs, bs]
  cases hb : inB x1 8 with
  | false => exact ⟨rfl, rfl⟩
  | true =>
    rw [if_neg (show ¬ b2i true = 0 by decide), if_neg (show ¬ b2i true = 0 by decide)]
    rcases h with h | h
    · rw [hb] at h
      cases h
    · rw [h]
      exact ⟨rfl, rfl⟩
end CPY
