/-! ===== two as a call ===== -/
/-- what is taken is worth -/
def wT (s : Nat → Int32) (τ : Nat → Nat) : Nat → Nat
  | 0 => 0
  | j + 1 => wT s τ j + τ j * wor s j
def bothB (s : Nat → Int32) (τ υ : Nat → Nat) (w : Nat) : Bool := decide (τ w + υ w ≤ mny s w)
def dgt (c w : Nat) : Nat := c / 13 ^ w % 13
theorem wT_le {s : Nat → Int32} (h : Sm s) {τ : Nat → Nat} (hτ : ∀ v, v < 4 → τ v ≤ 15) : ∀ j, j ≤ 4 → wT s τ j ≤ 1485 * j
  | 0, _ => Nat.le_refl _
  | j + 1, hj => by
    have h1 := wT_le h hτ j (by omega)
    have h2 := hτ j (by omega)
    have h3 : wor s j ≤ 99 := h.le (by omega)
    have h4 := Nat.mul_le_mul h2 h3
    show wT s τ j + τ j * wor s j ≤ _
    omega
theorem wT_cong {s : Nat → Int32} {τ υ : Nat → Nat} : ∀ j, (∀ v, v < j → τ v = υ v) → wT s τ j = wT s υ j
  | 0, _ => rfl
  | j + 1, h => by
    show wT s τ j + τ j * wor s j = wT s υ j + υ j * wor s j
    rw [wT_cong j (fun v hv => h v (by omega)), h j (by omega)]
theorem af_cong {p q : Nat → Bool} : ∀ n j, (∀ v, j ≤ v → v < j + n → p v = q v) → af p j n = af q j n
  | 0, _, _ => rfl
  | n + 1, j, h => by
    show (p j && af p (j + 1) n) = (q j && af q (j + 1) n)
    rw [h j (Nat.le_refl _) (by omega), af_cong n (j + 1) (fun v h1 h2 => h v (by omega) (by omega))]
section TWO
variable {N : Nat} {i m w l d t : Nat → Int32} {x y z : Int32} {s : Nat → Int32}
theorem c_hasBoth (hN : 5000 < N) (E : Enc i m w l d t x y z s) (O : Ok s) {τ υ : Nat → Nat} (hτ : ∀ v, v < 4 → τ v ≤ 15) (hυ : ∀ v, v < 4 → υ v ≤ 15) : f_X3_hasBoth N m x (nI (cod τ)) (nI (cod υ)) = some (af (bothB s τ υ) 0 (wide s)) := by
  have hw := O.w4
  have key : ∀ (f j : Nat), j ≤ wide s → wide s < j + f → f_X3_hasBoth_L2 N m x (nI (cod τ)) (nI (cod υ)) f (nI j) = some (af (bothB s τ υ) j (wide s - j)) := by
    intro f
    induction f with
    | zero => intro j h1 h2; omega
    | succ f ih =>
      intro j h1 h2
      rw [f_X3_hasBoth_L2, E.wide O.S]
      by_cases hj : j = wide s
      · rw [hj, if_pos (nI_le (Nat.le_refl _) (by omega)), Nat.sub_self]
        rfl
      · have a1 := hτ j (by omega)
        have a2 := hυ j (by omega)
        have a3 := O.m12 j (by omega)
        rw [if_neg (nI_ge (by omega) (by omega)), c_of hτ (by omega), bs, c_of hυ (by omega), bs, ck_nI (by omega) (by omega), cl_nI (by omega), E.mny O.S (by omega), nI_add, nI_1, show wide s - j = (wide s - (j + 1)) + 1 by omega, af, ← E.wide O.S]
        by_cases hb : τ j + υ j ≤ mny s j
        · rw [if_pos (nI_le hb (by omega)), show bothB s τ υ j = true from decide_eq_true hb, Bool.true_and]
          exact ih (j + 1) (by omega) (by omega)
        · rw [if_neg (nI_ge (by omega) (by omega)), show bothB s τ υ j = false from decide_eq_false hb, Bool.false_and]
  exact key N 0 (by omega) (by omega)
theorem c_worthT (hN : 5000 < N) (E : Enc i m w l d t x y z s) (O : Ok s) {τ : Nat → Nat} (hτ : ∀ v, v < 4 → τ v ≤ 15) : f_X3_worthOfTaken N w x (nI (cod τ)) = some (nI (wT s τ (wide s))) := by
  have hw := O.w4
  have key : ∀ (f j : Nat), j ≤ wide s → wide s < j + f → f_X3_worthOfTaken_L4 N w x (nI (cod τ)) f (nI (wT s τ j)) (nI j) = some (nI (wT s τ (wide s))) := by
    intro f
    induction f with
    | zero => intro j h1 h2; omega
    | succ f ih =>
      intro j h1 h2
      rw [f_X3_worthOfTaken_L4, E.wide O.S]
      by_cases hj : j = wide s
      · rw [hj, if_pos (nI_le (Nat.le_refl _) (by omega))]
      · rw [if_neg (nI_ge (by omega) (by omega)), c_of hτ (by omega), bs, ck_nI (by omega) (by omega), cl_nI (by omega), E.wor O.S (by omega), pk_mul, nI_add, nI_1, ← E.wide O.S]
        exact ih (j + 1) (by omega) (by omega)
  exact key N 0 (by omega) (by omega)
theorem dgt_div {c j : Nat} : c / 13 ^ j / 13 = c / 13 ^ (j + 1) := by
  rw [Nat.div_div_eq_div_mul, Nat.pow_succ]
theorem e_isThere (hN : 5000 < N) (O : Ok s) {a b : Nat} (ha : a < 28561) (hb : b < 28561) : f_X8_isThere N s (nI a) (nI b) = some (af (bothB s (dgt a) (dgt b)) 0 (wide s)) := by
  have hw := O.w4
  have key : ∀ (f j : Nat), j ≤ wide s → wide s < j + f → f_X8_isThere_L8 N s f (nI (a / 13 ^ j)) (nI (b / 13 ^ j)) (nI j) = some (af (bothB s (dgt a) (dgt b)) j (wide s - j)) := by
    intro f
    induction f with
    | zero => intro j h1 h2; omega
    | succ f ih =>
      intro j h1 h2
      rw [f_X8_isThere_L8, (ck1 O.S).1, (ck1 O.S (α := Nat) (k := none)).2]
      by_cases hj : j = wide s
      · rw [hj, if_pos (nI_le (Nat.le_refl _) (by omega)), Nat.sub_self]
        rfl
      · have a1 := Nat.div_le_self a (13 ^ j)
        have a2 := Nat.div_le_self b (13 ^ j)
        have a3 := O.m12 j (by omega)
        have a4 : a / 13 ^ j % 13 < 13 := Nat.mod_lt _ (by omega)
        have a5 : b / 13 ^ j % 13 < 13 := Nat.mod_lt _ (by omega)
        rw [if_neg (nI_ge (by omega) (by omega)), e_many O.S (by omega), bs, show (13 : Int32) = nI 13 from rfl, pk_rem (by omega) (by omega) (by omega), pk_rem (by omega) (by omega) (by omega), nI_add, pk_div (by omega) (by omega) (by omega), pk_div (by omega) (by omega) (by omega), dgt_div, dgt_div, nI_1, show wide s - j = (wide s - (j + 1)) + 1 by omega, af]
        by_cases hc : a / 13 ^ j % 13 + b / 13 ^ j % 13 ≤ mny s j
        · rw [if_pos (nI_le hc (by omega)), show bothB s (dgt a) (dgt b) j = true from decide_eq_true hc, Bool.true_and]
          exact ih (j + 1) (by omega) (by omega)
        · rw [if_neg (nI_ge (by omega) (by omega)), show bothB s (dgt a) (dgt b) j = false from decide_eq_false hc, Bool.false_and]
  have := key N 0 (by omega) (by omega)
  rw [Nat.pow_zero, Nat.div_one, Nat.div_one] at this
  exact this
theorem e_worthOf (hN : 5000 < N) (O : Ok s) {a : Nat} (ha : a < 28561) : f_X8_worthOf N s (nI a) = some (nI (wT s (dgt a) (wide s))) := by
  have hw := O.w4
  have key : ∀ (f j : Nat), j ≤ wide s → wide s < j + f → f_X8_worthOf_L7 N s f (nI (wT s (dgt a) j)) (nI (a / 13 ^ j)) (nI j) = some (nI (wT s (dgt a) (wide s))) := by
    intro f
    induction f with
    | zero => intro j h1 h2; omega
    | succ f ih =>
      intro j h1 h2
      rw [f_X8_worthOf_L7, (ck1 O.S).1, (ck1 O.S (α := Nat) (k := none)).2]
      by_cases hj : j = wide s
      · rw [hj, if_pos (nI_le (Nat.le_refl _) (by omega))]
      · have a1 := Nat.div_le_self a (13 ^ j)
        rw [if_neg (nI_ge (by omega) (by omega)), e_worth O.S (by omega), bs, show (13 : Int32) = nI 13 from rfl, pk_rem (by omega) (by omega) (by omega), pk_mul, nI_add, pk_div (by omega) (by omega) (by omega), dgt_div, nI_1]
        exact ih (j + 1) (by omega) (by omega)
  have := key N 0 (by omega) (by omega)
  rw [Nat.pow_zero, Nat.div_one] at this
  exact this
end TWO
/-- the least of a set of values; 1000000 if there is none -/
def Least (S : Nat → Prop) (c : Nat) : Prop := (c = 1000000 ∨ S c) ∧ (∀ v, S v → c ≤ v) ∧ c ≤ 1000000
theorem Least.uniq {S : Nat → Prop} {c c' : Nat} (h : Least S c) (h' : Least S c') : c = c' := by
  obtain ⟨h1, h2, h3⟩ := h
  obtain ⟨g1, g2, g3⟩ := h'
  have a : c ≤ c' := by
    rcases g1 with g | g
    · omega
    · exact h2 _ g
  have b : c' ≤ c := by
    rcases h1 with g | g
    · omega
    · exact g2 _ g
  omega
theorem Least.cong {S S' : Nat → Prop} {c : Nat} (h : Least S c) (e : ∀ v, S v ↔ S' v) : Least S' c := by
  obtain ⟨h1, h2, h3⟩ := h
  refine ⟨h1.imp id (e c).mp, fun v hv => h2 v ((e v).mpr hv), h3⟩
theorem Least.add {S S' : Nat → Prop} {c x : Nat} (h : Least S c) (hx : x < 1000000) (e : ∀ v, S' v ↔ (S v ∨ v = x)) : Least S' (min c x) := by
  obtain ⟨h1, h2, h3⟩ := h
  refine ⟨?_, fun v hv => ?_, by omega⟩
  · by_cases hc : c ≤ x
    · rw [Nat.min_eq_left hc]
      exact h1.imp id (fun q => (e c).mpr (Or.inl q))
    · rw [Nat.min_eq_right (by omega)]
      exact Or.inr ((e x).mpr (Or.inr rfl))
  · rcases (e v).mp hv with q | q
    · have := h2 v q
      omega
    · omega
/-- the pairs gone through ahead of (a, b) -/
def SPr (val : Nat → Nat → Option Nat) (n2 a b : Nat) (v : Nat) : Prop := ∃ a' b', (a' < a ∨ (a' = a ∧ b' < b)) ∧ b' < n2 ∧ val a' b' = some v
theorem SPr_row {val : Nat → Nat → Option Nat} {n2 a : Nat} (v : Nat) : SPr val n2 a n2 v ↔ SPr val n2 (a + 1) 0 v := by
  refine ⟨fun ⟨a', b', h1, h2, h3⟩ => ⟨a', b', Or.inl (by omega), h2, h3⟩, fun ⟨a', b', h1, h2, h3⟩ => ⟨a', b', by omega, h2, h3⟩⟩
theorem SPr_none {val : Nat → Nat → Option Nat} {n2 a b : Nat} (hn : val a b = none) (v : Nat) : SPr val n2 a b v ↔ SPr val n2 a (b + 1) v := by
  refine ⟨fun ⟨a', b', h1, h2, h3⟩ => ⟨a', b', by omega, h2, h3⟩, fun ⟨a', b', h1, h2, h3⟩ => ?_⟩
  by_cases e : a' = a ∧ b' = b
  · rw [e.1, e.2, hn] at h3
    cases h3
  · exact ⟨a', b', by omega, h2, h3⟩
theorem SPr_some {val : Nat → Nat → Option Nat} {n2 a b x : Nat} (hb : b < n2) (hn : val a b = some x) (v : Nat) : SPr val n2 a (b + 1) v ↔ (SPr val n2 a b v ∨ v = x) := by
  refine ⟨fun ⟨a', b', h1, h2, h3⟩ => ?_, fun h => ?_⟩
  · by_cases e : a' = a ∧ b' = b
    · rw [e.1, e.2, hn] at h3
      exact Or.inr (Option.some.inj h3).symm
    · exact Or.inl ⟨a', b', by omega, h2, h3⟩
  · rcases h with ⟨a', b', h1, h2, h3⟩ | h
    · exact ⟨a', b', by omega, h2, h3⟩
    · subst h
      exact ⟨a, b, by omega, hb, hn⟩
theorem SPr_skip {val : Nat → Nat → Option Nat} {n2 a : Nat} (hn : ∀ b, b < n2 → val a b = none) (v : Nat) : SPr val n2 a 0 v ↔ SPr val n2 (a + 1) 0 v := by
  refine ⟨fun ⟨a', b', h1, h2, h3⟩ => ⟨a', b', by omega, h2, h3⟩, fun ⟨a', b', h1, h2, h3⟩ => ?_⟩
  by_cases e : a' = a
  · rw [e, hn b' h2] at h3
    cases h3
  · exact ⟨a', b', by omega, h2, h3⟩
def encN (c : Nat) : Int32 := if c = 1000000 then -4 else nI c
def valC (s : Nat → Int32) (A B : Nat → Nat → Nat) (a b : Nat) : Option Nat := if af (bothB s (A a) (B b)) 0 (wide s) = true then some (wT s (A a) (wide s) + wT s (B b) (wide s)) else none
def valM (s : Nat → Int32) (P Q : Nat → Prop) [DecidablePred P] [DecidablePred Q] (a b : Nat) : Option Nat := if P a ∧ Q b ∧ af (bothB s (dgt a) (dgt b)) 0 (wide s) = true then some (wT s (dgt a) (wide s) + wT s (dgt b) (wide s)) else none
section TWO2
variable {N : Nat} {i m w l d t : Nat → Int32} {x y z : Int32} {s : Nat → Int32}
theorem c_least (hN : 5000 < N) (E : Enc i m w l d t x y z s) (O : Ok s) {nU nU2 : Nat} (hU : nU ≤ 1820) (hU2 : nU2 ≤ 1820) {A B : Nat → Nat → Nat} {U U2 : Nat → Int32} (hA : ∀ k, k < nU → U k = nI (cod (A k)) ∧ ∀ v, v < 4 → A k v ≤ 15) (hB : ∀ k, k < nU2 → U2 k = nI (cod (B k)) ∧ ∀ v, v < 4 → B k v ≤ 15) :
    ∃ c, f_X7_leastTogether N nU nU2 m w x U U2 = some (encN c) ∧ Least (SPr (valC s A B) nU2 nU 0) c := by
  have hw := O.w4
  have key : ∀ (f a c : Nat), a ≤ nU → nU < a + f → Least (SPr (valC s A B) nU2 a 0) c → ∃ c', f_X7_leastTogether_L7 N nU nU2 m w x U U2 f (nI c) (nI a) = some (encN c') ∧ Least (SPr (valC s A B) nU2 nU 0) c' := by
    intro f
    induction f with
    | zero => intro a c h1 h2; omega
    | succ f ih =>
      intro a c h1 h2 hc
      have hc6 := hc.2.2
      rw [f_X7_leastTogether_L7]
      by_cases ha : a = nU
      · subst ha
        rw [if_pos (nI_le (Nat.le_refl _) (by omega))]
        refine ⟨c, ?_, hc⟩
        unfold encN
        by_cases e : c = 1000000
        · rw [if_pos e, e, if_pos (show (1000000 : Int32) ≤ nI 1000000 by decide)]
        · rw [if_neg e, if_neg (show ¬ (1000000 : Int32) ≤ nI c from nI_ge (b := 1000000) (by omega) (by omega))]
      · rw [if_neg (nI_ge (by omega) (by omega))]
        obtain ⟨u1, u2⟩ := hA a (by omega)
        have inner : ∀ (g b c : Nat), b ≤ nU2 → nU2 < b + g → Least (SPr (valC s A B) nU2 a b) c → ∃ c', f_X7_leastTogether_L17 N nU nU2 m w x U U2 (fun z0 z1 => f_X7_leastTogether_L7 N nU nU2 m w x U U2 f z0 z1) (nI a) g (nI c) (nI b) = some (encN c') ∧ Least (SPr (valC s A B) nU2 nU 0) c' := by
          intro g
          induction g with
          | zero => intro b c q1 q2; omega
          | succ g ihg =>
            intro b c q1 q2 hc
            have hc6 := hc.2.2
            rw [f_X7_leastTogether_L17]
            by_cases hb : b = nU2
            · subst hb
              rw [if_pos (nI_le (Nat.le_refl _) (by omega)), nI_1]
              exact ih (a + 1) c (by omega) (by omega) (hc.cong (fun v => SPr_row v))
            · obtain ⟨b1, b2⟩ := hB b (by omega)
              have w1 := wT_le O.S u2 (wide s) hw
              have w2 := wT_le O.S b2 (wide s) hw
              rw [if_neg (nI_ge (by omega) (by omega)), ck_nI (by omega) (by omega), ck_nI (by omega) (by omega), cl_nI (by omega), cl_nI (by omega), u1, b1, c_hasBoth hN E O u2 b2, bs, ck_nI (by omega) (by omega), c_worthT hN E O u2, bs, ck_nI (by omega) (by omega), c_worthT hN E O b2, bs, nI_add, mn_nI (by omega) (by omega), nI_1]
              cases hq : af (bothB s (A a) (B b)) 0 (wide s) with
              | false =>
                rw [if_pos (show b2i false = 0 from rfl)]
                exact ihg (b + 1) c (by omega) (by omega) (hc.cong (fun v => SPr_none (by unfold valC; rw [hq]; exact if_neg Bool.false_ne_true) v))
              | true =>
                rw [if_neg (show ¬ b2i true = 0 by decide)]
                exact ihg (b + 1) _ (by omega) (by omega) (hc.add (by omega) (fun v => SPr_some (by omega) (by unfold valC; rw [hq]; exact if_pos rfl) v))
        exact inner N 0 c (by omega) (by omega) hc
  obtain ⟨c', k1, k2⟩ := key N 0 1000000 (by omega) (by omega) ⟨Or.inl rfl, fun v ⟨a', b', h1, h2, h3⟩ => by omega, Nat.le_refl _⟩
  exact ⟨c', k1, k2⟩
theorem e_least (hN : 30000 < N) (O : Ok s) {is1 is2 : Nat → Int32} {P Q : Nat → Prop} [DecidablePred P] [DecidablePred Q] (h1 : ∀ k, k < 28561 → (is1 k = 0 ↔ ¬ P k)) (h2 : ∀ k, k < 28561 → (is2 k = 0 ↔ ¬ Q k)) :
    ∃ c, f_X8_two_L113 N s is1 is2 N (-4) 0 = some (encN c, s, is1, is2) ∧ Least (SPr (valM s P Q) 28561 28561 0) c := by
  have hw := O.w4
  have hd15 : ∀ c v, v < 4 → dgt c v ≤ 15 := fun c v _ => by
    have : dgt c v < 13 := Nat.mod_lt _ (by omega)
    omega
  have key : ∀ (f a c : Nat), a ≤ 28561 → 28561 < a + f → Least (SPr (valM s P Q) 28561 a 0) c → ∃ c', f_X8_two_L113 N s is1 is2 f (encN c) (nI a) = some (encN c', s, is1, is2) ∧ Least (SPr (valM s P Q) 28561 28561 0) c' := by
    intro f
    induction f with
    | zero => intro a c q1 q2; omega
    | succ f ih =>
      intro a c q1 q2 hc
      rw [f_X8_two_L113]
      by_cases ha : a = 28561
      · subst ha
        rw [if_pos (show (28561 : Int32) ≤ nI 28561 by decide)]
        exact ⟨c, rfl, hc⟩
      · rw [if_neg (show ¬ (28561 : Int32) ≤ nI a from nI_ge (b := 28561) (by omega) (by omega)), ck_nI (by omega) (by omega), cl_nI (by omega)]
        by_cases hp : P a
        · rw [if_neg (fun q => (h1 a (by omega)).mp q hp)]
          have inner : ∀ (g b c : Nat), b ≤ 28561 → 28561 < b + g → Least (SPr (valM s P Q) 28561 a b) c → ∃ c', f_X8_two_L137 N s is1 is2 (fun z0 z1 => f_X8_two_L113 N s is1 is2 f z0 z1) (nI a) g (encN c) (nI b) = some (encN c', s, is1, is2) ∧ Least (SPr (valM s P Q) 28561 28561 0) c' := by
            intro g
            induction g with
            | zero => intro b c r1 r2; omega
            | succ g ihg =>
              intro b c r1 r2 hc
              have hc6 := hc.2.2
              rw [f_X8_two_L137]
              by_cases hb : b = 28561
              · subst hb
                rw [if_pos (show (28561 : Int32) ≤ nI 28561 by decide), nI_1]
                exact ih (a + 1) c (by omega) (by omega) (hc.cong (fun v => SPr_row v))
              · rw [if_neg (show ¬ (28561 : Int32) ≤ nI b from nI_ge (b := 28561) (by omega) (by omega)), ck_nI (by omega) (by omega), cl_nI (by omega), nI_1]
                by_cases hq : Q b
                · have w1 := wT_le O.S (hd15 a) (wide s) hw
                  have w2 := wT_le O.S (hd15 b) (wide s) hw
                  rw [if_neg (fun z => (h2 b (by omega)).mp z hq), e_isThere (by omega) O (by omega) (by omega), bs, e_worthOf (by omega) O (by omega), bs, e_worthOf (by omega) O (by omega), bs, nI_add]
                  cases hz : af (bothB s (dgt a) (dgt b)) 0 (wide s) with
                  | false =>
                    rw [if_pos (show b2i false = 0 from rfl)]
                    exact ihg (b + 1) c (by omega) (by omega) (hc.cong (fun v => SPr_none (by unfold valM; exact if_neg (fun z => by rw [hz] at z; exact Bool.false_ne_true z.2.2)) v))
                  | true =>
                    rw [if_neg (show ¬ b2i true = 0 by decide)]
                    have hnew := ihg (b + 1) _ (by omega) (by omega) (hc.add (x := wT s (dgt a) (wide s) + wT s (dgt b) (wide s)) (by omega) (fun v => SPr_some (by omega) (by unfold valM; exact if_pos ⟨hp, hq, hz⟩) v))
                    by_cases e6 : c = 1000000
                    · have e7 : encN (min c (wT s (dgt a) (wide s) + wT s (dgt b) (wide s))) = nI (wT s (dgt a) (wide s) + wT s (dgt b) (wide s)) := by
                        rw [Nat.min_eq_right (by omega)]
                        exact if_neg (by omega)
                      rw [e7] at hnew
                      rw [if_pos (show encN c < 0 by rw [e6]; decide)]
                      exact hnew
                    · have e8 : encN c = nI c := if_neg e6
                      rw [e8, if_neg (nI_pos (by omega))]
                      by_cases hle : c ≤ wT s (dgt a) (wide s) + wT s (dgt b) (wide s)
                      · rw [Nat.min_eq_left hle, e8] at hnew
                        rw [if_pos (nI_le hle (by omega))]
                        exact hnew
                      · have e7 : encN (min c (wT s (dgt a) (wide s) + wT s (dgt b) (wide s))) = nI (wT s (dgt a) (wide s) + wT s (dgt b) (wide s)) := by
                          rw [Nat.min_eq_right (by omega)]
                          exact if_neg (by omega)
                        rw [e7] at hnew
                        rw [if_neg (nI_ge (by omega) (by omega))]
                        exact hnew
                · rw [if_pos ((h2 b (by omega)).mpr hq)]
                  exact ihg (b + 1) c (by omega) (by omega) (hc.cong (fun v => SPr_none (by unfold valM; exact if_neg (fun z => hq z.2.1)) v))
          exact inner N 0 c (by omega) (by omega) hc
        · rw [if_pos ((h1 a (by omega)).mpr hp), nI_1]
          exact ih (a + 1) c (by omega) (by omega) (hc.cong (fun v => SPr_skip (fun b _ => by unfold valM; exact if_neg (fun z => hp z.1)) v))
  exact key N 0 1000000 (by omega) (by omega) ⟨Or.inl rfl, fun v ⟨a', b', q1, q2, q3⟩ => by omega, Nat.le_refl _⟩
end TWO2
