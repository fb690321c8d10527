/-! ===== whether a call reaches the ways: their end is then not 0 ===== -/
section TOA
variable {N : Nat}
theorem s_110 {free steps ri rm rl rs : Nat → Int32} {wto rw rp x5 : Int32} {K : Int32 → (Nat → Int32) → (Nat → Int32) → (Nat → Int32) → (Nat → Int32) → Int32 → Option ((Nat → Int32) × (Nat → Int32) × (Nat → Int32) × (Nat → Int32) × (Nat → Int32) × (Nat → Int32) × Int32 × Int32)} (hK : ∀ z0 z1 z2 z3 z4 z5 r, K z0 z1 z2 z3 z4 z5 = some r → r.2.2.2.2.2.2.2 = wto) : ∀ (n : Nat) (v6 : Int32) (a b c d : Nat → Int32) (e : Int32) r, f_X6_spread_L110 N free steps wto ri rm rl rs rw rp K x5 n v6 a b c d e = some r → r.2.2.2.2.2.2.2 = wto := by
  intro n
  induction n with
  | zero => intro v6 a b c d e r h; rw [f_X6_spread_L110] at h; cases h
  | succ n ih =>
    intro v6 a b c d e r h
    rw [f_X6_spread_L110] at h
    split at h
    · exact hK _ _ _ _ _ _ _ h
    · obtain ⟨_, h⟩ := ck_some h
      obtain ⟨_, h⟩ := ck_some h
      obtain ⟨_, _, h⟩ := bd_some h
      split at h
      · exact ih _ _ _ _ _ _ _ h
      · split at h
        · exact ih _ _ _ _ _ _ _ h
        · obtain ⟨_, h⟩ := ck_some h
          split at h
          · exact ih _ _ _ _ _ _ _ h
          · obtain ⟨_, h⟩ := ck_some h
            obtain ⟨_, h⟩ := ck_some h
            obtain ⟨_, h⟩ := ck_some h
            obtain ⟨_, _, h⟩ := bd_some h
            obtain ⟨_, _, h⟩ := bd_some h
            exact ih _ _ _ _ _ _ _ h
theorem s_90 {free steps ri rm rl rs : Nat → Int32} {wto rw rp : Int32} : ∀ (n : Nat) (v5 : Int32) (a b c d : Nat → Int32) (e : Int32) r, f_X6_spread_L90 N free steps wto ri rm rl rs rw rp n v5 a b c d e = some r → r.2.2.2.2.2.2.2 = wto := by
  intro n
  induction n with
  | zero => intro v6 a b c d e r h; rw [f_X6_spread_L90] at h; cases h
  | succ n ih =>
    intro v6 a b c d e r h
    rw [f_X6_spread_L90] at h
    split at h
    · cases h; rfl
    · split at h
      · cases h; rfl
      · exact s_110 (fun z0 z1 z2 z3 z4 z5 r h => ih _ _ _ _ _ _ _ h) _ _ _ _ _ _ _ _ h
theorem s_19 {steps a b c d ri rm rl rs : Nat → Int32} {e wto rw rp x2 x3 : Int32} : ∀ (n : Nat) (v5 : Int32) (free : Nat → Int32) r, f_X6_spread_L19 N steps a b c d e wto ri rm rl rs rw rp x2 x3 n v5 free = some r → r.2.2.2.2.2.2.2 = wto := by
  intro n
  induction n with
  | zero => intro v5 free r h; rw [f_X6_spread_L19] at h; cases h
  | succ n ih =>
    intro v5 free r h
    rw [f_X6_spread_L19] at h
    split at h
    · obtain ⟨_, _, h⟩ := bd_some h
      obtain ⟨_, _, h⟩ := bd_some h
      exact s_90 _ _ _ _ _ _ _ _ h
    · split at h
      · obtain ⟨_, h⟩ := ck_some h
        exact ih _ _ _ h
      · split at h
        · obtain ⟨_, h⟩ := ck_some h
          exact ih _ _ _ h
        · obtain ⟨_, _, h⟩ := bd_some h
          split at h
          · obtain ⟨_, h⟩ := ck_some h
            exact ih _ _ _ h
          · obtain ⟨_, h⟩ := ck_some h
            exact ih _ _ _ h
theorem s_waysOf {i m l d t free steps sos slots takes places : Nat → Int32} {x z states wto x2 : Int32} {r} (h : f_X7_waysOf N i m l d t x z free steps sos slots takes places states wto x2 = some r) : gi x2 6 = true ∧ r.2.2.2.2.2.2.2 = mn (l x2.toNatClampNeg) 60 := by
  unfold f_X7_waysOf at h
  obtain ⟨hg, h⟩ := ck_some h
  obtain ⟨q, hq, h⟩ := bd_some h
  unfold f_X7_waysBetween at hq
  obtain ⟨u, hu, hq⟩ := bd_some hq
  cases h
  cases hq
  unfold f_X6_spread at hu
  exact ⟨hg, s_19 _ _ _ _ hu⟩
end TOA
