/-! ===== the spreading ===== -/
section SPR2
variable {N W : Nat} {ic m : Nat → Nat} {fr : Nat → Bool} {src to : Nat} {inches many laid slates free steps : Nat → Int32} {lap : Int32}
theorem c_L110 (hw : WI W ic src to) (hm : ∀ v, v < 4 → m v ≤ 99) (hi : ∀ v, v < 4 → inches v = nI (ic v)) (hma : ∀ v, v < 4 → many v = nI (m v)) (hfree : ∀ x, x ≤ to → free x = b2i (fr x)) (hsteps : ∀ v, v < 4 → steps v = nI (stepsN (rdx W ic m) v))
    {K : Int32 → (Nat → Int32) → (Nat → Int32) → (Nat → Int32) → (Nat → Int32) → Int32 → Option ((Nat → Int32) × (Nat → Int32) × (Nat → Int32) × (Nat → Int32) × (Nat → Int32) × (Nat → Int32) × Int32 × Int32)} {k : Nat} :
    ∀ (f w : Nat) (T : Nat → Nat → Nat) (n : Nat) (sos slots takes places : Nat → Int32), w ≤ W → W < w + f → k < n → TI W ic m fr src to T n sos slots takes places → CLO W ic m fr src to T n k w → (∀ i, i < n → sm4 (T i) ≤ sm4 (T k) + 1) →
    ∃ (T' : Nat → Nat → Nat) (n' : Nat) (sos' slots' takes' places' : Nat → Int32), f_X6_spread_L110 N free steps (nI to) inches many laid slates (nI W) lap K (nI k) f (nI w) sos slots takes places (nI n) = K (nI (k + 1)) sos' slots' takes' places' (nI n') ∧ TI W ic m fr src to T' n' sos' slots' takes' places' ∧ CLO W ic m fr src to T' n' (k + 1) 0 ∧ n ≤ n' ∧ (∀ i, i < n → T' i = T i) ∧ (∀ i, i < n' → sm4 (T' i) ≤ sm4 (T' k) + 1) := by
  intro f
  induction f with
  | zero => intro w T n sos slots takes places h1 h2; omega
  | succ f ih =>
    intro w T n sos slots takes places h1 h2 hk hT hC hsm
    have hW4 := hw.1
    rw [f_X6_spread_L110]
    by_cases hwW : w = W
    · rw [hwW, if_pos (nI_le (Nat.le_refl _) (by omega)), nI_1]
      exact ⟨T, n, sos, slots, takes, places, rfl, hT, fun a v ha hv hav hok => hC a v ha hv (by omega) hok, Nat.le_refl _, fun _ _ => rfl, hsm⟩
    · have h6 := hT.2.2.2.2.2.1
      have hVk := (hT.1 k hk).1
      have hpk := hVk.2.2
      have hto := hw.2.1
      have hicw := hw.2.2.2.1 w (by omega)
      obtain ⟨q1, q2, q3, q4⟩ := hT.2.1 k hk
      have hskip : ¬ okS ic m fr src to (T k) w → ∃ (T' : Nat → Nat → Nat) (n' : Nat) (sos' slots' takes' places' : Nat → Int32), f_X6_spread_L110 N free steps (nI to) inches many laid slates (nI W) lap K (nI k) f (nI w + 1) sos slots takes places (nI n) = K (nI (k + 1)) sos' slots' takes' places' (nI n') ∧ TI W ic m fr src to T' n' sos' slots' takes' places' ∧ CLO W ic m fr src to T' n' (k + 1) 0 ∧ n ≤ n' ∧ (∀ i, i < n → T' i = T i) ∧ (∀ i, i < n' → sm4 (T' i) ≤ sm4 (T' k) + 1) := by
        intro hno
        rw [nI_1]
        refine ih (w + 1) T n sos slots takes places (by omega) (by omega) hk hT (fun a v ha hv hav hok => ?_) hsm
        by_cases e : a = k ∧ v = w
        · obtain ⟨e1, e2⟩ := e
          subst e1
          subst e2
          exact absurd hok hno
        · exact hC a v ha hv (by omega) hok
      rw [if_neg (nI_ge (by omega) (by omega)), ck_nI (by omega) (by omega), ck_nI (by omega) (by omega), c_hasLeft hw hT hm hma hk (by omega), bs]
      by_cases hl : T k w < m w
      · rw [if_neg (b2i_n0.mpr (decide_eq_true hl)), cl_nI (by omega), cl_nI (by omega), q3, hi w (by omega), nI_add]
        by_cases hov : to < plc ic src (T k) + ic w
        · rw [if_pos (nI_lt hov (by omega))]
          exact hskip (fun h => by have := h.2.1; omega)
        · rw [if_neg (nI_nlt (by omega) (by omega)), ck_nI (by omega) (by omega), cl_nI (by omega), hfree _ (by omega)]
          by_cases hf : fr (plc ic src (T k) + ic w) = true
          · rw [if_neg (b2i_n0.mpr hf), ck_nI (by omega) (by omega), ck_nI (by omega) (by omega), ck_nI (by omega) (by omega), q2, c_more (by omega), bs, q1, hsteps w (by omega), nI_add, ← slo_inc (by omega), ← plc_inc (τ := T k) (src := src) (show w < 4 by omega)]
            have hV2 := hVk.inc hw (w := w) (by omega) hl (by omega)
            have hf2 : fr (plc ic src (inc (T k) w)) = true := by rw [plc_inc (by omega)]; exact hf
            have hsm2 : ∀ i, i < n → sm4 (T i) ≤ sm4 (inc (T k) w) := fun i hi => by rw [sm4_inc (by omega)]; exact hsm i hi
            obtain ⟨T2, n2, s2, l2, t2, p2, r1, r2, r3, r4, ⟨i2, r5, r6⟩, r7, r8⟩ := c_reach (N := N) hw hT hV2 hf2 ⟨k, w, hk, by omega, ⟨hl, by omega, hf⟩, fun _ _ => rfl⟩ hsm2
            rw [r1, bs, nI_1]
            have hTk := r4 k hk
            obtain ⟨T3, n3, s3, l3, t3, p3, e1, e2, e3, e4, e5, e6⟩ := ih (w + 1) T2 n2 s2 l2 t2 p2 (by omega) (by omega) (by omega) r2 (fun a v ha hv hav hok => by
              have hak : a ≤ k := by omega
              have hTa := r4 a (by omega)
              rw [hTa] at hok
              by_cases e : a = k ∧ v = w
              · obtain ⟨x1, x2⟩ := e
                subst x1
                subst x2
                refine ⟨i2, r5, ?_, by rw [hTa]; exact r6⟩
                rcases Nat.lt_or_ge a i2 with g | g
                · exact g
                · exfalso
                  have g1 := hT.2.2.2.2.1 i2 a g hk
                  have g2 := eq4_sm r6
                  rw [r4 i2 (by omega), sm4_inc (by omega)] at g2
                  omega
              · obtain ⟨i, j1, j2, j3⟩ := hC a v (by omega) hv (by omega) hok
                exact ⟨i, by omega, j2, by rw [r4 i j1, hTa]; exact j3⟩) (fun i hi2 => by
              rw [hTk]
              rcases Nat.lt_or_ge i n with g | g
              · rw [r4 i g]
                exact hsm i g
              · rw [r7 i g hi2, sm4_inc (by omega)]
                exact Nat.le_refl _)
            exact ⟨T3, n3, s3, l3, t3, p3, e1, e2, e3, by omega, fun i hi2 => by rw [e5 i (by omega), r4 i hi2], e6⟩
          · rw [if_pos (b2i_0.mpr (by simpa using hf))]
            exact hskip (fun h => hf h.2.2)
      · rw [if_pos (b2i_0.mpr (decide_eq_false hl))]
        exact hskip (fun h => hl h.1)
theorem c_L90 (hN : 5000 < N) (hw : WI W ic src to) (hm : ∀ v, v < 4 → m v ≤ 99) (hi : ∀ v, v < 4 → inches v = nI (ic v)) (hma : ∀ v, v < 4 → many v = nI (m v)) (hfree : ∀ x, x ≤ to → free x = b2i (fr x)) (hsteps : ∀ v, v < 4 → steps v = nI (stepsN (rdx W ic m) v)) :
    ∀ (f k : Nat) (T : Nat → Nat → Nat) (n : Nat) (sos slots takes places : Nat → Int32), k ≤ n → 1821 ≤ k + f → TI W ic m fr src to T n sos slots takes places → CLO W ic m fr src to T n k 0 → (k < n → ∀ i, i < n → sm4 (T i) ≤ sm4 (T k) + 1) →
    ∃ (T' : Nat → Nat → Nat) (n' : Nat) (sos' slots' takes' places' : Nat → Int32), f_X6_spread_L90 N free steps (nI to) inches many laid slates (nI W) lap f (nI k) sos slots takes places (nI n) = some (free, steps, sos', slots', takes', places', nI n', nI to) ∧ TI W ic m fr src to T' n' sos' slots' takes' places' ∧ CLO W ic m fr src to T' n' n' 0 := by
  intro f
  induction f with
  | zero =>
    intro k T n sos slots takes places h1 h2 hT
    have := hT.2.2.2.2.2.1
    omega
  | succ f ih =>
    intro k T n sos slots takes places h1 h2 hT hC hsm
    have h6 := hT.2.2.2.2.2.1
    rw [f_X6_spread_L90]
    by_cases hk : k = n
    · rw [hk, if_pos (nI_le (Nat.le_refl _) (by omega))]
      rw [hk] at hC
      exact ⟨T, n, sos, slots, takes, places, rfl, hT, hC⟩
    · have hW4 := hw.1
      rw [if_neg (nI_ge (by omega) (by omega)), if_neg (show ¬ (1820 : Int32) ≤ nI k from nI_ge (b := 1820) (by omega) (by omega))]
      obtain ⟨T2, n2, s2, l2, t2, p2, e1, e2, e3, e4, e5, e6⟩ := c_L110 (N := N) (laid := laid) (slates := slates) (lap := lap) (K := fun z0 z1 z2 z3 z4 z5 => f_X6_spread_L90 N free steps (nI to) inches many laid slates (nI W) lap f z0 z1 z2 z3 z4 z5) hw hm hi hma hfree hsteps (k := k) N 0 T n sos slots takes places (by omega) (by omega) (by omega) hT hC (hsm (by omega))
      refine Eq.substr (p := fun z => ∃ (T' : Nat → Nat → Nat) (n' : Nat) (sos' slots' takes' places' : Nat → Int32), z = some (free, steps, sos', slots', takes', places', nI n', nI to) ∧ TI W ic m fr src to T' n' sos' slots' takes' places' ∧ CLO W ic m fr src to T' n' n' 0) e1 ?_
      exact ih (k + 1) T2 n2 s2 l2 t2 p2 (by omega) (by omega) e2 e3 (fun hlt i hi2 => by
        have g1 := e6 i hi2
        have g2 := e2.2.2.2.2.1 k (k + 1) (by omega) hlt
        omega)
end SPR2
