/-! ===== steps, and all takes that can be reached ===== -/
def pr (b : Nat → Nat) : Nat → Nat
  | 0 => 1
  | j + 1 => pr b j * b j
theorem stepsN_pr {b : Nat → Nat} {w : Nat} (hw : w < 4) : stepsN b w = pr b w := by
  have hq : w = 0 ∨ w = 1 ∨ w = 2 ∨ w = 3 := by omega
  rcases hq with rfl | rfl | rfl | rfl <;> simp [stepsN, pr]
section SPR
variable {N W : Nat} {ic m : Nat → Nat} {fr : Nat → Bool} {src to : Nat} {inches many : Nat → Int32}
theorem c_setSteps_L (hW : W ≤ 4) (hic : ∀ v, v < W → 5 ≤ ic v ∧ ic v ≤ 30) (hm : ∀ v, v < 4 → m v ≤ 99) (hi : ∀ v, v < 4 → inches v = nI (ic v)) (hma : ∀ v, v < 4 → many v = nI (m v)) : ∀ (n j : Nat) (steps : Nat → Int32), j ≤ 4 → 4 < j + n → (∀ v, v < j → steps v = nI (pr (rdx W ic m) v)) →
    ∃ steps', f_X6_setSteps_L4 N inches many (nI W) n (nI (pr (rdx W ic m) j)) (nI j) steps = some steps' ∧ ∀ v, v < 4 → steps' v = nI (pr (rdx W ic m) v) := by
  intro n
  induction n with
  | zero => intro j steps h1 h2; omega
  | succ n ih =>
    intro j steps h1 h2 hs
    rw [f_X6_setSteps_L4]
    by_cases hj : j = 4
    · rw [hj, if_pos (by decide)]
      exact ⟨steps, rfl, fun v hv => hs v (by omega)⟩
    · have hnew : ∀ v, v < j + 1 → (upd steps j (nI (pr (rdx W ic m) j))) v = nI (pr (rdx W ic m) v) := by
        intro v hv
        by_cases e : v = j
        · subst e
          rw [pk_us]
        · rw [pk_un e]
          exact hs v (by omega)
      rw [if_neg (show ¬ (4 : Int32) ≤ nI j from nI_ge (b := 4) (by omega) (by omega)), ck_nI (by omega) (by omega), cl_nI (by omega)]
      by_cases hw : W ≤ j
      · rw [if_pos (nI_le hw (by omega)), nI_1]
        have e : pr (rdx W ic m) (j + 1) = pr (rdx W ic m) j := by
          show pr (rdx W ic m) j * rdx W ic m j = _
          rw [show rdx W ic m j = 1 from if_neg (by omega), Nat.mul_one]
        have := ih (j + 1) _ (by omega) (by omega) hnew
        rw [e] at this
        exact this
      · have h5 := hic j (by omega)
        have hm9 := hm j (by omega)
        have hd60 : 60 / ic j ≤ 12 := by
          have := Nat.div_le_div_left h5.1 (show 0 < 5 by omega) (a := 60)
          omega
        rw [if_neg (nI_ge (by omega) (by omega)), ck_nI (by omega) (by omega), hi j (by omega), if_neg (nI_nle (by omega) (by omega)), ck_nI (by omega) (by omega), ck_nI (by omega) (by omega), show nz (nI (ic j)) = true from decide_eq_true (nI_ne0 (by omega) (by omega)), ck_t, hma j (by omega), show (60 : Int32) = nI 60 from rfl, pk_div (by omega) (by omega) (by omega)]
        have e : nI (pr (rdx W ic m) j) * (mn (nI (m j)) (nI (60 / ic j)) + 1) = nI (pr (rdx W ic m) (j + 1)) := by
          show _ = nI (pr (rdx W ic m) j * rdx W ic m j)
          have hmn : mn (nI (m j)) (nI (60 / ic j)) = nI (if m j ≤ 60 / ic j then m j else 60 / ic j) := by
            unfold mn
            by_cases hq : m j ≤ 60 / ic j
            · rw [if_neg (nI_nlt hq (by omega)), if_pos hq]
            · rw [if_pos (nI_lt (by omega) (by omega)), if_neg hq]
          rw [hmn, nI_1, pk_mul, show rdx W ic m j = (if m j ≤ 60 / ic j then m j else 60 / ic j) + 1 from if_pos (by omega)]
        rw [e, nI_1]
        exact ih (j + 1) _ (by omega) (by omega) hnew
theorem c_setSteps (hN : 20 < N) (hW : W ≤ 4) (hic : ∀ v, v < W → 5 ≤ ic v ∧ ic v ≤ 30) (hm : ∀ v, v < 4 → m v ≤ 99) (hi : ∀ v, v < 4 → inches v = nI (ic v)) (hma : ∀ v, v < 4 → many v = nI (m v)) (steps : Nat → Int32) :
    ∃ steps', f_X6_setSteps N steps inches many (nI W) = some steps' ∧ ∀ v, v < 4 → steps' v = nI (stepsN (rdx W ic m) v) := by
  obtain ⟨s', e, h⟩ := c_setSteps_L (N := N) hW hic hm hi hma N 0 steps (by omega) (by omega) (fun v hv => by omega)
  exact ⟨s', e, fun v hv => by rw [h v hv, stepsN_pr hv]⟩
variable {T : Nat → Nat → Nat} {n : Nat} {sos slots takes places : Nat → Int32}
theorem c_hasLeft (hw : WI W ic src to) (h : TI W ic m fr src to T n sos slots takes places) (hm : ∀ v, v < 4 → m v ≤ 99) (hma : ∀ v, v < 4 → many v = nI (m v)) {k w : Nat} (hk : k < n) (hw4 : w < 4) : f_X6_hasLeft N takes many (nI k) (nI w) = some (decide (T k w < m w)) := by
  unfold f_X6_hasLeft
  have h6 := h.2.2.2.2.2.1
  have hv := (h.1 k hk).1
  have hl := hv.le15 hw w hw4
  have hmb := hm w hw4
  rw [ck_nI (by omega) (by omega), cl_nI (by omega), (h.2.1 k hk).2.1, c_of (fun v q => Nat.le_trans (hv.le15 hw v q) (by omega)) hw4, bs, ck_nI hw4 (by omega), cl_nI (by omega), hma w hw4]
  by_cases q : T k w < m w
  · rw [if_neg (nI_ge q (by omega)), decide_eq_true q]
  · rw [if_pos (nI_le (by omega) (by omega)), decide_eq_false q]
theorem VT.inc (hw : WI W ic src to) {τ : Nat → Nat} (h : VT W ic m src to τ) {w : Nat} (hwW : w < W) (h1 : τ w < m w) (h2 : plc ic src τ + ic w ≤ to) : VT W ic m src to (inc τ w) := by
  refine ⟨fun v hv hW => ?_, fun v hv => ?_, ?_⟩
  · show (if v = w then τ v + 1 else τ v) = 0
    rw [if_neg (by omega)]
    exact h.1 v hv hW
  · show (if v = w then τ v + 1 else τ v) ≤ m v
    by_cases e : v = w
    · subst e
      rw [if_pos rfl]
      omega
    · rw [if_neg e]
      exact h.2.1 v hv
  · rw [plc_inc (by have := hw.1; omega)]
    exact h2
/-- from every take ahead of k, and from k by the widths ahead of w, the next takes are there, behind it -/
def CLO (W : Nat) (ic m : Nat → Nat) (fr : Nat → Bool) (src to : Nat) (T : Nat → Nat → Nat) (n k w : Nat) : Prop := ∀ a v, a < n → v < W → (a < k ∨ (a = k ∧ v < w)) → okS ic m fr src to (T a) v → ∃ i, i < n ∧ a < i ∧ eq4 (T i) (inc (T a) v)
end SPR
