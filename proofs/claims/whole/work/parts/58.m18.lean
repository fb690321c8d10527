/-! ===== following the first order ===== -/
def fw (P : Nat → Bool) (j : Nat) : Nat → Option Nat
  | 0 => none
  | k + 1 => if P j = true then some j else fw P (j + 1) k
def selc (aim v g : Nat) : Bool := if aim = 0 then decide (0 < v) else decide (v < 1000000) && decide (v = g)
def live (aim g : Nat) : Prop := if aim = 0 then 0 < g else g < 1000000
theorem fw_some {P : Nat → Bool} : ∀ {k j w : Nat}, fw P j k = some w → j ≤ w ∧ w < j + k ∧ P w = true ∧ ∀ v, j ≤ v → v < w → P v = false
  | 0, j, w, h => by cases h
  | k + 1, j, w, h => by
    rw [fw] at h
    by_cases hp : P j = true
    · rw [if_pos hp] at h
      cases h
      exact ⟨Nat.le_refl _, by omega, hp, fun v h1 h2 => by omega⟩
    · rw [if_neg hp] at h
      obtain ⟨h1, h2, h3, h4⟩ := fw_some h
      refine ⟨by omega, by omega, h3, fun v g1 g2 => ?_⟩
      by_cases e : v = j
      · subst e
        simpa using hp
      · exact h4 v (by omega) g2
theorem fw_none {P : Nat → Bool} : ∀ {k j : Nat}, fw P j k = none → ∀ v, j ≤ v → v < j + k → P v = false
  | 0, j, _, v, h1, h2 => by omega
  | k + 1, j, h, v, h1, h2 => by
    rw [fw] at h
    by_cases hp : P j = true
    · rw [if_pos hp] at h
      cases h
    · rw [if_neg hp] at h
      by_cases e : v = j
      · subst e
        simpa using hp
      · exact fw_none h v (by omega) (by omega)
theorem acc_sel {aim : Nat} {f : Nat → Nat} : ∀ W, live aim (acc aim f W) → ∃ w, w < W ∧ selc aim (f w) (acc aim f W) = true := by
  intro W
  by_cases h0 : aim = 0
  · induction W with
    | zero =>
      intro h
      unfold live at h
      rw [if_pos h0] at h
      have e : acc aim f 0 = 0 := by
        show noV aim = 0
        exact if_pos h0
      omega
    | succ W ih =>
      intro h
      have e : acc aim f (W + 1) = acc aim f W + f W := if_pos h0
      by_cases hf : 0 < f W
      · exact ⟨W, by omega, by unfold selc; rw [if_pos h0]; exact decide_eq_true hf⟩
      · unfold live at h
        rw [if_pos h0] at h
        obtain ⟨w, h1, h2⟩ := ih (by unfold live; rw [if_pos h0]; omega)
        refine ⟨w, by omega, ?_⟩
        unfold selc at h2 ⊢
        rw [if_pos h0] at h2 ⊢
        exact h2
  · have key : ∀ W, acc aim f W < 1000000 → ∃ w, w < W ∧ f w = acc aim f W := by
      intro W
      induction W with
      | zero =>
        intro h
        have e : acc aim f 0 = 1000000 := by
          show noV aim = _
          exact if_neg h0
        omega
      | succ W ih =>
        intro h
        have e : acc aim f (W + 1) = min (acc aim f W) (f W) := if_neg h0
        by_cases hle : f W ≤ acc aim f W
        · exact ⟨W, by omega, by omega⟩
        · obtain ⟨w, h1, h2⟩ := ih (by omega)
          exact ⟨w, by omega, by omega⟩
    intro h
    unfold live at h
    rw [if_neg h0] at h
    obtain ⟨w, h1, h2⟩ := key W h
    refine ⟨w, h1, ?_⟩
    unfold selc
    rw [if_neg h0, decide_eq_true h2, decide_eq_true (show f w < 1000000 by omega)]
    rfl
def fpath (W : Nat) (ic wr : Nat → Nat) (fr : Nat → Bool) (to aim : Nat) (ve : Nat → Nat) : Nat → (Nat → Nat) → Nat → List Nat
  | 0, _, _ => []
  | d + 1, m, p => match fw (fun w => selc aim (vthM ic wr fr to aim ve m p (fun w => gv W ic wr fr to aim ve d (dec m w) (p + ic w)) w) (gv W ic wr fr to aim ve (d + 1) m p)) 0 W with
    | none => []
    | some w => if to ≤ p + ic w then [w] else w :: fpath W ic wr fr to aim ve d (dec m w) (p + ic w)
section FOL
variable {N W : Nat} {ic m wr : Nat → Nat} {fr : Nat → Bool} {src to aim : Nat} {inches many worth : Nat → Int32} {T : Nat → Nat → Nat} {n : Nat} {sos slots takes places steps values : Nat → Int32} {last : Int32} {ve : Nat → Nat}
theorem c_fwf_L (hN : 20 < N) (hW : W ≤ 4) (ha : aim < 3) {vt : Nat → Nat} {k g : Nat} (hk : k < 1820) (hg : values k = nI g) (hg2 : g ≤ 200000000) (hvt : ∀ w, w < W → f_X6_valueThrough N steps sos slots takes places values (nI n) (nI to) (nI aim) last inches many worth (nI k) (nI w) = some (nI (vt w)) ∧ vt w ≤ 200000000) :
    ∀ (f j : Nat), j ≤ W → W < j + f → f_X6_firstWidthFrom_L2 N steps sos slots takes places values (nI n) (nI to) (nI aim) last inches many worth (nI W) (nI k) f (nI j) = some (match fw (fun w => selc aim (vt w) g) j (W - j) with | none => -1 | some w => nI w) := by
  intro f
  induction f with
  | zero => intro j h1 h2; omega
  | succ f ih =>
    intro j h1 h2
    rw [f_X6_firstWidthFrom_L2]
    by_cases hj : j = W
    · rw [hj, if_pos (nI_le (Nat.le_refl _) (by omega)), Nat.sub_self]
      rfl
    · obtain ⟨e1, e2⟩ := hvt j (by omega)
      rw [if_neg (nI_ge (by omega) (by omega)), e1, bs, show W - j = (W - (j + 1)) + 1 by omega, fw]
      have hrec := ih (j + 1) (by omega) (by omega)
      by_cases h0 : aim = 0
      · rw [if_pos (by rw [h0]; rfl)]
        unfold selc at hrec ⊢
        simp only [if_pos h0] at hrec ⊢
        by_cases hz : vt j = 0
        · rw [hz, if_pos (by decide), if_neg (by simp), nI_1]
          exact hrec
        · rw [if_neg (nI_nle (by omega) (by omega)), if_pos (decide_eq_true (by omega))]
      · rw [if_neg (nI_ne0 (by omega) (by omega))]
        unfold selc at hrec ⊢
        simp only [if_neg h0] at hrec ⊢
        by_cases hb : 1000000 ≤ vt j
        · rw [if_pos (show (1000000 : Int32) ≤ nI (vt j) from nI_le (a := 1000000) hb (by omega)), if_neg (by simp; omega), nI_1]
          exact hrec
        · rw [if_neg (show ¬ (1000000 : Int32) ≤ nI (vt j) from nI_ge (b := 1000000) (by omega) (by omega)), ck_nI hk (by omega), cl_nI (by omega), hg]
          by_cases he : vt j = g
          · rw [if_pos (by rw [he]), if_pos (by simp [he]; omega)]
          · rw [if_neg (fun z => he ((nI_eq (by omega) (by omega)).mp z)), if_neg (by simp [he]), nI_1]
            exact hrec
end FOL
