/-! ===== looking a take up, and adding one ===== -/
section TAB3
variable {N W : Nat} {ic m : Nat → Nat} {fr : Nat → Bool} {src to : Nat} {T : Nat → Nat → Nat} {n : Nat} {sos slots takes places : Nat → Int32}
theorem c_stateAt_in (hw : WI W ic src to) (h : TI W ic m fr src to T n sos slots takes places) {i : Nat} (hi : i < n) : f_X6_stateAt N sos slots (nI n) (nI (slo (rdx W ic m) (T i))) = some (nI i) := by
  obtain ⟨h1, h2, h3, h4, h5, h6, h7⟩ := h
  have hb := (h1 i hi).1.slo hw
  obtain ⟨q1, q2, q3, q4⟩ := h2 i hi
  unfold f_X6_stateAt
  rw [if_neg (nI_pos (by omega)), if_pos (show nI _ < 10296 from nI_lt (b := 10296) hb (by omega)), ck_nI hb (by omega), cl_nI (by omega), q4, if_neg (nI_ge hi (by omega)), ck_nI (by omega) (by omega), cl_nI (by omega), q1, if_pos rfl]
theorem c_stateAt_out (hw : WI W ic src to) (h : TI W ic m fr src to T n sos slots takes places) {υ : Nat → Nat} (hv : VT W ic m src to υ) (ho : ∀ i, i < n → ¬ eq4 (T i) υ) : f_X6_stateAt N sos slots (nI n) (nI (slo (rdx W ic m) υ)) = some (-1) := by
  obtain ⟨h1, h2, h3, h4, h5, h6, h7⟩ := h
  have hb := hv.slo hw
  unfold f_X6_stateAt
  obtain ⟨k, hk, hs⟩ := h7 _ hb
  rw [if_neg (nI_pos (by omega)), if_pos (show nI _ < 10296 from nI_lt (b := 10296) hb (by omega)), ck_nI hb (by omega), cl_nI (by omega), hs]
  by_cases hkn : n ≤ k
  · rw [if_pos (nI_le hkn (by omega))]
  · rw [if_neg (nI_ge (by omega) (by omega)), ck_nI hk (by omega), cl_nI (by omega), (h2 k (by omega)).1, if_neg ?_]
    intro e
    have hb2 := (h1 k (by omega)).1.slo hw
    have e2 := (nI_eq (by omega) (by omega)).mp e
    exact ho k (by omega) (slo_inj ((h1 k (by omega)).1.dig hw) (hv.dig hw) e2)
/-- the tables behind reach: as they were, if the take is there; else one take more -/
theorem c_reach (hw : WI W ic src to) (h : TI W ic m fr src to T n sos slots takes places) {υ : Nat → Nat} (hv : VT W ic m src to υ) (hf : fr (plc ic src υ) = true) (hpre : ∃ a v, a < n ∧ v < W ∧ okS ic m fr src to (T a) v ∧ eq4 υ (inc (T a) v)) (hsm : ∀ i, i < n → sm4 (T i) ≤ sm4 υ) :
    ∃ (T' : Nat → Nat → Nat) (n' : Nat) (sos' slots' takes' places' : Nat → Int32), f_X6_reach N sos slots takes places (nI n) (nI (slo (rdx W ic m) υ)) (nI (cod υ)) (nI (plc ic src υ)) = some (sos', slots', takes', places', nI n') ∧ TI W ic m fr src to T' n' sos' slots' takes' places' ∧ n ≤ n' ∧ (∀ k, k < n → T' k = T k) ∧ (∃ i, i < n' ∧ eq4 (T' i) υ) ∧ (∀ i, n ≤ i → i < n' → sm4 (T' i) = sm4 υ) ∧ n' ≤ n + 1 := by
  have hb := hv.slo hw
  have hpl := hv.2.2
  unfold f_X6_reach
  rw [if_neg (nI_pos (by omega)), if_neg (show ¬ (10296 : Int32) ≤ nI _ from nI_ge (b := 10296) hb (by omega))]
  by_cases hin : ∃ i, i < n ∧ eq4 (T i) υ
  · obtain ⟨i, hi, he⟩ := hin
    have hs := c_stateAt_in (N := N) hw h hi
    rw [eq4_slo he] at hs
    have h6 := h.2.2.2.2.2.1
    rw [hs, bs, if_pos (nI_pos' (by omega))]
    exact ⟨T, n, sos, slots, takes, places, rfl, h, Nat.le_refl _, fun _ _ => rfl, ⟨i, hi, he⟩, fun j h1 h2 => by omega, by omega⟩
  · have ho : ∀ i, i < n → ¬ eq4 (T i) υ := fun i hi he => hin ⟨i, hi, he⟩
    rw [c_stateAt_out hw h hv ho, bs, if_neg (by decide)]
    obtain ⟨h1, h2, h3, h4, h5, h6, h7⟩ := h
    -- there is room
    have hroom : n + 1 ≤ 1820 := by
      refine few_takes (fun k => if k < n then T k else υ) (n + 1) (fun k hk => ?_) (fun j k hj hk e => ?_)
      · by_cases hkn : k < n
        · simp only [if_pos hkn]
          exact (h1 k hkn).1.sum hw
        · simp only [if_neg hkn]
          exact hv.sum hw
      · by_cases hjn : j < n
        · by_cases hkn : k < n
          · simp only [if_pos hjn, if_pos hkn] at e
            exact h3 j k hjn hkn e
          · simp only [if_pos hjn, if_neg hkn] at e
            exact absurd (cod_inj (fun v q => Nat.le_trans ((h1 j hjn).1.le15 hw v q) (by omega)) (fun v q => Nat.le_trans (hv.le15 hw v q) (by omega)) e) (ho j hjn)
        · by_cases hkn : k < n
          · simp only [if_neg hjn, if_pos hkn] at e
            exact absurd (cod_inj (fun v q => Nat.le_trans ((h1 k hkn).1.le15 hw v q) (by omega)) (fun v q => Nat.le_trans (hv.le15 hw v q) (by omega)) e.symm) (ho k hkn)
          · omega
    rw [if_neg (show ¬ (1820 : Int32) ≤ nI n from nI_ge (b := 1820) (by omega) (by omega)), ck_nI hb (by omega), ck_nI (by omega) (by omega), ck_nI (by omega) (by omega), ck_nI (by omega) (by omega), cl_nI (by omega), cl_nI (by omega), nI_1]
    have hT : ∀ k, k < n → (fun k => if k < n then T k else υ) k = T k := fun k hk => if_pos hk
    have hTn : (fun k => if k < n then T k else υ) n = υ := if_neg (by omega)
    refine ⟨fun k => if k < n then T k else υ, n + 1, _, _, _, _, rfl, ⟨fun k hk => ?_, fun k hk => ?_, fun j k hj hk e => ?_, ⟨by omega, ?_⟩, fun j k hjk hk => ?_, hroom, fun q hq => ?_⟩, by omega, fun k hk => if_pos hk, ⟨n, by omega, by rw [hTn]; exact fun _ _ => rfl⟩, fun i hi1 hi2 => by rw [show i = n by omega, hTn], by omega⟩
    · by_cases hkn : k < n
      · rw [hT k hkn]
        refine ⟨(h1 k hkn).1, (h1 k hkn).2.imp id (fun ⟨g1, a, v, g2, g3, g4, g5⟩ => ⟨g1, a, v, g2, g3, ?_, ?_⟩)⟩
        · rw [hT a (by omega)]
          exact g4
        · rw [hT a (by omega)]
          exact g5
      · obtain ⟨a, v, g2, g3, g4, g5⟩ := hpre
        rw [show k = n by omega, hTn]
        refine ⟨hv, Or.inr ⟨hf, a, v, g2, g3, ?_, ?_⟩⟩
        · rw [hT a g2]
          exact g4
        · rw [hT a g2]
          exact g5
    · by_cases hkn : k < n
      · rw [hT k hkn, pk_un (show k ≠ n by omega), pk_un (show k ≠ n by omega), pk_un (show k ≠ n by omega)]
        obtain ⟨q1, q2, q3, q4⟩ := h2 k hkn
        refine ⟨q1, q2, q3, ?_⟩
        rw [pk_un, q4]
        intro e
        exact ho k hkn (slo_inj ((h1 k hkn).1.dig hw) (hv.dig hw) e)
      · rw [show k = n by omega, hTn, pk_us, pk_us, pk_us, pk_us]
        exact ⟨rfl, rfl, rfl, rfl⟩
    · by_cases hjn : j < n
      · by_cases hkn : k < n
        · rw [hT j hjn, hT k hkn] at e
          exact h3 j k hjn hkn e
        · rw [hT j hjn, show k = n by omega, hTn] at e
          exact absurd (cod_inj (fun v q => Nat.le_trans ((h1 j hjn).1.le15 hw v q) (by omega)) (fun v q => Nat.le_trans (hv.le15 hw v q) (by omega)) e) (ho j hjn)
      · by_cases hkn : k < n
        · rw [hT k hkn, show j = n by omega, hTn] at e
          exact absurd (cod_inj (fun v q => Nat.le_trans ((h1 k hkn).1.le15 hw v q) (by omega)) (fun v q => Nat.le_trans (hv.le15 hw v q) (by omega)) e.symm) (ho k hkn)
        · omega
    · rw [hT 0 (by omega)]
      exact h4.2
    · by_cases hkn : k < n
      · rw [hT j (by omega), hT k hkn]
        exact h5 j k hjk hkn
      · rw [show k = n by omega, hTn]
        by_cases hjn : j < n
        · rw [hT j hjn]
          exact hsm j hjn
        · rw [show j = n by omega, hTn]
          exact Nat.le_refl _
    · by_cases hqe : q = slo (rdx W ic m) υ
      · subst hqe
        rw [pk_us]
        exact ⟨n, by omega, rfl⟩
      · rw [pk_un hqe]
        exact h7 q hq
end TAB3
