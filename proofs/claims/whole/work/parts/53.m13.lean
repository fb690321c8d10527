/-! ===== spread as a whole ===== -/
def frB (s : Nat → Int32) (row src to x : Nat) : Bool := decide (x = to) || (decide (src < x) && mayB s row x)
section SPR3
variable {N : Nat} {i m w l d t : Nat → Int32} {x y z : Int32} {s : Nat → Int32}
theorem c_L19 (E : Enc i m w l d t x y z s) (h : Sm s) (hN : 5000 < N) {row src to : Nat} (hr : row < 6) (hto : to ≤ 60) (hd : ∀ q, q < 6 → ld s q ≤ 12) (hs : ∀ q k, q < 6 → k < ld s q → sl s q k < 4) (hsrc : src < 1000) {steps sos slots takes places : Nat → Int32} {states : Int32} :
    ∀ (f j : Nat) (free : Nat → Int32), j ≤ to + 1 → to + 1 < j + f → (∀ q, q < j → free q = b2i (frB s row src to q)) →
    ∃ free', (∀ q, q ≤ to → free' q = b2i (frB s row src to q)) ∧ f_X6_spread_L19 N steps sos slots takes places states (nI to) i m d t x z (nI row) (nI src) f (nI j) free = (f_X6_setSteps N steps i m x).bind fun r_2 => (f_X6_reach N sos slots takes places 0 0 0 (nI src)).bind fun r_3 => f_X6_spread_L90 N free' r_2 (nI to) i m d t x z N 0 r_3.1 r_3.2.1 r_3.2.2.1 r_3.2.2.2.1 r_3.2.2.2.2 := by
  intro f
  induction f with
  | zero => intro j free h1 h2; omega
  | succ f ih =>
    intro j free h1 h2 hfr
    rw [f_X6_spread_L19]
    by_cases hj : j = to + 1
    · rw [if_pos (nI_lt (by omega) (by omega))]
      exact ⟨free, fun q hq => hfr q (by omega), rfl⟩
    · rw [if_neg (nI_nlt (by omega) (by omega))]
      have hstep : ∀ v : Int32, v = b2i (frB s row src to j) → ∀ q, q < j + 1 → (upd free j v) q = b2i (frB s row src to q) := by
        intro v hv q hq
        by_cases e : q = j
        · subst e
          rw [pk_us, hv]
        · rw [pk_un e]
          exact hfr q (by omega)
      by_cases hjt : j = to
      · rw [if_pos (by rw [hjt]), ck_nI (by omega) (by omega), cl_nI (by omega), nI_1]
        exact ih (j + 1) _ (by omega) (by omega) (hstep _ (by unfold frB; rw [decide_eq_true hjt, Bool.true_or]; decide))
      · rw [if_neg (fun e => hjt ((nI_eq (by omega) (by omega)).mp e))]
        by_cases hjs : j ≤ src
        · rw [if_pos (nI_le hjs (by omega)), ck_nI (by omega) (by omega), cl_nI (by omega), nI_1]
          exact ih (j + 1) _ (by omega) (by omega) (hstep _ (by unfold frB; rw [decide_eq_false hjt, decide_eq_false (by omega), Bool.false_or, Bool.false_and]; decide))
        · rw [if_neg (nI_ge (by omega) (by omega)), c_allowsJoint E h hr (by omega) hd hs (by omega), bs]
          by_cases hmy : mayB s row j = true
          · rw [if_neg (b2i_n0.mpr hmy), ck_nI (by omega) (by omega), cl_nI (by omega), nI_1]
            exact ih (j + 1) _ (by omega) (by omega) (hstep _ (by unfold frB; rw [decide_eq_false hjt, decide_eq_true (by omega), hmy]; decide))
          · have hmy : mayB s row j = false := by simpa using hmy
            rw [if_pos (b2i_0.mpr hmy), ck_nI (by omega) (by omega), cl_nI (by omega), nI_1]
            exact ih (j + 1) _ (by omega) (by omega) (hstep _ (by unfold frB; rw [decide_eq_false hjt, decide_eq_true (by omega), hmy]; decide))
theorem c_reach0 {sos slots takes places : Nat → Int32} {src : Nat} (hso : ∀ q, q < 10296 → ∃ k, k < 1820 ∧ sos q = nI k) : f_X6_reach N sos slots takes places 0 0 0 (nI src) = some (upd sos 0 (nI 0), upd slots 0 (nI 0), upd takes 0 (nI 0), upd places 0 (nI src), nI 1) := by
  obtain ⟨k, hk, e⟩ := hso 0 (by omega)
  have hst : f_X6_stateAt N sos slots 0 0 = some (-1) := by
    unfold f_X6_stateAt
    rw [if_neg (by decide), if_pos (by decide), show gi 0 10296 = true by decide, ck_t, show ((0 : Int32).toNatClampNeg) = 0 by decide, e, if_pos (nI_pos' (by omega))]
  unfold f_X6_reach
  rw [if_neg (by decide), if_neg (by decide), hst, bs, if_neg (by decide), if_neg (by decide), show gi 0 10296 = true by decide, ck_t, show gi 0 1820 = true by decide, ck_t, ck_t, ck_t]
  rfl
/-- all that spread leaves: every take that can be reached, each behind those that lead to it -/
theorem c_spread (E : Enc i m w l d t x y z s) (hG : Gd s) (hI : ∀ v, v < wide s → inch s v ≤ 30) (hdist : ∀ v u, v < wide s → u < wide s → inch s v = inch s u → v = u) (hN : 5000 < N) {row src to : Nat} (hr : row < 6) (hto : to ≤ 60) (hsrc : src ≤ to) {free steps sos slots takes places : Nat → Int32} {states wto : Int32} (hso : ∀ q, q < 10296 → ∃ k, k < 1820 ∧ sos q = nI k) :
    ∃ (T : Nat → Nat → Nat) (n : Nat) (free' steps' sos' slots' takes' places' : Nat → Int32), f_X6_spread N free steps sos slots takes places states wto i m d t x z (nI row) (nI src) (nI to) = some (free', steps', sos', slots', takes', places', nI n, nI to) ∧ (∀ v, v < 4 → steps' v = nI (stepsN (rdx (wide s) (inch s) (mny s)) v)) ∧ TI (wide s) (inch s) (mny s) (frB s row src to) src to T n sos' slots' takes' places' ∧ CLO (wide s) (inch s) (mny s) (frB s row src to) src to T n n 0 := by
  obtain ⟨hS, hW, h5, hD, hL⟩ := hG
  have hic : ∀ v, v < wide s → 5 ≤ inch s v ∧ inch s v ≤ 30 := fun v hv => ⟨h5 v hv, hI v hv⟩
  have hw : WI (wide s) (inch s) src to := ⟨hW, hto, hsrc, hic, hdist⟩
  have hm : ∀ v, v < 4 → mny s v ≤ 99 := fun v hv => mny_le hS (by omega)
  unfold f_X6_spread
  have hmn : mn (nI to) 60 = nI to := by
    unfold mn
    rw [if_neg (show ¬ (60 : Int32) < nI to from nI_nlt (a := 60) (by omega) (by omega))]
  rw [hmn]
  obtain ⟨free', hf1, hf2⟩ := c_L19 (N := N) E hS hN hr hto hD hL (show src < 1000 by omega) (steps := steps) (sos := sos) (slots := slots) (takes := takes) (places := places) (states := states) N 0 free (by omega) (by omega) (fun q hq => by omega)
  rw [show (0 : Int32) = nI 0 from rfl]
  rw [show (0 : Int32) = nI 0 from rfl] at hf2
  rw [hf2]
  have ex := E.wide hS
  obtain ⟨steps', hs1, hs2⟩ := c_setSteps (N := N) (by omega) hW hic hm (fun v hv => E.inch hS hv) (fun v hv => E.mny hS hv) steps
  rw [← ex] at hs1
  have hr0 := c_reach0 (N := N) (slots := slots) (takes := takes) (places := places) (src := src) hso
  rw [show (0 : Int32) = nI 0 from rfl] at hr0
  rw [hs1, bs, hr0, bs]
  have hT0 : TI (wide s) (inch s) (mny s) (frB s row src to) src to (fun _ _ => 0) 1 (upd sos 0 (nI 0)) (upd slots 0 (nI 0)) (upd takes 0 (nI 0)) (upd places 0 (nI src)) := by
    refine ⟨fun k hk => ⟨⟨fun _ _ _ => rfl, fun _ _ => Nat.zero_le _, ?_⟩, Or.inl (by omega)⟩, fun k hk => ?_, fun j k hj hk _ => by omega, ⟨Nat.le_refl _, fun _ _ => rfl⟩, fun j k _ _ => Nat.le_refl _, by omega, fun q hq => ?_⟩
    · show src + (0 * inch s 0 + 0 * inch s 1 + 0 * inch s 2 + 0 * inch s 3) ≤ to
      omega
    · have hk0 : k = 0 := by omega
      subst hk0
      have e1 : slo (rdx (wide s) (inch s) (mny s)) (fun _ => 0) = 0 := by simp [slo]
      have e2 : plc (inch s) src (fun _ => 0) = src := by simp [plc]
      show upd slots 0 (nI 0) 0 = nI (slo (rdx (wide s) (inch s) (mny s)) (fun _ => 0)) ∧ upd takes 0 (nI 0) 0 = nI (cod (fun _ => 0)) ∧ upd places 0 (nI src) 0 = nI (plc (inch s) src (fun _ => 0)) ∧ upd sos 0 (nI 0) (slo (rdx (wide s) (inch s) (mny s)) (fun _ => 0)) = nI 0
      rw [e1, e2, pk_us, pk_us, pk_us, pk_us]
      exact ⟨rfl, rfl, rfl, rfl⟩
    · by_cases e : q = 0
      · subst e
        rw [pk_us]
        exact ⟨0, by omega, rfl⟩
      · rw [pk_un e]
        exact hso q hq
  obtain ⟨T, n, s2, l2, t2, p2, e1, e2, e3⟩ := c_L90 (N := N) (laid := d) (slates := t) (lap := z) hN hw hm (fun v hv => E.inch hS hv) (fun v hv => E.mny hS hv) hf1 hs2 N 0 (fun _ _ => 0) 1 (upd sos 0 (nI 0)) (upd slots 0 (nI 0)) (upd takes 0 (nI 0)) (upd places 0 (nI src)) (by omega) (by omega) hT0 (fun a v ha hv hav _ => by omega) (fun _ i _ => Nat.zero_le _)
  rw [← ex] at e1
  exact ⟨T, n, free', steps', s2, l2, t2, p2, e1, hs2, e2, e3⟩
end SPR3
