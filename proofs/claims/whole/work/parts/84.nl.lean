/-! ===== comes to the end; by as a call ===== -/
section CRS3
variable {N : Nat} {i m w l d t : Nat → Int32} {x y z : Int32} {s : Nat → Int32}
theorem decS_facts {r L : Nat} {v : Nat} (hv : v < 4) (h1 : len s r = L) (h2 : r < high s) : len (decS s v) r = L ∧ r < high (decS s v) := ⟨by rw [decS_len hv]; exact h1, by rw [decS_high]; exact h2⟩
theorem r_course (hN : 5000 < N) {r k fg L : Nat} (hk : k ≤ 6) (hfg : fg ≤ 9) (hL : L ≤ 60) : ∀ (f sl as P : Nat) (mj sj : Nat → Int32) (seed one two : Int32), 40 ≤ sl + as + f → 5 * sl ≤ P → P < 100 → as ≤ fg + 2 → Enc i mj w l d t x y z sj → Ok sj → r < high sj → len sj r = L →
    ∃ b sd P' sl' as' mj' sj' one' two', f_X0_comesToEnd_L2 N (nI r) (nI L) i d t x z (nI k) (nI fg) f (nI (sl + as)) seed (nI P) (nI sl) (nI as) mj = some (b, sd, P', sl', as', mj') ∧ f_X8_lays_L15 N (nI r) (nI k) (nI fg) f sj seed (nI as) (nI P) one two (nI sl) = some (b, sj', sd, as', P', one', two', sl') := by
  intro f
  induction f with
  | zero => intro sl as P mj sj seed one two h1 h2 h3 h4; omega
  | succ f ih =>
    intro sl as P mj sj seed one two h1 h2 h3 h4 E O hr hLs
    have h6 := O.h6
    have hw4 := O.w4
    rw [f_X0_comesToEnd_L2, f_X8_lays_L15, e_lengthOf O.S (by omega), bs, hLs]
    by_cases hend : L ≤ P
    · have e1 : (if (100 : Int32) ≤ nI (sl + as) then (if nI P < nI L then some (false, seed, nI P, nI sl, nI as, mj) else some (true, seed, nI P, nI sl, nI as, mj)) else (if nI P < nI L then some (false, seed, nI P, nI sl, nI as, mj) else some (true, seed, nI P, nI sl, nI as, mj))) = some (true, seed, nI P, nI sl, nI as, mj) := by
        rw [if_neg (nI_nlt hend (by omega)), ite_self]
      rw [if_pos (nI_le hend (by omega)), if_pos (nI_le hend (by omega)), e1]
      exact ⟨_, _, _, _, _, _, _, _, _, rfl, rfl⟩
    · rw [if_neg (show ¬ (100 : Int32) ≤ nI (sl + as) from nI_ge (b := 100) (by omega) (by omega)), if_neg (nI_ge (by omega) (by omega)), if_neg (nI_ge (by omega) (by omega))]
      obtain ⟨o, c1, c2, c3⟩ := r_chosen (N := N) (k := k) (fg := fg) (P := P) hN E O hr h3 hk
      rw [hLs] at c1
      rw [c1, bs, c2, bs]
      cases o with
      | none =>
        rw [if_pos (show encC none = -1 from rfl), if_neg (show ¬ (0 : Int32) ≤ encM none by decide)]
        exact ⟨_, _, _, _, _, _, _, _, _, rfl, rfl⟩
      | some v =>
        obtain ⟨hv, hmv⟩ := c3 v rfl
        have hpos := hpN_pos hv hmv
        rw [if_neg (show ¬ encC (some v) = -1 from nI_m1 (by omega)), if_pos (show (0 : Int32) ≤ encM (some v) from nI_pos' (by omega))]
        have hone : (nI (sl + as) + 1 = nI (sl + (as + 1))) ∧ (nI (sl + as) + 1 = nI (sl + 1 + as)) := ⟨by rw [nI_1, show sl + as + 1 = sl + (as + 1) by omega], by rw [nI_1, show sl + as + 1 = sl + 1 + as by omega]⟩
        -- a slate is laid
        have lay : ∀ (u : Nat) (mk : Nat → Int32) (sd one two : Int32), u < wide sj → mny sj u ≠ 0 → Enc i mk w l d t x y z (decS sj u) → ∃ b sd2 P' sl' as' mj' sj' one' two', (ck (gi (nI u) 4) (f_X0_comesToEnd_L2 N (nI r) (nI L) i d t x z (nI k) (nI fg) f (nI (sl + as) + 1) sd (nI P + i (nI u).toNatClampNeg) (nI sl + 1) (nI as) mk)) = some (b, sd2, P', sl', as', mj') ∧ ((f_X8_leaves N sj (nI u) 1).bind fun r_17 => (f_X8_inches N r_17 (nI u)).bind fun r_18 => f_X8_lays_L15 N (nI r) (nI k) (nI fg) f r_17 sd (nI as) (nI P + r_18) one two (nI sl + 1)) = some (b, sj', sd2, as', P', one', two', sl') := fun u mk sd one two hu hmu Ek => by
          have hi30 := O.i30 u hu
          have hi5 := O.i5 u hu
          obtain ⟨f1, f2⟩ := decS_facts (s := sj) (r := r) (L := L) (v := u) (by omega) hLs hr
          have O2 := O.dec (v := u) (by omega)
          rw [ck_nI (by omega) (by omega), cl_nI (by omega), E.inch O.S (by omega), e_leaves1 O.S (by omega) hmu, bs, e_inches O2.S (by omega), bs, decS_inch, nI_add, hone.2, nI_1]
          exact ih (sl + 1) as (P + inch sj u) mk (decS sj u) sd one two (by omega) (by omega) (by omega) h4 Ek O2 f2 f1
        -- put aside
        have asd : ∀ (mk sk : Nat → Int32) (sd one two : Int32), Enc i mk w l d t x y z sk → Ok sk → r < high sk → len sk r = L → ¬ as = fg + 2 → ∃ b sd2 P' sl' as' mj' sj' one' two', f_X0_comesToEnd_L2 N (nI r) (nI L) i d t x z (nI k) (nI fg) f (nI (sl + as) + 1) sd (nI P) (nI sl) (nI as + 1) mk = some (b, sd2, P', sl', as', mj') ∧ f_X8_lays_L15 N (nI r) (nI k) (nI fg) f sk sd (nI as + 1) (nI P) one two (nI sl) = some (b, sj', sd2, as', P', one', two', sl') := fun mk sk sd one two Ek Ok2 hk1 hk2 hne => by
          rw [hone.1, nI_1]
          exact ih sl (as + 1) P mk sk sd one two (by omega) h2 h3 (by omega) Ek Ok2 hk1 hk2
        have hlast : (nI as < nI (fg + 2)) ↔ ¬ as = fg + 2 := by
          rw [nI_ltI (by omega) (by omega)]
          omega
        have hlast2 : (nI as = nI (fg + 2)) ↔ as = fg + 2 := nI_eq (by omega) (by omega)
        have hfg2 : nI fg + 2 = nI (fg + 2) := nI_add fg 2
        unfold f_X1_isHanded f_X1_isMany f_X1_mostAsides
        by_cases k2 : nI k = 2
        · have hk2 : k = 2 := (nI_eq (b := 2) (by omega) (by omega)).mp k2
          subst hk2
          obtain ⟨o2, u, sd, mk, a1, a2, a3, a4, a5, a6⟩ := r_handed (N := N) (P := P) (seed := seed) (one := one) (two := two) hN E O hr h3 hpos
          rw [hLs] at a1
          rw [if_pos k2, if_pos k2, bs, if_neg (show ¬ b2i true = 0 by decide), if_neg (show ¬ nI 2 = 5 by decide), if_neg (show ¬ nI 2 = 5 by decide), bs, if_pos (show b2i false = 0 from rfl), a1, a2]
          simp only [bs]
          obtain ⟨f1, f2⟩ := decS_facts (s := sj) (r := r) (L := L) (v := u) (by omega) hLs hr
          cases o2 with
          | none =>
            rw [if_pos (show encC none = -1 from rfl), if_neg (show ¬ (0 : Int32) ≤ encM none by decide), hfg2]
            by_cases he : as = fg + 2
            · rw [if_neg (fun q => hlast.mp q he), if_pos (hlast2.mpr he)]
              exact ⟨_, _, _, _, _, _, _, _, _, rfl, rfl⟩
            · rw [if_pos (hlast.mpr he), if_neg (fun q => he (hlast2.mp q)), e_leaves1 O.S (by omega) a4, bs, if_pos (show (-4 : Int32) < 0 by decide)]
              exact asd mk (decS sj u) sd _ _ a6 (O.dec (by omega)) f2 f1 he
          | some q =>
            have := a5 q rfl
            subst this
            rw [if_neg (show ¬ encC (some q) = -1 from nI_m1 (by omega)), if_pos (show (0 : Int32) ≤ encM (some q) from nI_pos' (by omega))]
            exact lay q mk sd _ _ a3 a4 a6
        · by_cases k5 : nI k = 5
          · have hk5 : k = 5 := (nI_eq (b := 5) (by omega) (by omega)).mp k5
            subst hk5
            obtain ⟨o1, u, o2, sd, mk, a1, a2, a3, a4, a5, a6⟩ := r_two (N := N) (P := P) (seed := seed) (one := one) (two := two) hN E O hr h3 hpos
            rw [hLs] at a1
            rw [if_neg k2, if_neg k2]
            simp only [if_pos k5, bs, if_neg (show ¬ b2i true = 0 by decide), a1, a2]
            obtain ⟨f1, f2⟩ := decS_facts (s := sj) (r := r) (L := L) (v := u) (by omega) hLs hr
            cases o1 with
            | none =>
              rw [if_pos (show encC none = -1 from rfl), if_neg (show ¬ (0 : Int32) ≤ encM none by decide), hfg2]
              by_cases he : as = fg + 2
              · rw [if_neg (fun q => hlast.mp q he), if_pos (hlast2.mpr he)]
                exact ⟨_, _, _, _, _, _, _, _, _, rfl, rfl⟩
              · rw [if_pos (hlast.mpr he), if_neg (fun q => he (hlast2.mp q)), e_leaves1 O.S (by omega) a4, bs]
                have a7 := a6 rfl
                cases o2 with
                | none =>
                  have a7 : Enc i mk w l d t x y z (decS sj u) := a7
                  rw [if_pos (show encM none < 0 by decide)]
                  exact asd mk (decS sj u) sd _ _ a7 (O.dec (by omega)) f2 f1 he
                | some q =>
                  obtain ⟨g1, g2, g3⟩ : q < wide sj ∧ mny (decS sj u) q ≠ 0 ∧ Enc i mk w l d t x y z (decS (decS sj u) q) := a7
                  obtain ⟨f3, f4⟩ := decS_facts (s := decS sj u) (r := r) (L := L) (v := q) (by omega) f1 f2
                  rw [if_neg (show ¬ encM (some q) < 0 from nI_pos (by omega)), show encM (some q) = nI q from rfl, e_leaves1 (O.dec (v := u) (by omega)).S (by omega) g2, bs]
                  exact asd mk (decS (decS sj u) q) sd _ _ g3 ((O.dec (v := u) (by omega)).dec (by omega)) f4 f3 he
            | some q =>
              obtain ⟨g1, g2, g3⟩ := a5 q rfl
              rw [if_neg (show ¬ encC (some q) = -1 from nI_m1 (by omega)), if_pos (show (0 : Int32) ≤ encM (some q) from nI_pos' (by omega))]
              exact lay q mk sd _ _ g1 g2 g3
          · have hi30 := O.i30 v hv
            rw [if_neg k2, if_neg k2]
            simp only [if_neg k5, bs, if_pos (show b2i false = 0 from rfl), if_pos (show (0 : Int32) ≤ encM (some v) from nI_pos' (by omega)), if_neg (show ¬ encC (some v) = -1 from nI_m1 (by omega))]
            rw [show encC (some v) = nI v from rfl, show encM (some v) = nI v from rfl, ck_nI (by omega) (by omega), ck_nI (by omega) (by omega)]
            have hmk : upd mj (nI v).toNatClampNeg (mj (nI v).toNatClampNeg - 1) = upd mj v (nI (mny sj v - 1)) := by
              rw [cl_nI (by omega), E.mny O.S (by omega), l1, pk_sub (by omega)]
            rw [hmk]
            exact lay v _ seed _ _ hv hmv (enc_dec E (by omega))
variable {i0 m0 w0 l0 d0 t0 saved kp kk kf : Nat → Int32} {x0 y0 z0 hold Mz Mas Mrow Mat one two Msl : Int32} {Sh : Nat → Option Nat}
theorem e_by117 {x4 x6 : Int32} {r : Nat} {sj : Nat → Int32} {as' P' sl' sd : Int32} (hN : 5000 < N) (O : Ok s) (hr : r < high s) (hsv : ∀ k, k < 99 → saved k = s k) : ∃ s', f_X8_by_L117 N saved kp kk kf sd as' (nI r) P' one two sl' (nI r) x4 x6 N 0 sj = some ((if x6 = 0 then -4 else if x4 = 0 then sl' else if x4 = 1 then P' - nI (len s r) else as'), s', saved, sd, as', nI r, P', one, two, sl') ∧ ∀ k, k < 99 → s' k = s k := by
  have h6 := O.h6
  have key : ∀ (f j : Nat) (sj : Nat → Int32), j ≤ 99 → 99 < j + f → (∀ k, k < j → sj k = saved k) → ∃ s', f_X8_by_L117 N saved kp kk kf sd as' (nI r) P' one two sl' (nI r) x4 x6 f (nI j) sj = some ((if x6 = 0 then -4 else if x4 = 0 then sl' else if x4 = 1 then P' - nI (len s r) else as'), s', saved, sd, as', nI r, P', one, two, sl') ∧ ∀ k, k < 99 → s' k = saved k := by
    intro f
    induction f with
    | zero => intro j sj h1 h2; omega
    | succ f ih =>
      intro j sj h1 h2 h3
      rw [f_X8_by_L117]
      by_cases hj : j = 99
      · subst hj
        have hc : ∀ k, k < 99 → sj k = s k := fun k hk => (h3 k hk).trans (hsv k hk)
        have O2 := O.cong hc
        have hl : len sj r = len s r := rN_c hc (by omega)
        rw [if_pos (show (99 : Int32) ≤ nI 99 by decide), e_lengthOf O2.S (by omega), bs, hl]
        refine ⟨sj, ?_, h3⟩
        split
        · rfl
        · split
          · rfl
          · split
            · rfl
            · rfl
      · rw [if_neg (show ¬ (99 : Int32) ≤ nI j from nI_ge (b := 99) (by omega) (by omega)), ck_nI (by omega) (by omega), ck_nI (by omega) (by omega), cl_nI (by omega), nI_1]
        exact ih (j + 1) _ (by omega) (by omega) (upd_le h3)
  obtain ⟨s', a1, a2⟩ := key N 0 sj (by omega) (by omega) (fun k hk => by omega)
  exact ⟨s', a1, fun k hk => (a2 k hk).trans (hsv k hk)⟩
theorem e_by59 {x1 x2 x3 x4 : Int32} (hN : 5000 < N) : ∃ sv, f_X8_by_L59 N s kp kk kf Mz Mas Mrow Mat one two Msl x1 x2 x3 x4 N 0 saved = (ck (gi x2 8) (ck (gi x2 8) ((f_X8_lays N s x3 Mas x1 Mat one two Msl (kk x2.toNatClampNeg) (kf x2.toNatClampNeg)).bind fun r_12 => f_X8_by_L117 N sv kp kk kf r_12.2.2.1 r_12.2.2.2.1 x1 r_12.2.2.2.2.1 r_12.2.2.2.2.2.1 r_12.2.2.2.2.2.2.1 r_12.2.2.2.2.2.2.2 x1 x4 (b2i r_12.1) N 0 r_12.2.1))) ∧ ∀ k, k < 99 → sv k = s k := by
  have key : ∀ (f j : Nat) (sj : Nat → Int32), j ≤ 99 → 99 < j + f → (∀ k, k < j → sj k = s k) → ∃ sv, f_X8_by_L59 N s kp kk kf Mz Mas Mrow Mat one two Msl x1 x2 x3 x4 f (nI j) sj = (ck (gi x2 8) (ck (gi x2 8) ((f_X8_lays N s x3 Mas x1 Mat one two Msl (kk x2.toNatClampNeg) (kf x2.toNatClampNeg)).bind fun r_12 => f_X8_by_L117 N sv kp kk kf r_12.2.2.1 r_12.2.2.2.1 x1 r_12.2.2.2.2.1 r_12.2.2.2.2.2.1 r_12.2.2.2.2.2.2.1 r_12.2.2.2.2.2.2.2 x1 x4 (b2i r_12.1) N 0 r_12.2.1))) ∧ ∀ k, k < 99 → sv k = s k := by
    intro f
    induction f with
    | zero => intro j sj h1 h2; omega
    | succ f ih =>
      intro j sj h1 h2 h3
      rw [f_X8_by_L59]
      by_cases hj : j = 99
      · subst hj
        rw [if_pos (show (99 : Int32) ≤ nI 99 by decide)]
        exact ⟨sj, rfl, h3⟩
      · rw [if_neg (show ¬ (99 : Int32) ≤ nI j from nI_ge (b := 99) (by omega) (by omega)), ck_nI (by omega) (by omega), ck_nI (by omega) (by omega), cl_nI (by omega), nI_1]
        exact ih (j + 1) _ (by omega) (by omega) (upd_le h3)
  exact key N 0 saved (by omega) (by omega) (fun k hk => by omega)
/-- the joint of by: whether the numbers are as told -/
theorem e_byTop (O : Ok s) {x1 x2 x3 x4 : Int32} : f_X8_by N s saved kp kk kf Mz Mas Mrow Mat one two Msl x1 x2 x3 x4 = if refO s x1 (inB x2 8 && inB x4 (2 + 1)) = 0 then ((f_X8_wrongLaying N kp x2).bind fun r_9 => if r_9 = 0 then f_X8_by_L59 N s kp kk kf Mz Mas Mrow Mat one two Msl x1 x2 x3 x4 N 0 saved else some (r_9, s, saved, Mz, Mas, Mrow, Mat, one, two, Msl)) else some (refO s x1 (inB x2 8 && inB x4 (2 + 1)), s, saved, Mz, Mas, Mrow, Mat, one, two, Msl) := by
  have h6 := O.h6
  unfold f_X8_by
  rw [e_isRow O.S, bs, e_isShelf, bs, show (2 : Int64) = (nI 2).toInt64 from rfl, isInC (by omega), bs]
  cases hb : inB x1 (high s) with
  | false =>
    have hr : ∀ b, refO s x1 b = -1 := fun b => by
      unfold refO
      rw [hb, if_neg (show ¬ (false = true ∧ b = true) from fun q => Bool.false_ne_true q.1)]
    rw [if_pos (show b2i false = 0 from rfl), hr, if_neg (show ¬ (-1 : Int32) = 0 by decide)]
  | true =>
    obtain ⟨r, hr, rfl⟩ := inB_t (by omega) hb
    rw [if_neg (show ¬ b2i true = 0 by decide)]
    cases hc : inB x2 8 with
    | false =>
      rw [if_pos (show b2i false = 0 from rfl), Bool.false_and, refO_f, if_neg (show ¬ (-1 : Int32) = 0 by decide)]
    | true =>
      rw [if_neg (show ¬ b2i true = 0 by decide), Bool.true_and]
      cases hd : inB x4 (2 + 1) with
      | false =>
        rw [if_pos (show b2i false = 0 from rfl), refO_f, if_neg (show ¬ (-1 : Int32) = 0 by decide)]
      | true =>
        have hv : refO s (nI r) true = if ld s r = 0 then 0 else -3 := by
          unfold refO
          rw [hb, if_pos (show true = true ∧ true = true from ⟨rfl, rfl⟩), cl_nI (by omega)]
        rw [if_neg (show ¬ b2i true = 0 by decide), e_laid0 O hr, hv]
        by_cases hz : ld s r = 0
        · rw [if_pos hz, if_pos hz, if_pos rfl]
        · rw [if_neg hz, if_neg hz, if_neg (show ¬ (-3 : Int32) = 0 by decide)]
theorem c_by4 {x2 x4 : Int32} {α : Type} (F : Int32 → Option α) : ((f_X7_isShelf N x2).bind fun r_44 => if b2i r_44 = 0 then F 0 else if x4 < 0 then F 0 else if 2 < x4 then F 0 else F 1) = F (b2i (inB x2 8 && inB x4 (2 + 1))) := by
  rw [c_isShelf, bs]
  cases hc : inB x2 8 with
  | false => rfl
  | true =>
    rw [if_neg (show ¬ b2i true = 0 by decide), Bool.true_and]
    cases hd : inB x4 (2 + 1) with
    | true =>
      obtain ⟨v, hv, rfl⟩ := inB_t (by omega) hd
      rw [if_neg (nI_pos (by omega)), if_neg (show ¬ (2 : Int32) < nI v from nI_nlt (a := 2) (by omega) (by omega))]
      rfl
    | false =>
      by_cases h1 : x4 < 0
      · rw [if_pos h1]
        rfl
      · rw [if_neg h1]
        have h2 : 2 < x4 := fa_of_nle fun h2 => by
          obtain ⟨j, hj, rfl⟩ := nI_of2 (M := 2) (n := 2) rfl h1 h2
          rw [inB_i (by omega) (by omega)] at hd
          cases hd
        rw [if_pos h2]
        rfl
theorem r_by_L (hN : 5000 < N) (E : Enc i m w l d t x y z s) (O : Ok s) {x1 x2 x3 x4 : Int32} {k f : Nat} (hT : ∀ dd, dd < 8 → x2 = nI dd → kp dd = hold ∧ hold = 1 ∧ kk dd = nI k ∧ kf dd = nI f ∧ k ≤ 6 ∧ f ≤ 9) : ∃ p q, f_X7_by_L N Sh i m w l d t x y z i0 m0 w0 l0 d0 t0 x0 y0 z0 hold (nI k) (nI f) x1 x2 x3 x4 = some p ∧ f_X8_by N s saved kp kk kf Mz Mas Mrow Mat one two Msl x1 x2 x3 x4 = some q ∧ p.1 = q.1 ∧ ∀ j, j < 99 → q.2.1 j = s j := by
  have h6 := O.h6
  rw [e_byTop O]
  unfold f_X7_by_L
  rw [c_by4 (fun b => f_X7_by_L_J26 N Sh i m w l d t x y z i0 m0 w0 l0 d0 t0 x0 y0 z0 hold (nI k) (nI f) x1 x2 x3 x4 b x1)]
  unfold f_X7_by_L_J26
  rw [c_refO E O, bs]
  by_cases hz : refO s x1 (inB x2 8 && inB x4 (2 + 1)) = 0
  · rw [if_pos hz, if_pos hz]
    obtain ⟨r, hr, rfl, hb, hl0⟩ := refO_0 O hz
    obtain ⟨hb1, hb2⟩ := Bool.and_eq_true_iff.mp hb
    obtain ⟨dd, hd, hx⟩ := inB_t (by omega) hb1
    obtain ⟨t1, t2, t3, t4, t5, t6⟩ := hT dd hd hx
    obtain ⟨a1, a2⟩ := (r_wrongL (N := N) (Sh := Sh) hd hx t1 (Or.inr (Or.inl t2))).1 t2
    obtain ⟨hl1, hl2⟩ := O.ln r hr
    obtain ⟨i', m', w', l', d', t', e5, E2⟩ := c_takeOver (N := N) E (i0 := i0) (m0 := m0) (w0 := w0) (l0 := l0) (d0 := d0) (t0 := t0) (x0 := x0) (y0 := y0) (z0 := z0)
    rw [a1, bs, a2, bs, if_pos rfl]
    unfold f_X7_by_L_J43
    rw [if_pos rfl, e5, bs]
    subst hx
    obtain ⟨sv, b1, b2⟩ := e_by59 (N := N) (s := s) (saved := saved) (kp := kp) (kk := kk) (kf := kf) (Mz := Mz) (Mas := Mas) (Mrow := Mrow) (Mat := Mat) (one := one) (two := two) (Msl := Msl) (x1 := nI r) (x2 := nI dd) (x3 := x3) (x4 := x4) hN
    rw [b1, ck_nI (by omega) (by omega), ck_nI (by omega) (by omega), ck_nI (by omega) (by omega), cl_nI (by omega), t3, t4]
    unfold f_X0_init f_X0_comesToEnd f_X8_lays
    try dsimp only
    rw [ck_nI (by omega) (by omega), cl_nI (by omega), E2.len O.S (by omega), bs]
    try dsimp only
    obtain ⟨b, sd, P', sl', as', mj', sj', one', two', g1, g2⟩ := r_course (N := N) (i := i') (w := w') (l := l') (d := d') (t := t') (x := x) (y := y) (z := z) hN (r := r) (k := k) (fg := f) (L := len s r) t5 t6 hl2 N 0 0 0 m' s x3 one two (by omega) (by omega) (by omega) (by omega) E2 O hr rfl
    have g1' : f_X0_comesToEnd_L2 N (nI r) (nI (len s r)) i' d' t' x z (nI k) (nI f) N 0 x3 0 0 0 m' = _ := g1
    have g2' : f_X8_lays_L15 N (nI r) (nI k) (nI f) N s x3 0 0 one two 0 = _ := g2
    rw [g1', bs, g2', bs]
    try dsimp only
    obtain ⟨s', c1, c2⟩ := e_by117 (N := N) (s := s) (saved := sv) (kp := kp) (kk := kk) (kf := kf) (x4 := x4) (x6 := b2i b) (r := r) (sj := sj') (as' := as') (P' := P') (sl' := sl') (sd := sd) (one := one') (two := two') hN O hr b2
    rw [c1]
    by_cases hb0 : b2i b = 0
    · rw [if_pos hb0, if_pos hb0]
      exact ⟨_, _, rfl, rfl, rfl, c2⟩
    · rw [if_neg hb0, if_neg hb0]
      by_cases h40 : x4 = 0
      · rw [if_pos h40, if_pos h40]
        exact ⟨_, _, rfl, rfl, rfl, c2⟩
      · rw [if_neg h40, if_neg h40]
        by_cases h41 : x4 = 1
        · rw [if_pos h41, if_pos h41]
          exact ⟨_, _, rfl, rfl, rfl, c2⟩
        · rw [if_neg h41, if_neg h41]
          exact ⟨_, _, rfl, rfl, rfl, c2⟩
  · rw [if_neg hz, if_neg hz]
    unfold f_X7_by_L_J43
    rw [if_neg hz]
    exact ⟨_, _, rfl, rfl, rfl, fun _ _ => rfl⟩
theorem r_by_N (hN : 5000 < N) (E : Enc i m w l d t x y z s) (O : Ok s) {x1 x2 x3 x4 : Int32} (hT : ∀ dd, dd < 8 → x2 = nI dd → kp dd = hold ∧ (hold = 0 ∨ hold = 2)) : ∃ p q, f_X7_by_N N Sh i m w l d t x y z i0 m0 w0 l0 d0 t0 x0 y0 z0 hold x1 x2 x3 x4 = some p ∧ f_X8_by N s saved kp kk kf Mz Mas Mrow Mat one two Msl x1 x2 x3 x4 = some q ∧ p.1 = q.1 ∧ ∀ j, j < 99 → q.2.1 j = s j := by
  have h6 := O.h6
  rw [e_byTop O]
  unfold f_X7_by_N
  rw [c_by4 (fun b => f_X7_by_N_J26 N Sh i m w l d t x y z i0 m0 w0 l0 d0 t0 x0 y0 z0 hold x1 x2 x3 x4 b x1)]
  unfold f_X7_by_N_J26
  rw [c_refO E O, bs]
  by_cases hz : refO s x1 (inB x2 8 && inB x4 (2 + 1)) = 0
  · rw [if_pos hz, if_pos hz]
    obtain ⟨r, hr, rfl, hb, hl0⟩ := refO_0 O hz
    obtain ⟨hb1, hb2⟩ := Bool.and_eq_true_iff.mp hb
    obtain ⟨dd, hd, hx⟩ := inB_t (by omega) hb1
    obtain ⟨t1, t2⟩ := hT dd hd hx
    have hn1 : ¬ hold = 1 := by
      rcases t2 with e | e <;> rw [e] <;> decide
    obtain ⟨a, a0, a1, a2⟩ := (r_wrongL (N := N) (Sh := Sh) hd hx t1 (by rcases t2 with e | e; exact Or.inl e; exact Or.inr (Or.inr e))).2 hn1
    rw [a1, bs, a2, bs, if_neg a0]
    unfold f_X7_by_N_J43
    rw [if_neg a0]
    exact ⟨_, _, rfl, rfl, rfl, fun _ _ => rfl⟩
  · rw [if_neg hz, if_neg hz]
    unfold f_X7_by_N_J43
    rw [if_neg hz]
    exact ⟨_, _, rfl, rfl, rfl, fun _ _ => rfl⟩
end CRS3
