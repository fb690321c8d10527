/-! ===== mending; broken as a call ===== -/
section MEN
variable {N : Nat} {i m w l d t : Nat → Int32} {x y z : Int32} {s : Nat → Int32} {i0 m0 w0 l0 d0 t0 : Nat → Int32} {x0 y0 z0 : Int32}
variable {free steps sos slots takes places way found : Nat → Int32} {states wto wrw wt ws fs fw : Int32}
theorem c_mend24 (O : Ok s) (E : Enc i m w l d t x y z s) {i' w' l' d' t' : Nat → Int32} {r b a size : Nat} (hr : r < high s) (hsz : 1 ≤ size) (hs : a + size ≤ ld s r) (hb : b < 2 ^ 20) : ∀ (f j : Nat) (mj : Nat → Int32), j ≤ size → size < j + f → (∀ v, v < 4 → mj v = nI (mny s v + gc s r b a j v)) → ∃ mk, f_X7_canMend_L24 N i m w l d t x y z i' w' l' d' t' x y z free steps sos slots takes places states wto (nI r) (nI b) (nI a) (nI (a + size - 1)) (nI (wholeN s r)) f (nI (a + j)) mj = f_X7_canMend_L24 N i m w l d t x y z i' w' l' d' t' x y z free steps sos slots takes places states wto (nI r) (nI b) (nI a) (nI (a + size - 1)) (nI (wholeN s r)) 1 (nI (a + size)) mk ∧ ∀ v, v < 4 → mk v = nI (mny s v + gc s r b a size v) := by
  have h6 := O.h6
  have hl12 := O.l12 r (by omega)
  have hwl : wholeN s r ≤ ld s r := by
    unfold wholeN
    split <;> omega
  intro f
  induction f with
  | zero => intro j mj h1 h2; omega
  | succ f ih =>
    intro j mj h1 h2 hmj
    by_cases hj : j = size
    · subst hj
      refine ⟨mj, ?_, hmj⟩
      rw [f_X7_canMend_L24, f_X7_canMend_L24, if_pos (nI_lt (by omega) (by omega)), if_pos (nI_lt (by omega) (by omega))]
    · by_cases hw : wholeN s r ≤ a + j
      · refine ⟨mj, ?_, fun v hv => ?_⟩
        · rw [f_X7_canMend_L24, f_X7_canMend_L24, if_neg (nI_nlt (by omega) (by omega)), if_pos (nI_le hw (by omega)), if_pos (nI_lt (by omega) (by omega))]
        · have := gc_stop (s := s) (r := r) (i := b) (a := a) (j := j) hw (size - j)
          rw [show j + (size - j) = size by omega] at this
          rw [this]
          exact hmj v hv
      · have hs4 := O.sl4 r (a + j) (by omega) (by omega)
        have g5 : gi (nI (sl s r (a + j))) 4 = true := giT hs4 (by omega)
        rw [f_X7_canMend_L24, if_neg (nI_nlt (by omega) (by omega)), if_neg (nI_ge (by omega) (by omega)), nI_1]
        by_cases hi : a + j = b
        · rw [if_pos (by rw [hi])]
          exact ih (j + 1) mj (by omega) (by omega) (fun v hv => by rw [gc_f (cntd_f (Or.inl hi))]; exact hmj v hv)
        · rw [if_neg (fun q => hi ((nI_eq (by omega) (by omega)).mp q)), c_slateAt E O.S (by omega) (by omega), bs, g5, ck_t, ck_t, cl_nI (by omega), hmj _ hs4, nI_1]
          refine ih (j + 1) _ (by omega) (by omega) (fun v hv => ?_)
          rw [gc_t (cntd_t hi (by omega))]
          unfold inc
          by_cases e : v = sl s r (a + j)
          · subst e
            rw [pk_us, if_pos rfl, Nat.add_assoc]
          · rw [pk_un e, if_neg e]
            exact hmj v hv
theorem r_mend (hN : 5000 < N) (E : Enc i m w l d t x y z s) (O : Ok s) (hso : SO sos) {r b a size : Nat} (hr : r < high s) (hb : b < 2 ^ 20) (hsz : 1 ≤ size) (hs : a + size ≤ ld s r) :
    ∃ p q, f_X7_canMend N i m w l d t x y z i0 m0 w0 l0 d0 t0 x0 y0 z0 free steps sos slots takes places states wto (nI r) (nI b) (nI a) (nI (a + size - 1)) = some p ∧ f_X8_isMended N s way found wrw wt ws (-4) fs fw (nI r) (nI b) (nI a) (nI size) = some q ∧ p.1 = q.1 ∧ q.2.1 = s ∧ SO p.2.2.2.2.2.2.2.2.2.2.2.2.1 ∧ ¬ p.2.2.2.2.2.2.2.2.2.2.2.2.2.2.2.2.2 = 0 := by
  have h6 := O.h6
  have hl12 := O.l12 r (by omega)
  have hlen := O.ln r hr
  obtain ⟨hsu1, hsu2⟩ := O.sums r hr (by omega)
  have hsl4 := fun k hk => O.sl4 r k (by omega) hk
  have hsb := sumIn_b O.S (r := r) (k := ld s r) (fun j hj => O.sl32 r j (by omega) hj)
  -- the stretch
  have hm1 := sumIn_mono (s := s) (r := r) (n := ld s r - 1) (j := a) (by omega)
  have hm2 : sumIn s r a < sumIn s r (a + size) := by
    have q1 := sumIn_mono (s := s) (r := r) (n := a + size) (j := a + 1) (by omega)
    have q2 : sumIn s r (a + 1) = sumIn s r a + inch s (sl s r a) := rfl
    have q3 := O.i5 _ (O.slw r a (by omega) (by omega))
    omega
  have hbs := hsb (a + size) (by omega)
  obtain ⟨i', m', w', l', d', t', e5, E2⟩ := c_takeOver (N := N) E (i0 := i0) (m0 := m0) (w0 := w0) (l0 := l0) (d0 := d0) (t0 := t0) (x0 := x0) (y0 := y0) (z0 := z0)
  have hbd : ∀ v, v < 4 → mny s v + gc s r b a size v ≤ 99 := fun v hv => by
    have := O.m12 v hv
    have := gc_le (s := s) (r := r) (i := b) (a := a) (v := v) size
    omega
  have Wu : Wd (hM s (gc s r b a size)) := hM_Wd O.wd hbd
  have Su := Wu.1.1
  have hto : min (sumIn s r (a + size)) (len s r) ≤ 60 := by omega
  have hst : sumIn s r a < min (sumIn s r (a + size)) (len s r) := by omega
  -- the class
  obtain ⟨mk, k1, k2⟩ := c_mend24 (N := N) (free := free) (steps := steps) (sos := sos) (slots := slots) (takes := takes) (places := places) (states := states) (wto := wto) (i' := i') (w' := w') (l' := l') (d' := d') (t' := t') O E hr hsz hs hb N 0 m' (by omega) (by omega) (fun v hv => by
    show m' v = nI (mny s v + 0)
    rw [Nat.add_zero]
    exact E2.mny O.S hv)
  have Em : Enc i' mk w' l' d' t' x y z (hM s (gc s r b a size)) := enc_hM E2 k2
  have hE1 : f_X3_endOf N i d t (nI r) (nI a - 1) = some (nI (sumIn s r a)) := by
    by_cases ha : a = 0
    · subst ha
      exact c_endOf_m1 O.S (by omega)
    · rw [l1, pk_sub (by omega), c_endOf E O.S (by omega) hl12 hsl4 (by omega) (by omega), if_pos (by omega), show a - 1 + 1 = a by omega]
  have hE2 : f_X3_endOf N i d t (nI r) (nI (a + size - 1)) = some (nI (sumIn s r (a + size))) := by
    rw [c_endOf E O.S (by omega) hl12 hsl4 (by omega) (by omega), if_pos (by omega), show a + size - 1 + 1 = a + size by omega]
  obtain ⟨T, n, a1, a2, a3, a4, a5, a6, e1, e2⟩ := c_waysB (N := N) Em Wu hN (row := r) (by omega) hto (Nat.le_of_lt hst) (free := free) (steps := steps) (slots := slots) (takes := takes) (places := places) (states := states) (wto := wto) hso
  obtain ⟨g, f1, f2⟩ := c_hasFill (N := N) hN Wu hto hst e2
  have hclass : f_X7_canMend N i m w l d t x y z i0 m0 w0 l0 d0 t0 x0 y0 z0 free steps sos slots takes places states wto (nI r) (nI b) (nI a) (nI (a + size - 1)) = some (g, i', mk, w', l', d', t', x, y, z, a1, a2, a3, a4, a5, a6, nI n, nI (min (sumIn s r (a + size)) (len s r))) := by
    unfold f_X7_canMend
    rw [e5, bs, c_wholeOnesOf E O.S (by omega) hl12 hsl4 (by omega), bs]
    try dsimp only
    rw [Nat.add_zero] at k1
    rw [k1, f_X7_canMend_L24, if_pos (nI_lt (by omega) (by omega)), hE1, bs, hE2, bs, ck_nI (by omega) (by omega), cl_nI (by omega), E.len O.S (by omega), mn_nI (by omega) (by omega), e1, bs]
    try dsimp only
    rw [f1, bs]
  -- the reference
  obtain ⟨w2, f3, s3, x3, e6, _⟩ := e_findFills (N := N) (by omega) Wu.1 (r := r) (by omega) hto hst (ebI := -4) (eb := none) (Or.inl ⟨by decide, rfl⟩) (tk := 0) (t := false) (by decide) (way := way) (found := found) (wr := wrw) (wt := wt) (ws := ws) (fs := fs) (fw := fw)
  have hjo : ∀ k, 0 < k → k ≤ ld s r → f_X8_jointOf N (hM s (gc s r b a size)) (nI r) (nI (k - 1)) = some (nI (sumIn s r k)) := fun k hk1 hk2 => by
    rw [e_jointOf Su (by omega) (by omega) (fun q hq => by rw [hM_sl]; exact O.sl32 r q (by omega) (by omega)) (by omega), hM_sumIn, show k - 1 + 1 = k by omega]
  have hfin : ∀ x6 : Int32, (x6 = 0 ↔ a + size ≠ ld s r) → f_X8_isMended_L26 N way found wrw wt ws (-4) fs fw (nI r) (nI b) (nI a) (nI size) (nI (ld s r)) x6 1 (nI (a + size)) (hM s (gc s r b a size)) = f_X8_isMended_L131 N w2 f3 (nI r) (nI (min (sumIn s r (a + size)) (len s r))) (nI (cnt none (flS (hM s (gc s r b a size)) r (sumIn s r a) (min (sumIn s r (a + size)) (len s r))))) (-4) s3 x3 (nI r) (nI b) (nI a) (nI size) (nI (ld s r)) (nI (cnt none (flS (hM s (gc s r b a size)) r (sumIn s r a) (min (sumIn s r (a + size)) (len s r))))) N (nI a) (hM s (gc s r b a size)) := fun x6 hx6 => by
    rw [f_X8_isMended_L26, nI_add, if_pos (nI_le (Nat.le_refl _) (by omega)), l1, pk_sub (by omega), hjo (a + size) (by omega) hs, e_lengthOf Su (by omega), hM_len]
    simp only [bs]
    have hm : (a + size ≠ ld s r → min (sumIn s r (a + size)) (len s r) = sumIn s r (a + size)) ∧ (a + size = ld s r → min (sumIn s r (a + size)) (len s r) = len s r) := by
      refine ⟨fun hq => ?_, fun hq => ?_⟩
      · have := sumIn_mono (s := s) (r := r) (n := ld s r - 1) (j := a + size) (by omega)
        omega
      · rw [hq]
        omega
    by_cases ha : a = 0
    · subst ha
      have e6' : f_X8_findFills N (hM s (gc s r b 0 size)) way found wrw wt ws (-4) fs fw (nI r) 0 (nI (min (sumIn s r (0 + size)) (len s r))) 0 = _ := e6
      rw [if_pos (show nI 0 = 0 from rfl)]
      by_cases hx : x6 = 0
      · rw [if_pos hx]
        rw [hm.1 (hx6.mp hx)] at e6' ⊢
        rw [e6', bs]
      · rw [if_neg hx]
        have hq : 0 + size = ld s r := Classical.byContradiction fun q => hx (hx6.mpr q)
        rw [hm.2 hq] at e6' ⊢
        rw [e6', bs]
    · rw [if_neg (nI_ne0 (by omega) (by omega)), pk_sub (by omega), hjo a (by omega) (by omega), bs]
      by_cases hx : x6 = 0
      · rw [if_pos hx]
        rw [hm.1 (hx6.mp hx)] at e6 ⊢
        have e6' : f_X8_findFills N (hM s (gc s r b a size)) way found wrw wt ws (-4) fs fw (nI r) (nI (sumIn s r a)) (nI (sumIn s r (a + size))) (nI 0) = _ := e6
        rw [show (0 : Int32) = nI 0 from rfl, e6', bs]
      · rw [if_neg hx]
        have hq : a + size = ld s r := Classical.byContradiction fun q => hx (hx6.mpr q)
        rw [hm.2 hq] at e6 ⊢
        rw [e6, bs]
  have hdown := e_mend131 (N := N) (way := w2) (found := f3) (wrw := nI r) (wt := nI (min (sumIn s r (a + size)) (len s r))) (ws := nI (cnt none (flS (hM s (gc s r b a size)) r (sumIn s r a) (min (sumIn s r (a + size)) (len s r))))) (eb := -4) (fs := s3) (fw := x3) hN O hr hs hb (x8 := nI (cnt none (flS (hM s (gc s r b a size)) r (sumIn s r a) (min (sumIn s r (a + size)) (len s r))))) N 0 (by omega) (by omega)
  have hup := fun x6 => e_mend26 (N := N) (way := way) (found := found) (wrw := wrw) (wt := wt) (ws := ws) (eb := -4) (fs := fs) (fw := fw) hN O hr hs hb (x6 := x6) N 0 (by omega) (by omega)
  have hz : hM s (gc s r b a 0) = s := hM_zero O.S
  have hz2 : (fun v => gc s r b a size v - gc s r b a 0 v) = gc s r b a size := funext fun v => Nat.sub_zero _
  rw [hz2, Nat.add_zero] at hdown
  rw [hz, Nat.add_zero] at hup
  have hmodel : f_X8_isMended N s way found wrw wt ws (-4) fs fw (nI r) (nI b) (nI a) (nI size) = if nI (cnt none (flS (hM s (gc s r b a size)) r (sumIn s r a) (min (sumIn s r (a + size)) (len s r)))) ≤ 0 then some (false, s, w2, f3, nI r, nI (min (sumIn s r (a + size)) (len s r)), nI (cnt none (flS (hM s (gc s r b a size)) r (sumIn s r a) (min (sumIn s r (a + size)) (len s r)))), s3, x3) else some (true, s, w2, f3, nI r, nI (min (sumIn s r (a + size)) (len s r)), nI (cnt none (flS (hM s (gc s r b a size)) r (sumIn s r a) (min (sumIn s r (a + size)) (len s r)))), s3, x3) := by
    unfold f_X8_isMended
    rw [e_slates O.S (by omega), bs, nI_add]
    by_cases hl : a + size = ld s r
    · rw [if_pos (by rw [hl]), hup 1, hfin 1 ⟨fun q => absurd q (by decide), fun q => absurd hl q⟩, hdown]
    · rw [if_neg (fun q => hl ((nI_eq (by omega) (by omega)).mp q)), hup 0, hfin 0 ⟨fun _ => hl, fun _ => rfl⟩, hdown]
  by_cases hL : flS (hM s (gc s r b a size)) r (sumIn s r a) (min (sumIn s r (a + size)) (len s r)) = []
  · have hg : g = false := by
      cases g with
      | false => rfl
      | true => exact absurd hL (f2.mp rfl)
    have hc0 : nI (cnt none (flS (hM s (gc s r b a size)) r (sumIn s r a) (min (sumIn s r (a + size)) (len s r)))) ≤ 0 := by
      rw [hL]
      decide
    rw [if_pos hc0] at hmodel
    exact ⟨_, _, hclass, hmodel, hg, rfl, e2.so, nI_ne0 (by omega) (by omega)⟩
  · have hc := (cnt_none_pos _).mpr hL
    have hcl := cnt_lt Wu.1 (r := r) hst hto
    rw [if_neg (nI_nle hc hcl)] at hmodel
    exact ⟨_, _, hclass, hmodel, f2.mpr hL, rfl, e2.so, nI_ne0 (by omega) (by omega)⟩
theorem sub_step {b e : Nat} : nI b - nI (e + 1) + 1 = nI b - nI e := by
  rw [← nI_add, ← Int32.sub_sub]
  exact Int32.sub_add_cancel _ _
theorem e_brk_tail {K : Int32 → (Nat → Int32) → (Nat → Int32) → (Nat → Int32) → Int32 → Int32 → Int32 → Int32 → Int32 → Option (Int32 × (Nat → Int32) × (Nat → Int32) × (Nat → Int32) × Int32 × Int32 × Int32 × Int32 × Int32 × Int32)} {r b n size : Nat} (hb : b < 2 ^ 20) (hn : n < 2 ^ 20) (hsz : size < 2 ^ 20) : ∀ (f a : Nat), a ≤ b + 1 → b + 1 < a + f → (n < a + size ∨ a = b + 1) → f_X8_broken_L56 N (-4) K (nI r) (nI b) (nI n) (nI size) f (nI a) s way found wrw wt ws fs fw = K (nI size + 1) s way found wrw wt ws fs fw := by
  intro f
  induction f with
  | zero => intro a h1 h2; omega
  | succ f ih =>
    intro a h1 h2 h3
    rw [f_X8_broken_L56]
    by_cases ha : a = b + 1
    · rw [ha, if_pos (nI_lt (by omega) (by omega))]
    · rw [if_neg (nI_nlt (by omega) (by omega)), if_neg (nI_pos (by omega)), nI_add, if_pos (nI_lt (by omega) (by omega)), nI_1]
      exact ih (a + 1) (by omega) (by omega) (by omega)
theorem e_brk_skip {K : Int32 → (Nat → Int32) → (Nat → Int32) → (Nat → Int32) → Int32 → Int32 → Int32 → Int32 → Int32 → Option (Int32 × (Nat → Int32) × (Nat → Int32) × (Nat → Int32) × Int32 × Int32 × Int32 × Int32 × Int32 × Int32)} {r b n size : Nat} (hb : b < 2 ^ 20) : ∀ (k f : Nat), k < 2 ^ 20 → f_X8_broken_L56 N (-4) K (nI r) (nI b) (nI n) (nI size) (f + k) (nI b - nI (b + k)) s way found wrw wt ws fs fw = f_X8_broken_L56 N (-4) K (nI r) (nI b) (nI n) (nI size) f (nI 0) s way found wrw wt ws fs fw := by
  intro k
  induction k with
  | zero =>
    intro f _
    rw [Nat.add_zero, Nat.add_zero, Int32.sub_self]
    rfl
  | succ k ih =>
    intro f hk
    have hv : (nI b - nI (b + (k + 1))).toInt = (b : Int) - ((b + (k + 1) : Nat) : Int) := pk_sub_toInt (by omega) (by omega)
    have hbi : (nI b).toInt = (b : Int) := nI_toInt (by omega)
    rw [show f + (k + 1) = (f + k) + 1 by omega, f_X8_broken_L56, if_neg (show ¬ nI b < nI b - nI (b + (k + 1)) by rw [fa_lt, hv, hbi]; omega), if_pos (show nI b - nI (b + (k + 1)) < 0 by rw [fa_lt, hv, show (0 : Int32).toInt = 0 from rfl]; omega), show b + (k + 1) = (b + k) + 1 by omega, sub_step]
    exact ih f (by omega)
theorem r_broken (hN : 5000 < N) (E : Enc i m w l d t x y z s) (O : Ok s) (hso : SO sos) {x1 x2 eb : Int32} : ∃ p q, f_X7_broken N i m w l d t x y z i0 m0 w0 l0 d0 t0 x0 y0 z0 free steps sos slots takes places states wto x1 x2 = some p ∧ f_X8_broken N s way found wrw wt ws eb fs fw x1 x2 = some q ∧ p.1 = q.1 ∧ q.2.1 = s ∧ SO p.2.2.2.2.2.2.2.2.2.2.2.2.1 ∧ (inB x1 (high s) = true → inB x2 (ld s x1.toNatClampNeg) = true → ¬ p.2.2.2.2.2.2.2.2.2.2.2.2.2.2.2.2.2 = 0) := by
  have h6 := O.h6
  unfold f_X7_broken f_X8_broken
  rw [show f_X7_isRow N y x1 = some (inB x1 (high s)) by rw [E.high O.S]; exact c_inB.1, bs, e_isRow O.S, bs]
  cases hb : inB x1 (high s) with
  | false =>
    rw [if_pos (show b2i false = 0 from rfl), if_pos (show b2i false = 0 from rfl)]
    exact ⟨_, _, rfl, rfl, rfl, rfl, hso, fun q => absurd q Bool.false_ne_true⟩
  | true =>
    obtain ⟨r, hr, rfl⟩ := inB_t (by omega) hb
    have hl12 := O.l12 r (by omega)
    rw [if_neg (show ¬ b2i true = 0 by decide), if_neg (show ¬ b2i true = 0 by decide), ck_nI (by omega) (by omega), ck_nI (by omega) (by omega), cl_nI (by omega), E.ld O.S (by omega), e_slates O.S (by omega), bs, bs, isIn0 (by omega), bs]
    cases hc : inB x2 (ld s r) with
    | false =>
      rw [if_pos (show b2i false = 0 from rfl)]
      by_cases h1 : x2 < 0
      · rw [if_pos h1]
        exact ⟨_, _, rfl, rfl, rfl, rfl, hso, fun _ q => by cases q⟩
      · rw [if_neg h1]
        have h2 : ¬ x2 < nI (ld s r) := fun h2 => by
          unfold inB at hc
          rw [decide_eq_true h1, decide_eq_true h2] at hc
          cases hc
        rw [if_neg h2]
        exact ⟨_, _, rfl, rfl, rfl, rfl, hso, fun _ q => by cases q⟩
    | true =>
      obtain ⟨b, hbl, rfl⟩ := inB_t (by omega) hc
      rw [if_neg (show ¬ b2i true = 0 by decide), if_neg (nI_pos (by omega)), if_pos (nI_lt hbl (by omega))]
      have key : ∀ (f size : Nat) (i0 m0 w0 l0 d0 t0 : Nat → Int32) (x0 y0 z0 : Int32) (free steps sos slots takes places : Nat → Int32) (states wto : Int32) (way found : Nat → Int32) (wrw wt ws fs fw : Int32), 1 ≤ size → size ≤ ld s r + 1 → ld s r + 1 < size + f → SO sos → ∃ p q, f_X7_broken_L40 N i m w l d t x y z (nI r) (nI b) (nI (ld s r)) f (nI size) i0 m0 w0 l0 d0 t0 x0 y0 z0 free steps sos slots takes places states wto = some p ∧ f_X8_broken_L42 N (-4) (nI r) (nI b) (nI (ld s r)) f (nI size) s way found wrw wt ws fs fw = some q ∧ p.1 = q.1 ∧ q.2.1 = s ∧ SO p.2.2.2.2.2.2.2.2.2.2.2.2.1 ∧ ((¬ wto = 0 ∨ size = 1) → ¬ p.2.2.2.2.2.2.2.2.2.2.2.2.2.2.2.2.2 = 0) := by
        intro f
        induction f with
        | zero => intro size i0 m0 w0 l0 d0 t0 x0 y0 z0 free steps sos slots takes places states wto way found wrw wt ws fs fw h1 h2 h3; omega
        | succ f ih =>
          intro size i0 m0 w0 l0 d0 t0 x0 y0 z0 free steps sos slots takes places states wto way found wrw wt ws fs fw h1 h2 h3 hso
          rw [f_X7_broken_L40, f_X8_broken_L42]
          by_cases hsz : size = ld s r + 1
          · rw [if_pos (nI_lt (by omega) (by omega)), if_pos (nI_lt (by omega) (by omega))]
            exact ⟨_, _, rfl, rfl, rfl, rfl, hso, fun q => q.elim id (fun z => by omega)⟩
          · rw [if_neg (nI_nlt (by omega) (by omega)), if_neg (nI_nlt (by omega) (by omega))]
            have inner : ∀ (fa ga a : Nat) (i0 m0 w0 l0 d0 t0 : Nat → Int32) (x0 y0 z0 : Int32) (free steps sos slots takes places : Nat → Int32) (states wto : Int32) (way found : Nat → Int32) (wrw wt ws fs fw : Int32), a ≤ b + 1 → b + 1 < a + fa → b + 1 < a + ga → SO sos → ∃ p q, f_X7_broken_L68 N i m w l d t x y z (fun z0 z1 z2 z3 z4 z5 z6 z7 z8 z9 z10 z11 z12 z13 z14 z15 z16 z17 => f_X7_broken_L40 N i m w l d t x y z (nI r) (nI b) (nI (ld s r)) f z0 z1 z2 z3 z4 z5 z6 z7 z8 z9 z10 z11 z12 z13 z14 z15 z16 z17) (nI r) (nI b) (nI (ld s r)) (nI size) (nI (min b (ld s r - size))) fa (nI a) i0 m0 w0 l0 d0 t0 x0 y0 z0 free steps sos slots takes places states wto = some p ∧ f_X8_broken_L56 N (-4) (fun z0 z1 z2 z3 z4 z5 z6 z7 z8 => f_X8_broken_L42 N (-4) (nI r) (nI b) (nI (ld s r)) f z0 z1 z2 z3 z4 z5 z6 z7 z8) (nI r) (nI b) (nI (ld s r)) (nI size) ga (nI a) s way found wrw wt ws fs fw = some q ∧ p.1 = q.1 ∧ q.2.1 = s ∧ SO p.2.2.2.2.2.2.2.2.2.2.2.2.1 ∧ ((¬ wto = 0 ∨ (a ≤ b ∧ a + size ≤ ld s r)) → ¬ p.2.2.2.2.2.2.2.2.2.2.2.2.2.2.2.2.2 = 0) := by
              intro fa
              induction fa with
              | zero => intro ga a i0 m0 w0 l0 d0 t0 x0 y0 z0 free steps sos slots takes places states wto way found wrw wt ws fs fw q1 q2; omega
              | succ fa ihi =>
                intro ga a i0 m0 w0 l0 d0 t0 x0 y0 z0 free steps sos slots takes places states wto way found wrw wt ws fs fw q1 q2 q3 hso
                by_cases hin : a ≤ b ∧ a + size ≤ ld s r
                · obtain ⟨ga, rfl⟩ : ∃ g, ga = g + 1 := ⟨ga - 1, by omega⟩
                  obtain ⟨p, q, g1, g2, g3, g4, g5, g6⟩ := r_mend (N := N) (i0 := i0) (m0 := m0) (w0 := w0) (l0 := l0) (d0 := d0) (t0 := t0) (x0 := x0) (y0 := y0) (z0 := z0) (free := free) (steps := steps) (slots := slots) (takes := takes) (places := places) (states := states) (wto := wto) (way := way) (found := found) (wrw := wrw) (wt := wt) (ws := ws) (fs := fs) (fw := fw) hN E O hso (b := b) hr (by omega) h1 hin.2
                  rw [f_X7_broken_L68, f_X8_broken_L56, if_neg (nI_nlt (by omega) (by omega)), if_neg (nI_nlt (by omega) (by omega)), if_neg (nI_pos (by omega)), nI_add, if_neg (nI_nlt (by omega) (by omega)), l1, pk_sub (by omega), g1, bs, g2, bs, g3]
                  cases hg : q.1 with
                  | false =>
                    rw [if_pos (show b2i false = 0 from rfl), if_pos (show b2i false = 0 from rfl), nI_add, g4]
                    obtain ⟨P, Q, y1, y2, y3, y4, y5, y6⟩ := ihi ga (a + 1) _ _ _ _ _ _ _ _ _ _ _ _ _ _ _ _ _ _ _ _ _ _ _ _ (by omega) (by omega) (by omega) g5
                    exact ⟨P, Q, y1, y2, y3, y4, y5, fun _ => y6 (Or.inl g6)⟩
                  | true =>
                    rw [if_neg (show ¬ b2i true = 0 by decide), if_neg (show ¬ b2i true = 0 by decide)]
                    exact ⟨_, _, rfl, rfl, rfl, g4, g5, fun _ => g6⟩
                · rw [e_brk_tail (by omega) (by omega) (by omega) ga a q1 q3 (by omega), f_X7_broken_L68, if_pos (nI_lt (by omega) (by omega))]
                  try dsimp only
                  rw [nI_1]
                  obtain ⟨P, Q, y1, y2, y3, y4, y5, y6⟩ := ih (size + 1) _ _ _ _ _ _ _ _ _ _ _ _ _ _ _ _ _ _ _ _ _ _ _ _ (by omega) (by omega) (by omega) hso
                  exact ⟨P, Q, y1, y2, y3, y4, y5, fun z => y6 (z.imp id (fun z => absurd z hin))⟩
            have hsm : nI b - nI size + 1 = nI b - nI (size - 1) := by
              have := sub_step (b := b) (e := size - 1)
              rw [show size - 1 + 1 = size by omega] at this
              exact this
            rw [pk_sub (show size ≤ ld s r by omega), mn_nI (by omega) (by omega), hsm]
            by_cases hbs : size - 1 ≤ b
            · have hmx : mx 0 (nI (b - (size - 1))) = nI (b - (size - 1)) := by
                unfold mx
                by_cases e : b - (size - 1) = 0
                · rw [e]
                  rfl
                · rw [if_pos (show (0 : Int32) < nI (b - (size - 1)) from nI_lt (a := 0) (by omega) (by omega))]
              rw [pk_sub hbs, hmx]
              obtain ⟨P, Q, y1, y2, y3, y4, y5, y6⟩ := inner N N (b - (size - 1)) i0 m0 w0 l0 d0 t0 x0 y0 z0 free steps sos slots takes places states wto way found wrw wt ws fs fw (by omega) (by omega) (by omega) hso
              exact ⟨P, Q, y1, y2, y3, y4, y5, fun z => y6 (z.imp id (fun z => by omega))⟩
            · have hv : (nI b - nI (size - 1)).toInt = (b : Int) - ((size - 1 : Nat) : Int) := pk_sub_toInt (by omega) (by omega)
              have hmx : mx 0 (nI b - nI (size - 1)) = nI 0 := by
                unfold mx
                rw [if_neg (show ¬ (0 : Int32) < nI b - nI (size - 1) by rw [fa_lt, hv, show (0 : Int32).toInt = 0 from rfl]; omega)]
                rfl
              have hsk := e_brk_skip (N := N) (s := s) (way := way) (found := found) (wrw := wrw) (wt := wt) (ws := ws) (fs := fs) (fw := fw) (K := fun z0 z1 z2 z3 z4 z5 z6 z7 z8 => f_X8_broken_L42 N (-4) (nI r) (nI b) (nI (ld s r)) f z0 z1 z2 z3 z4 z5 z6 z7 z8) (r := r) (b := b) (n := ld s r) (size := size) (by omega) (size - 1 - b) (N - (size - 1 - b)) (by omega)
              rw [show b + (size - 1 - b) = size - 1 by omega, show N - (size - 1 - b) + (size - 1 - b) = N by omega] at hsk
              rw [hmx, hsk]
              obtain ⟨P, Q, y1, y2, y3, y4, y5, y6⟩ := inner N (N - (size - 1 - b)) 0 i0 m0 w0 l0 d0 t0 x0 y0 z0 free steps sos slots takes places states wto way found wrw wt ws fs fw (by omega) (by omega) (by omega) hso
              exact ⟨P, Q, y1, y2, y3, y4, y5, fun z => y6 (z.imp id (fun z => by omega))⟩
      obtain ⟨P, Q, y1, y2, y3, y4, y5, y6⟩ := key N 1 i0 m0 w0 l0 d0 t0 x0 y0 z0 free steps sos slots takes places states wto way found wrw wt ws fs fw (by omega) (by omega) (by omega) hso
      exact ⟨P, Q, y1, y2, y3, y4, y5, fun _ _ => y6 (Or.inr rfl)⟩
end MEN
