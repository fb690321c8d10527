/-! ===== judge, lay, takeUp as calls ===== -/
def ShN (nums : Nat → Int32) (hold sort size : Int32) (kp so sz el : Nat → Int32) (dd : Nat) : Prop := kp dd = hold ∧ (hold = 0 ∨ hold = 1 ∨ hold = 2) ∧ (hold = 2 → so dd = sort ∧ (sort = 0 ∨ sort = 1 ∨ sort = 2) ∧ (∃ n, n ≤ 100 ∧ size = nI n ∧ sz dd = nI n) ∧ ∀ k, k < 100 → el (100 * dd + k) = nums k)
theorem Gd.setLd {s : Nat → Int32} (O : Ok s) {r : Nat} (hr : r < 6) : Ok (upd s (15 + 14 * r + 1) (nI 0)) := by
  have ei : ∀ v, v < 4 → inch (upd s (15 + 14 * r + 1) (nI 0)) v = inch s v := fun v hv => rN_ne (by omega)
  have em : ∀ v, v < 4 → mny (upd s (15 + 14 * r + 1) (nI 0)) v = mny s v := fun v hv => rN_ne (by omega)
  have ew : wide (upd s (15 + 14 * r + 1) (nI 0)) = wide s := rN_ne (by omega)
  have eh : high (upd s (15 + 14 * r + 1) (nI 0)) = high s := rN_ne (by omega)
  have el : ∀ q, len (upd s (15 + 14 * r + 1) (nI 0)) q = len s q := fun q => rN_ne (by omega)
  have ed : ∀ q, ld (upd s (15 + 14 * r + 1) (nI 0)) q = if q = r then 0 else ld s q := fun q => by
    by_cases e : q = r
    · subst e
      rw [if_pos rfl]
      exact rN_eq (by omega)
    · rw [if_neg e]
      exact rN_ne (by omega)
  have es : ∀ q k, q < 6 → k < 12 → sl (upd s (15 + 14 * r + 1) (nI 0)) q k = sl s q k := fun q k hq hk => rN_ne (by omega)
  have hw := O.w4
  have h6 := O.h6
  refine ⟨⟨O.S.upd (by omega), by rw [ew]; exact O.w4, fun v hv => ?_, fun q hq => ?_, fun q k hq hk => ?_⟩, fun v hv => ?_, fun v u hv hu he => ?_, fun v hv => ?_, by rw [eh]; exact O.h6, fun q hq => ?_, fun q k hq hk => ?_, fun q hq hl => ?_⟩
  · rw [ew] at hv
    rw [ei v (by omega)]
    exact O.i5 v hv
  · rw [ed]
    have := O.l12 q hq
    split <;> omega
  · have hl := O.l12 q hq
    rw [ed] at hk
    by_cases e : q = r
    · rw [if_pos e] at hk
      omega
    · rw [if_neg e] at hk
      rw [es q k hq (by omega)]
      exact O.sl4 q k hq hk
  · rw [ew] at hv
    rw [ei v (by omega)]
    exact O.i30 v hv
  · rw [ew] at hv hu
    rw [ei v (by omega), ei u (by omega)] at he
    exact O.dist v u hv hu he
  · rw [em v hv]
    exact O.m12 v hv
  · rw [eh] at hq
    rw [el]
    exact O.ln q hq
  · have hl := O.l12 q hq
    rw [ed] at hk
    by_cases e : q = r
    · rw [if_pos e] at hk
      omega
    · rw [if_neg e] at hk
      rw [es q k hq (by omega), ew]
      exact O.slw q k hq hk
  · rw [eh] at hq
    have hl12 := O.l12 q (by omega)
    rw [ed] at hl ⊢
    by_cases e : q = r
    · rw [if_pos e] at hl
      omega
    · rw [if_neg e] at hl ⊢
      have hs : ∀ j, j ≤ ld s q → sumIn (upd s (15 + 14 * r + 1) (nI 0)) q j = sumIn s q j := fun j hj => sumIn_cong j (fun k hk => by
        have := O.sl4 q k (by omega) (by omega)
        rw [es q k (by omega) (by omega), ei _ this])
      rw [hs _ (by omega), hs _ (Nat.le_refl _), el]
      exact O.sums q hq hl
section ENC9
variable {N : Nat} {i m w l d t : Nat → Int32} {x y z : Int32} {s : Nat → Int32} {nums kp so sz el us : Nat → Int32} {hold sort size : Int32} {Sh : Nat → Option Nat}
theorem rN_hold {dd : Nat} (hd : dd < 8) (hT : ShN nums hold sort size kp so sz el dd) : ∃ a, f_X7_refusalOfNumbers N Sh hold (nI dd) = some a ∧ f_X8_wrongRow N kp so (nI dd) (-1) = some a ∧ (a = 0 → hold = 2) := by
  obtain ⟨h1, h2, h3⟩ := hT
  have g4 : gi (nI dd) 8 = true := giT (by omega) (by omega)
  unfold f_X7_refusalOfNumbers f_X8_wrongRow
  rw [e_isShelf, bs, inB_i (by omega) hd]
  simp only [g4, ck_t, cl_nI (show dd < 2 ^ 31 by omega), h1, show ¬ b2i true = 0 by decide, if_false, show (-1 : Int32) < 0 by decide, if_true]
  rcases h2 with e | e | e
  · rw [e]
    exact ⟨-11, rfl, rfl, fun q => absurd q (by decide)⟩
  · rw [e]
    exact ⟨-12, rfl, rfl, fun q => absurd q (by decide)⟩
  · rw [e]
    exact ⟨0, rfl, rfl, fun _ => rfl⟩
theorem r_judge (hN : 200 < N) (E : Enc i m w l d t x y z s) (O : Ok s) {x1 x2 : Int32} (hT : ∀ dd, dd < 8 → x2 = nI dd → ShN nums hold sort size kp so sz el dd) : ∃ a us', f_X7_judge N Sh i m l d t x y z nums hold size x1 x2 = some a ∧ f_X8_judge N s kp so sz el us x1 x2 = some (a, us') := by
  have h6 := O.h6
  unfold f_X7_judge f_X8_judge f_X7_refusalOfTold
  rw [c_isShelf, bs, c_refO E O, bs, e_wrongJudge O, bs]
  by_cases hz : refO s x1 (inB x2 8) = 0
  · rw [if_pos hz, if_pos hz]
    obtain ⟨r, hr, hx1, hb, hl0⟩ := refO_0 O hz
    obtain ⟨dd, hd, hx2⟩ := inB_t (by omega) hb
    have T := hT dd hd hx2
    subst hx1
    subst hx2
    obtain ⟨a, q1, q2, q3⟩ := rN_hold (N := N) (Sh := Sh) hd T
    rw [q1, bs, bs, q2, bs]
    by_cases ha : a = 0
    · rw [if_pos ha, if_pos ha]
      obtain ⟨T1, T2, ⟨n, n1, n2, n3⟩, T4⟩ := T.2.2 (q3 ha)
      obtain ⟨b, us', p1, p2, p3⟩ := r_judgeOf hN E O hr (us := us) hd n1 n3 T4
      rw [ck_nI (by omega) (by omega), n2, p1, bs, p2, bs]
      exact ⟨_, _, rfl, rfl⟩
    · rw [if_neg ha, if_neg ha]
      exact ⟨_, _, rfl, rfl⟩
  · rw [if_neg hz, if_neg hz, if_neg hz, bs, if_neg hz]
    exact ⟨_, _, rfl, rfl⟩
theorem r_lay (hN : 200 < N) (E : Enc i m w l d t x y z s) (O : Ok s) {x1 x2 : Int32} (hT : ∀ dd, dd < 8 → x2 = nI dd → ShN nums hold sort size kp so sz el dd) : ∃ a m' d' t' s' us', f_X7_lay N Sh i m l d t x y z nums hold size x1 x2 = some (a, m', d', t') ∧ f_X8_lay N s kp so sz el us x1 x2 = some (a, s', us') ∧ Enc i m' w l d' t' x y z s' ∧ Ok s' := by
  have h6 := O.h6
  have hw := O.w4
  unfold f_X7_lay f_X8_lay f_X7_refusalOfTold
  rw [c_isShelf, bs, c_refO E O, bs, e_wrongJudge O, bs]
  by_cases hz : refO s x1 (inB x2 8) = 0
  · rw [if_pos hz, if_pos hz]
    obtain ⟨r, hr, hx1, hb, hl0⟩ := refO_0 O hz
    obtain ⟨dd, hd, hx2⟩ := inB_t (by omega) hb
    have T := hT dd hd hx2
    subst hx1
    subst hx2
    obtain ⟨a, q1, q2, q3⟩ := rN_hold (N := N) (Sh := Sh) hd T
    rw [q1, bs, bs, q2, bs]
    by_cases ha : a = 0
    · rw [if_pos ha, if_pos ha]
      obtain ⟨T1, T2, ⟨n, n1, n2, n3⟩, T4⟩ := T.2.2 (q3 ha)
      obtain ⟨b, us', p1, p2, p3⟩ := r_judgeOf hN E O hr (us := us) hd n1 n3 T4
      rw [ck_nI (by omega) (by omega), n2, p1, bs, p2, bs]
      by_cases hb4 : b = -4
      · rw [if_pos hb4, if_pos hb4]
        obtain ⟨c, c1, L⟩ := p3 hb4
        obtain ⟨L0, L1, L2, L3, L4, L5⟩ := id L
        have hc4 : ∀ k, k < n → c k < 4 := fun k hk => Nat.lt_of_lt_of_le (L2 k hk) hw
        obtain ⟨m', d', t', u1, u2⟩ := c_putDown (N := N) (by omega) E O.S (r := r) (by omega) L1 (nU := 100) (by omega) (by omega) hc4 L3 c1
        obtain ⟨O2, _, _, hh⟩ := O.lay hr L
        have hcut := c_cutOf (N := N) u2 O2.S (r := r) (by omega) (O2.l12 r (by omega)) (fun k => O2.sl4 r k (by omega)) (by omega)
        have hcut2 := e_cutOf (N := N) O2.S (r := r) (by omega) (O2.l12 r (by omega)) (fun k => O2.sl32 r k (by omega)) (by omega)
        have hel : ∀ k, k < n → el (100 * dd + k) = nI (c k) := fun k hk => by rw [T4 k (by omega), c1 k hk]
        have hml := e_lay_L (N := N) (us := us') (kp := kp) (so := so) (by omega) O.S (r := r) (by omega) L1 hc4 L3 hd n3 hel
        rw [u1, bs]
        try dsimp only
        rw [hcut, bs, hml, hcut2, bs]
        exact ⟨_, _, _, _, _, _, rfl, rfl, u2, O2⟩
      · rw [if_neg hb4, if_neg hb4]
        exact ⟨_, _, _, _, _, _, rfl, rfl, E, O⟩
    · rw [if_neg ha, if_neg ha]
      exact ⟨_, _, _, _, _, _, rfl, rfl, E, O⟩
  · rw [if_neg hz, if_neg hz, if_neg hz, bs, if_neg hz]
    exact ⟨_, _, _, _, _, _, rfl, rfl, E, O⟩
theorem setM_inc (h : Sm s) {v : Nat} (hv : v < 31) : f_X8_leaves N s (nI v) (-1) = some (setM s v (mny s v + 1)) := by
  unfold f_X8_leaves setM
  rw [l3, l1, pk_mul, nI_add, nI_add, ck_nI (by omega) (by omega), ck_nI (by omega) (by omega), cl_nI (by omega), h.at (by omega)]
  show some (upd s _ (nI (mny s v) - (-nI 1))) = _
  rw [Int32.sub_neg, nI_add]
theorem r_takeUp (hN : 20 < N) (E : Enc i m w l d t x y z s) (O : Ok s) {x1 : Int32} : ∃ a m' d' s', f_X7_takeUp N i m l d t y x1 = some (a, m', d') ∧ f_X8_takeUp N s x1 = some (a, s') ∧ Enc i m' w l d' t x y z s' ∧ Ok s' := by
  have h6 := O.h6
  have hw := O.w4
  unfold f_X7_takeUp f_X8_takeUp
  rw [E.high O.S, c_inB.1, bs, e_isRow O.S, bs, ← E.high O.S]
  cases hb : inB x1 (high s) with
  | false => exact ⟨_, _, _, _, rfl, rfl, E, O⟩
  | true =>
    obtain ⟨r, hr, rfl⟩ := inB_t (by omega) hb
    have hl12 := O.l12 r (by omega)
    rw [if_neg (show ¬ b2i true = 0 by decide), if_neg (show ¬ b2i true = 0 by decide), ck_nI (by omega) (by omega), cl_nI (by omega), E.ld O.S (by omega), e_laid0 O hr]
    by_cases hz : ld s r = 0
    · rw [if_pos (by rw [hz]; rfl), if_pos hz]
      exact ⟨_, _, _, _, rfl, rfl, E, O⟩
    · rw [if_neg (nI_ne0 (by omega) (by omega)), if_neg hz]
      unfold f_X3_bringBack
      rw [c_wholeOnesOf E O.S (by omega) hl12 (fun k => O.sl4 r k (by omega)) hN, bs, e_cutOf O.S (by omega) hl12 (fun k => O.sl32 r k (by omega)) hN, bs, e_slates O.S (by omega), bs, bs]
      have hlen := O.ln r hr
      have hsb := sumIn_b O.S (r := r) (k := ld s r) (fun j hj => O.sl32 r j (by omega) hj) (ld s r) (Nat.le_refl _)
      have key : ∀ (f j : Nat) (v : Int32) (mj sj : Nat → Int32) (n : Nat), n ≤ ld sj r → j ≤ n → n < j + f → Enc i mj w l d t x y z sj → Ok sj → ∃ a m' d' s', f_X3_bringBack_L11 N i l d t (nI r) (nI n) f v (nI j) mj = some (a, m', d') ∧ f_X8_takeUp_L50 N (nI r) (nI n) f v (nI j) sj = some (a, s') ∧ Enc i m' w l d' t x y z s' ∧ Ok s' := by
        intro f
        induction f with
        | zero => intro j v mj sj n h0 h1 h2; omega
        | succ f ih =>
          intro j v mj sj n h0 h1 h2 Ej Oj
          have hlj := Oj.l12 r (by omega)
          have hwj := Oj.w4
          rw [f_X3_bringBack_L11, f_X8_takeUp_L50]
          by_cases hj : j = n
          · subst hj
            rw [if_pos (nI_le (Nat.le_refl _) (by omega)), if_pos (nI_le (Nat.le_refl _) (by omega)), ck_nI (by omega) (by omega), cl_nI (by omega), l15, l14, l1, pk_mul, nI_add, nI_add, ck_nI (by omega) (by omega), cl_nI (by omega)]
            exact ⟨_, _, _, _, rfl, rfl, Ej.setLd (by omega), Gd.setLd Oj (by omega)⟩
          · have hs4 := Oj.sl4 r j (by omega) (by omega)
            have hm12 := Oj.m12 (sl sj r j) hs4
            have g5 : gi (nI (sl sj r j)) 4 = true := giT hs4 (by omega)
            rw [if_neg (nI_ge (by omega) (by omega)), if_neg (nI_ge (by omega) (by omega)), c_slateAt Ej Oj.S (by omega) (by omega), e_slateOf Oj.S (by omega) (by omega)]
            simp only [bs, g5, ck_t, cl_nI (show sl sj r j < 2 ^ 31 by omega), Ej.mny Oj.S hs4, e_many Oj.S (show sl sj r j < 31 by omega), nI_1, setM_inc Oj.S (show sl sj r j < 31 by omega)]
            rw [l12]
            by_cases hm : mny sj (sl sj r j) = 12
            · rw [if_pos (nI_le (a := 12) (by omega) (by omega)), if_pos (by rw [hm])]
              exact ih (j + 1) _ _ _ n h0 (by omega) (by omega) Ej Oj
            · rw [if_neg (nI_ge (b := 12) (by omega) (by omega)), if_neg (fun q => hm ((nI_eq (b := 12) (by omega) (by omega)).mp q))]
              exact ih (j + 1) _ _ _ n (by rw [setM_ld hs4]; exact h0) (by omega) (by omega) (Ej.set hs4) (Oj.set hs4 (by omega))
      have hcl := cutI_le (s := s) (r := r) (by omega) (by omega)
      by_cases hc : cutI s r ≤ 0
      · have hn : wholeN s r = ld s r := by
          unfold wholeN
          rcases hcl.mp hc with q | q
          · omega
          · rw [if_neg (by omega)]
        rw [if_pos hc, hn]
        obtain ⟨a, m', d', s', k1, k2, k3, k4⟩ := key N 0 0 m s (ld s r) (Nat.le_refl _) (by omega) (by omega) E O
        rw [show (0 : Int32) = nI 0 from rfl] at k1 k2 ⊢
        rw [k1, k2]
        exact ⟨_, _, _, _, rfl, rfl, k3, k4⟩
      · have hn : wholeN s r = ld s r - 1 := by
          unfold wholeN
          rw [if_pos (Nat.lt_of_not_le fun q => hc (hcl.mpr (Or.inr q)))]
        rw [if_neg hc, hn, l1, pk_sub (by omega)]
        obtain ⟨a, m', d', s', k1, k2, k3, k4⟩ := key N 0 0 m s (ld s r - 1) (by omega) (by omega) (by omega) E O
        rw [show (0 : Int32) = nI 0 from rfl] at k1 k2 ⊢
        rw [k1, k2]
        exact ⟨_, _, _, _, rfl, rfl, k3, k4⟩
end ENC9
