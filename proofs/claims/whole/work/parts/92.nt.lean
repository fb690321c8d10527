/-! ===== what the fills take; two ===== -/
theorem code_cnt : ∀ q : List Nat, (∀ w, w ∈ q → w < 4) → wsum (fun w => 13 ^ w) q = q.count 0 + 13 * q.count 1 + 169 * q.count 2 + 2197 * q.count 3
  | [], _ => rfl
  | w :: q, h => by
    have h1 := code_cnt q (fun u hu => h u (List.mem_cons_of_mem _ hu))
    have hw := h w List.mem_cons_self
    show 13 ^ w + wsum (fun w => 13 ^ w) q = _
    rw [h1, List.count_cons, List.count_cons, List.count_cons, List.count_cons]
    rcases v4 hw with e | e | e | e <;> subst e <;> simp <;> omega
theorem code_dgt {a b c d : Nat} (ha : a ≤ 12) (hb : b ≤ 12) (hc : c ≤ 12) (hd : d ≤ 12) : dgt (a + 13 * b + 169 * c + 2197 * d) 0 = a ∧ dgt (a + 13 * b + 169 * c + 2197 * d) 1 = b ∧ dgt (a + 13 * b + 169 * c + 2197 * d) 2 = c ∧ dgt (a + 13 * b + 169 * c + 2197 * d) 3 = d := by
  unfold dgt
  rw [show (13 : Nat) ^ 0 = 1 from rfl, show (13 : Nat) ^ 1 = 13 from rfl, show (13 : Nat) ^ 2 = 169 from rfl, show (13 : Nat) ^ 3 = 2197 from rfl]
  refine ⟨?_, ?_, ?_, ?_⟩ <;> omega
theorem fill_code {s : Nat → Int32} (O : Ok s) {r to : Nat} {q : List Nat} (hq : q ∈ flS s r 0 to) : wsum (fun w => 13 ^ w) q < 28561 ∧ ∀ v, v < 4 → dgt (wsum (fun w => 13 ^ w) q) v = q.count v := by
  obtain ⟨_, f2, f3⟩ := fl_fact _ _ _ _ hq
  have hw := O.w4
  have hc := code_cnt q (fun w hw2 => Nat.lt_of_lt_of_le (f2 w hw2) hw)
  have c12 : ∀ v, v < 4 → q.count v ≤ 12 := fun v hv => Nat.le_trans (f3 v) (O.m12 v hv)
  have c0 := c12 0 (by omega)
  have c1 := c12 1 (by omega)
  have c2 := c12 2 (by omega)
  have c3 := c12 3 (by omega)
  obtain ⟨d0, d1, d2, d3⟩ := code_dgt c0 c1 c2 c3
  rw [hc]
  refine ⟨by omega, fun v hv => ?_⟩
  rcases v4 hv with e | e | e | e <;> subst e
  · exact d0
  · exact d1
  · exact d2
  · exact d3
section TAK
variable {N : Nat} {i m w l d t : Nat → Int32} {x y z : Int32} {s : Nat → Int32}
variable {free steps sos slots takes places values : Nat → Int32} {states wto : Int32} {T : Nat → Nat → Nat} {n row to : Nat}
theorem c_taken (hN : 5000 < N) (hto : to ≤ 60) (h : WT s row 0 to steps sos slots takes places T n) : ∃ (values' U : Nat → Int32) (nU : Nat) (A : Nat → Nat → Nat), f_X6_takenByFills N takes places values (nI n) (nI to) = some (values', U, nU) ∧ nU ≤ 1820 ∧ (∀ k, k < nU → U k = nI (cod (A k)) ∧ ∃ j, j < n ∧ plc (inch s) 0 (T j) = to ∧ A k = T j) ∧ ∀ j, j < n → plc (inch s) 0 (T j) = to → ∃ k, k < nU ∧ A k = T j := by
  have hn : n ≤ 1820 := h.2.1.2.2.2.2.2.1
  have key : ∀ (f c j : Nat) (vals : Nat → Int32) (A : Nat → Nat → Nat), c ≤ j → j ≤ n → n < j + f → (∀ k, k < c → vals k = nI (cod (A k)) ∧ ∃ j', j' < j ∧ plc (inch s) 0 (T j') = to ∧ A k = T j') → (∀ j', j' < j → plc (inch s) 0 (T j') = to → ∃ k, k < c ∧ A k = T j') →
      ∃ (values' U : Nat → Int32) (nU : Nat) (A : Nat → Nat → Nat), f_X6_takenByFills_L4 N takes places (nI n) (nI to) f (nI c) (nI j) vals = some (values', U, nU) ∧ nU ≤ 1820 ∧ (∀ k, k < nU → U k = nI (cod (A k)) ∧ ∃ j, j < n ∧ plc (inch s) 0 (T j) = to ∧ A k = T j) ∧ ∀ j, j < n → plc (inch s) 0 (T j) = to → ∃ k, k < nU ∧ A k = T j := by
    intro f
    induction f with
    | zero => intro c j vals A h1 h2 h3; omega
    | succ f ih =>
      intro c j vals A h1 h2 h3 h4 h5
      rw [f_X6_takenByFills_L4]
      by_cases hj : j = n
      · subst hj
        rw [if_pos (nI_le (Nat.le_refl _) (by omega)), show gl (nI c) = true from gl_iff.mpr ⟨nI_pos (by omega), by rw [cl_nI (by omega)]; omega⟩, ck_t, cl_nI (by omega), show cpk 0 0 (nI c) 1820 c = true from cpk_iff.mpr ⟨⟨⟨⟨by decide, by decide⟩, nI_pos (by omega)⟩, by rw [cl_nI (by omega)]; show 0 + c ≤ 1820; omega⟩, by rw [cl_nI (by omega)]; show 0 + c ≤ c; omega⟩, ck_t]
        refine ⟨_, _, c, A, rfl, by omega, fun k hk => ⟨?_, (h4 k hk).2⟩, h5⟩
        show va_cpy vals (fun _ => 0) 0 0 c k = nI (cod (A k))
        rw [pk_cpy_in (by omega) (by omega), show 0 + (k - 0) = k by omega]
        exact (h4 k hk).1
      · have hp := (h.2.1.1 j (by omega)).1.2.2
        rw [if_neg (nI_ge (by omega) (by omega)), ck_nI (by omega) (by omega), cl_nI (by omega), (h.2.1.2.1 j (by omega)).2.2.1, nI_1, nI_1]
        by_cases he : plc (inch s) 0 (T j) = to
        · rw [if_pos (by rw [he]), ck_nI (by omega) (by omega), ck_nI (by omega) (by omega), cl_nI (by omega), (h.2.1.2.1 j (by omega)).2.1]
          refine ih (c + 1) (j + 1) _ (fun k => if k = c then T j else A k) (by omega) (by omega) (by omega) (fun k hk => ?_) (fun j' hj' hp' => ?_)
          · by_cases e : k = c
            · subst e
              try dsimp only
              rw [pk_us, if_pos rfl]
              exact ⟨rfl, j, by omega, he, rfl⟩
            · try dsimp only
              rw [pk_un e, if_neg e]
              obtain ⟨g1, j2, g2, g3, g4⟩ := h4 k (by omega)
              exact ⟨g1, j2, by omega, g3, g4⟩
          · by_cases e : j' = j
            · subst e
              exact ⟨c, by omega, if_pos rfl⟩
            · obtain ⟨k, g1, g2⟩ := h5 j' (by omega) hp'
              refine ⟨k, by omega, ?_⟩
              try dsimp only
              rw [if_neg (by omega)]
              exact g2
        · rw [if_neg (fun q => he ((nI_eq (by omega) (by omega)).mp q))]
          refine ih c (j + 1) vals A (by omega) (by omega) (by omega) (fun k hk => ?_) (fun j' hj' hp' => ?_)
          · obtain ⟨g1, j2, g2, g3, g4⟩ := h4 k hk
            exact ⟨g1, j2, by omega, g3, g4⟩
          · by_cases e : j' = j
            · subst e
              exact absurd hp' he
            · exact h5 j' (by omega) hp'
  exact key N 0 0 values (fun _ _ => 0) (by omega) (by omega) (by omega) (fun k hk => by omega) (fun j hj => by omega)
theorem SPr_all {val : Nat → Nat → Option Nat} {n1 n2 : Nat} (v : Nat) : SPr val n2 n1 0 v ↔ ∃ a b, a < n1 ∧ b < n2 ∧ val a b = some v :=
  ⟨fun ⟨a, b, h1, h2, h3⟩ => ⟨a, b, by omega, h2, h3⟩, fun ⟨a, b, h1, h2, h3⟩ => ⟨a, b, Or.inl h1, h2, h3⟩⟩
theorem val_cong {A B : Nat → Nat → Nat} {P Q : Nat → Prop} [DecidablePred P] [DecidablePred Q] {a b c e : Nat} (hw : wide s ≤ 4) (hp : P c) (hq : Q e) (h1 : ∀ v, v < 4 → A a v = dgt c v) (h2 : ∀ v, v < 4 → B b v = dgt e v) : valC s A B a b = valM s P Q c e := by
  have e1 : af (bothB s (A a) (B b)) 0 (wide s) = af (bothB s (dgt c) (dgt e)) 0 (wide s) := af_cong _ _ (fun v _ hv => by
    unfold bothB
    rw [h1 v (by omega), h2 v (by omega)])
  have e2 : wT s (A a) (wide s) = wT s (dgt c) (wide s) := wT_cong _ (fun v hv => h1 v (by omega))
  have e3 : wT s (B b) (wide s) = wT s (dgt e) (wide s) := wT_cong _ (fun v hv => h2 v (by omega))
  unfold valC valM
  rw [e1, e2, e3]
  by_cases h : af (bothB s (dgt c) (dgt e)) 0 (wide s) = true
  · rw [if_pos h, if_pos ⟨hp, hq, h⟩]
  · rw [if_neg h, if_neg (fun z => h z.2.2)]
theorem e_two58 (hN : 30000 < N) {is1 is2 : Nat → Int32} {x1 x2 : Int32} : ∃ a b, f_X8_two_L58 N s x1 x2 N 0 is1 is2 = ((f_X8_marks_1 N 16 s a x1 0 0).bind fun r_13 => (f_X8_marks_2 N 16 r_13.1 b x2 0 0).bind fun r_14 => f_X8_two_L113 N r_14.1 r_13.2 r_14.2 N (-4) 0) ∧ (∀ k, k < 28561 → a k = 0) ∧ ∀ k, k < 28561 → b k = 0 := by
  have v0 : vp_nar .boolean 0 = 0 := b2i_vp false
  have key : ∀ (f j : Nat) (a b : Nat → Int32), j ≤ 28561 → 28561 < j + f → (∀ k, k < j → a k = 0) → (∀ k, k < j → b k = 0) → ∃ a' b', f_X8_two_L58 N s x1 x2 f (nI j) a b = ((f_X8_marks_1 N 16 s a' x1 0 0).bind fun r_13 => (f_X8_marks_2 N 16 r_13.1 b' x2 0 0).bind fun r_14 => f_X8_two_L113 N r_14.1 r_13.2 r_14.2 N (-4) 0) ∧ (∀ k, k < 28561 → a' k = 0) ∧ ∀ k, k < 28561 → b' k = 0 := by
    intro f
    induction f with
    | zero => intro j a b h1 h2; omega
    | succ f ih =>
      intro j a b h1 h2 h3 h4
      rw [f_X8_two_L58]
      by_cases hj : j = 28561
      · subst hj
        rw [if_pos (show (28561 : Int32) ≤ nI 28561 by decide)]
        exact ⟨a, b, rfl, h3, h4⟩
      · rw [if_neg (show ¬ (28561 : Int32) ≤ nI j from nI_ge (b := 28561) (by omega) (by omega)), ck_nI (by omega) (by omega), ck_nI (by omega) (by omega), cl_nI (by omega), nI_1, v0]
        exact ih (j + 1) _ _ (by omega) (by omega) (upd_le (g := fun _ => 0) h3) (upd_le (g := fun _ => 0) h4)
  exact key N 0 is1 is2 (by omega) (by omega) (fun k hk => by omega) (fun k hk => by omega)
theorem hs4_le (O : Ok s) : hs4 s ≤ 28560 := by
  have c0 := O.m12 0 (by omega)
  have c1 := O.m12 1 (by omega)
  have c2 := O.m12 2 (by omega)
  have c3 := O.m12 3 (by omega)
  unfold hs4
  omega
theorem mkL_0 {is : Nat → Int32} {L : List Nat} {k : Nat} (h : is k = 0) : mkL is L k = 0 ↔ ¬ k ∈ L := by
  unfold mkL
  by_cases e : k ∈ L
  · rw [if_pos e]
    exact ⟨fun q => absurd q (by decide), fun q => absurd e q⟩
  · rw [if_neg e]
    exact ⟨fun _ => e, fun _ => h⟩
theorem r_twoC (hN : 30000 < N) (E : Enc i m w l d t x y z s) (O : Ok s) (hso : SO sos) {x1 x2 : Int32} {is1 is2 : Nat → Int32} : ∃ p q, f_X7_two N i m w l d t x y z free steps sos slots takes places values states wto x1 x2 = some p ∧ f_X8_two N s is1 is2 x1 x2 = some q ∧ p.1 = q.1 ∧ q.2.1 = s ∧ SO p.2.2.2.1 := by
  have h6 := O.h6
  have hw4 := O.w4
  unfold f_X7_two f_X8_two
  rw [show f_X7_isRow N y x1 = some (inB x1 (high s)) by rw [E.high O.S]; exact c_inB.1, show f_X7_isRow N y x2 = some (inB x2 (high s)) by rw [E.high O.S]; exact c_inB.1, bs, bs, e_isRow O.S, bs, e_isRow O.S, bs]
  cases hb : inB x1 (high s) with
  | false =>
    rw [if_pos (show b2i false = 0 from rfl), if_pos (show b2i false = 0 from rfl)]
    exact ⟨_, _, rfl, rfl, rfl, rfl, hso⟩
  | true =>
    obtain ⟨a, ha, rfl⟩ := inB_t (by omega) hb
    rw [if_neg (show ¬ b2i true = 0 by decide), if_neg (show ¬ b2i true = 0 by decide)]
    cases hc : inB x2 (high s) with
    | false =>
      rw [if_pos (show b2i false = 0 from rfl), if_pos (show b2i false = 0 from rfl)]
      exact ⟨_, _, rfl, rfl, rfl, rfl, hso⟩
    | true =>
      obtain ⟨b, hbh, rfl⟩ := inB_t (by omega) hc
      rw [if_neg (show ¬ b2i true = 0 by decide), if_neg (show ¬ b2i true = 0 by decide), ab_d (by omega) (by omega)]
      have hla := O.l12 a (by omega)
      have hlb := O.l12 b (by omega)
      have sb1 : (nI a - nI b = 1) ↔ a = b + 1 := by
        have z1 : (nI a - nI b).toInt = (a : Int) - b := pk_sub_toInt (by omega) (by omega)
        refine ⟨fun q => ?_, fun q => ?_⟩
        · rw [q, show (1 : Int32).toInt = 1 from rfl] at z1
          omega
        · rw [q, pk_sub (by omega), show b + 1 - b = 1 by omega]
          rfl
      have sb2 : (nI b - nI a = 1) ↔ b = a + 1 := by
        have z1 : (nI b - nI a).toInt = (b : Int) - a := pk_sub_toInt (by omega) (by omega)
        refine ⟨fun q => ?_, fun q => ?_⟩
        · rw [q, show (1 : Int32).toInt = 1 from rfl] at z1
          omega
        · rw [q, pk_sub (by omega), show a + 1 - a = 1 by omega]
          rfl
      by_cases hd : 1 < absd a b
      · have hfar : a ≠ b ∧ a ≠ b + 1 ∧ b ≠ a + 1 := by
          unfold absd at hd
          split at hd <;> omega
        rw [if_pos (show (1 : Int32) < nI (absd a b) from nI_lt (a := 1) hd (by unfold absd; split <;> omega)), if_neg (fun q => hfar.1 ((nI_eq (by omega) (by omega)).mp q)), if_neg (fun q => hfar.2.1 (sb1.mp q)), if_neg (fun q => hfar.2.2 (sb2.mp q)), ck_nI (by omega) (by omega), ck_nI (by omega) (by omega), cl_nI (by omega), cl_nI (by omega), E.ld O.S (by omega), E.ld O.S (by omega), e_laid0 O ha, e_laid0 O hbh]
        by_cases hz1 : ld s a = 0
        · rw [if_neg (show ¬ (0 : Int32) < nI (ld s a) by rw [hz1]; decide), if_pos hz1]
          by_cases hz2 : ld s b = 0
          · rw [if_pos (show nI (ld s b) ≤ 0 by rw [hz2]; decide), if_pos hz2]
            obtain ⟨la1, la2⟩ := O.ln a ha
            obtain ⟨lb1, lb2⟩ := O.ln b hbh
            obtain ⟨T1, n1, a1, a2, a3, a4, a5, a6, e1, e2⟩ := c_waysOf (N := N) E O.wd (by omega) (row := a) (by omega) la2 (free := free) (steps := steps) (slots := slots) (takes := takes) (places := places) (states := states) (wto := wto) hso
            obtain ⟨v1, U1, nU1, A, f1, f2, f3, f4⟩ := c_taken (N := N) (values := values) (by omega) la2 e2
            obtain ⟨T2, n2, b1, b2, b3, b4, b5, b6, g1, g2⟩ := c_waysOf (N := N) E O.wd (by omega) (row := b) (by omega) lb2 (free := a1) (steps := a2) (slots := a4) (takes := a5) (places := a6) (states := nI n1) (wto := nI (len s a)) e2.so
            obtain ⟨v2, U2, nU2, B, h1, h2, h3, h4⟩ := c_taken (N := N) (values := v1) (by omega) lb2 g2
            have wa := wt_takes O.wd la2 (by omega) e2
            have wb := wt_takes O.wd lb2 (by omega) g2
            have hwa := O.wd.WI la2 (Nat.zero_le _)
            have hwb := O.wd.WI lb2 (Nat.zero_le _)
            have hA15 : ∀ k, k < nU1 → U1 k = nI (cod (A k)) ∧ ∀ v, v < 4 → A k v ≤ 15 := fun k hk => by
              obtain ⟨q1, j, q2, q3, q4⟩ := f3 k hk
              refine ⟨q1, fun v hv => ?_⟩
              rw [q4]
              exact Nat.le_trans ((e2.2.1.1 j q2).1.le15 hwa v hv) (by omega)
            have hB15 : ∀ k, k < nU2 → U2 k = nI (cod (B k)) ∧ ∀ v, v < 4 → B k v ≤ 15 := fun k hk => by
              obtain ⟨q1, j, q2, q3, q4⟩ := h3 k hk
              refine ⟨q1, fun v hv => ?_⟩
              rw [q4]
              exact Nat.le_trans ((g2.2.1.1 j q2).1.le15 hwb v hv) (by omega)
            obtain ⟨c, k1, k2⟩ := c_least (N := N) (by omega) E O f2 h2 hA15 hB15
            obtain ⟨z1, z2, y1, y2, y3⟩ := e_two58 (N := N) (s := s) (is1 := is1) (is2 := is2) (x1 := nI a) (x2 := nI b) hN
            have hfa : fl (wide s) (inch s) (mayB s a) (len s a) 16 (mny s) 0 = flS s a 0 (len s a) := fl_fuel O.i5 16 61 _ _ (by omega) (by omega) (by omega)
            have hfb : fl (wide s) (inch s) (mayB s b) (len s b) 16 (mny s) 0 = flS s b 0 (len s b) := fl_fuel O.i5 16 61 _ _ (by omega) (by omega) (by omega)
            have hm1 := e_marks_1 (N := N) (by omega) (r := a) (by omega) 16 s z1 0 0 O.g la2 (Nat.zero_le _) (by omega) (by have := hs4_le O; omega)
            have hm2 := e_marks_2 (N := N) (by omega) (r := b) (by omega) 16 s z2 0 0 O.g lb2 (Nat.zero_le _) (by omega) (by have := hs4_le O; omega)
            rw [hfa] at hm1
            rw [hfb] at hm2
            have hm1' : f_X8_marks_1 N 16 s z1 (nI a) 0 0 = _ := hm1
            have hm2' : f_X8_marks_2 N 16 s z2 (nI b) 0 0 = _ := hm2
            obtain ⟨c', k3, k4⟩ := e_least (N := N) (s := s) (is1 := mkL z1 ((flS s a 0 (len s a)).map (fun q => 0 + wsum (fun w => 13 ^ w) q))) (is2 := mkL z2 ((flS s b 0 (len s b)).map (fun q => 0 + wsum (fun w => 13 ^ w) q))) (P := fun k => k ∈ (flS s a 0 (len s a)).map (fun q => 0 + wsum (fun w => 13 ^ w) q)) (Q := fun k => k ∈ (flS s b 0 (len s b)).map (fun q => 0 + wsum (fun w => 13 ^ w) q)) hN O (fun k hk => mkL_0 (y2 k hk)) (fun k hk => mkL_0 (y3 k hk))
            have hset : ∀ v, SPr (valC s A B) nU2 nU1 0 v ↔ SPr (valM s (fun k => k ∈ (flS s a 0 (len s a)).map (fun q => 0 + wsum (fun w => 13 ^ w) q)) (fun k => k ∈ (flS s b 0 (len s b)).map (fun q => 0 + wsum (fun w => 13 ^ w) q))) 28561 28561 0 v := by
              intro v
              rw [SPr_all, SPr_all]
              constructor
              · rintro ⟨p, q, hp, hq, hv⟩
                obtain ⟨_, j, q2, q3, q4⟩ := f3 p hp
                obtain ⟨_, j', r2, r3, r4⟩ := h3 q hq
                obtain ⟨l1, m1, m2⟩ := wa.2 j q2 q3
                obtain ⟨l2, m3, m4⟩ := wb.2 j' r2 r3
                obtain ⟨o1, o2⟩ := fill_code O m1
                obtain ⟨o3, o4⟩ := fill_code O m3
                refine ⟨0 + wsum (fun w => 13 ^ w) l1, 0 + wsum (fun w => 13 ^ w) l2, by omega, by omega, ?_⟩
                rw [← val_cong (A := A) (B := B) (a := p) (b := q) hw4 (List.mem_map.mpr ⟨l1, m1, rfl⟩) (List.mem_map.mpr ⟨l2, m3, rfl⟩) (fun u hu => by rw [Nat.zero_add, o2 u hu, m2 u hu, q4]) (fun u hu => by rw [Nat.zero_add, o4 u hu, m4 u hu, r4])]
                exact hv
              · rintro ⟨p, q, hp, hq, hv⟩
                by_cases hpp : p ∈ (flS s a 0 (len s a)).map (fun q => 0 + wsum (fun w => 13 ^ w) q)
                · by_cases hqq : q ∈ (flS s b 0 (len s b)).map (fun q => 0 + wsum (fun w => 13 ^ w) q)
                  · obtain ⟨l1, m1, m2⟩ := List.mem_map.mp hpp
                    obtain ⟨l2, m3, m4⟩ := List.mem_map.mp hqq
                    obtain ⟨j, n1', n2', n3'⟩ := wa.1 l1 m1
                    obtain ⟨j', n4', n5', n6'⟩ := wb.1 l2 m3
                    obtain ⟨k, s1, s2⟩ := f4 j n1' n2'
                    obtain ⟨k', s3, s4⟩ := h4 j' n4' n5'
                    obtain ⟨o1, o2⟩ := fill_code O m1
                    obtain ⟨o3, o4⟩ := fill_code O m3
                    refine ⟨k, k', s1, s3, ?_⟩
                    rw [val_cong (A := A) (B := B) (a := k) (b := k') (c := p) (e := q) hw4 hpp hqq (fun u hu => by rw [← m2, Nat.zero_add, o2 u hu, s2]; exact n3' u hu) (fun u hu => by rw [← m4, Nat.zero_add, o4 u hu, s4]; exact n6' u hu)]
                    exact hv
                  · exfalso
                    unfold valM at hv
                    rw [if_neg (fun z => hqq z.2.1)] at hv
                    cases hv
                · exfalso
                  unfold valM at hv
                  rw [if_neg (fun z => hpp z.1)] at hv
                  cases hv
            have hcc : c = c' := Least.uniq (k2.cong hset) k4
            rw [e1, bs]
            dsimp only
            rw [f1, bs]
            dsimp only
            rw [g1, bs]
            dsimp only
            rw [h1, bs]
            dsimp only
            rw [k1, bs, y1, hm1', bs]
            dsimp only
            rw [hm2', bs]
            dsimp only
            rw [k3, hcc]
            exact ⟨_, _, rfl, rfl, rfl, rfl, g2.so⟩
          · rw [if_neg (nI_nle (Nat.pos_of_ne_zero hz2) (by omega)), if_neg hz2]
            exact ⟨_, _, rfl, rfl, rfl, rfl, hso⟩
        · rw [if_pos (show (0 : Int32) < nI (ld s a) from nI_lt (a := 0) (by omega) (by omega)), if_neg hz1]
          exact ⟨_, _, rfl, rfl, rfl, rfl, hso⟩
      · rw [if_neg (show ¬ (1 : Int32) < nI (absd a b) from nI_nlt (a := 1) (by omega) (by omega))]
        have hnear : a = b ∨ a = b + 1 ∨ b = a + 1 := by
          unfold absd at hd
          split at hd <;> omega
        have e : ∀ {α : Type} (A B : Option α), (if nI a = nI b then A else if nI a - nI b = 1 then A else if nI b - nI a = 1 then A else B) = A := fun A B => by
          by_cases q1 : nI a = nI b
          · rw [if_pos q1]
          · rw [if_neg q1]
            by_cases q2 : nI a - nI b = 1
            · rw [if_pos q2]
            · rw [if_neg q2]
              rcases hnear with q | q | q
              · exact absurd (by rw [q]) q1
              · exact absurd (sb1.mpr q) q2
              · rw [if_pos (sb2.mpr q)]
        rw [e]
        exact ⟨_, _, rfl, rfl, rfl, rfl, hso⟩
end TAK
