/-! ===== two rows from one heap: what the reference marks ===== -/
def mkL (is : Nat → Int32) (L : List Nat) : Nat → Int32 := fun k => if k ∈ L then 1 else is k
theorem mkL_nil {is : Nat → Int32} : mkL is [] = is := by
  funext k
  unfold mkL
  rw [if_neg (fun h => by cases h)]
theorem mkL_one {is : Nat → Int32} {c : Nat} : upd is c 1 = mkL is [c] := by
  funext k
  unfold mkL
  by_cases e : k = c
  · subst e
    rw [pk_us, if_pos List.mem_cons_self]
  · rw [pk_un e, if_neg (fun h => by
      rcases List.mem_cons.mp h with q | q
      · exact e q
      · cases q)]
theorem mkL_app {is : Nat → Int32} {A B : List Nat} : mkL (mkL is A) B = mkL is (A ++ B) := by
  funext k
  unfold mkL
  by_cases h1 : k ∈ B
  · rw [if_pos h1, if_pos (List.mem_append_right _ h1)]
  · rw [if_neg h1]
    by_cases h2 : k ∈ A
    · rw [if_pos h2, if_pos (List.mem_append_left _ h2)]
    · rw [if_neg h2, if_neg (fun h => (List.mem_append.mp h).elim h2 h1)]
def hs4 (s : Nat → Int32) : Nat := mny s 0 + 13 * mny s 1 + 169 * mny s 2 + 2197 * mny s 3
theorem hs4_dec {s : Nat → Int32} (h : Sm s) {j : Nat} (hj : j < 4) (hm : mny s j ≠ 0) : hs4 (decS s j) + 13 ^ j = hs4 s := by
  unfold hs4
  rw [decS_mny h (by omega)]
  unfold dec
  rcases v4 hj with e | e | e | e <;> subst e <;> simp only [if_true, if_false, show (13 : Nat) ^ 0 = 1 from rfl, show (13 : Nat) ^ 1 = 13 from rfl, show (13 : Nat) ^ 2 = 169 from rfl, show (13 : Nat) ^ 3 = 2197 from rfl, show ¬ (1 : Nat) = 0 by omega, show ¬ (2 : Nat) = 0 by omega, show ¬ (3 : Nat) = 0 by omega, show ¬ (0 : Nat) = 1 by omega, show ¬ (2 : Nat) = 1 by omega, show ¬ (3 : Nat) = 1 by omega, show ¬ (0 : Nat) = 2 by omega, show ¬ (1 : Nat) = 2 by omega, show ¬ (3 : Nat) = 2 by omega, show ¬ (0 : Nat) = 3 by omega, show ¬ (1 : Nat) = 3 by omega, show ¬ (2 : Nat) = 3 by omega] <;> omega
section MRK1
variable {N : Nat}
theorem e_marks_1 (hN : 5000 < N) {r : Nat} (hr : r < 6) : ∀ (dd : Nat) (s is : Nat → Int32) (pl cd : Nat), Gd s → len s r ≤ 60 → pl ≤ len s r → (len s r - pl) / 5 < dd → cd + hs4 s ≤ 28560 →
    f_X8_marks_1 N dd s is (nI r) (nI pl) (nI cd) = some (s, mkL is ((fl (wide s) (inch s) (mayB s r) (len s r) dd (mny s) pl).map (fun q => cd + wsum (fun w => 13 ^ w) q))) := by
  intro dd
  induction dd with
  | zero => intro s is pl cd _ _ _ h; omega
  | succ dd ihd =>
    intro s is pl cd hG hl60 hpl hdd hcd
    obtain ⟨hS, hW, hI, hD, hL⟩ := id hG
    rw [f_X8_marks_1, e_lengthOf hS hr, bs]
    by_cases hz : pl = len s r
    · rw [if_pos (by rw [hz]), ck_nI (by omega) (by omega), cl_nI (by omega), show vp_nar .boolean 1 = 1 from b2i_vp true, show fl (wide s) (inch s) (mayB s r) (len s r) (dd + 1) (mny s) pl = [[]] by rw [fl, if_pos hz], mkL_one]
      rfl
    · rw [if_neg (fun z => hz ((nI_eq (by omega) (by omega)).mp z)), show fl (wide s) (inch s) (mayB s r) (len s r) (dd + 1) (mny s) pl = flw (fun w => if stp (inch s) (mayB s r) (len s r) (mny s) pl w = true then (fl (wide s) (inch s) (mayB s r) (len s r) dd (dec (mny s) w) (pl + inch s w)).map (fun q => w :: q) else []) 0 (wide s) by rw [fl, if_neg hz]]
      have key : ∀ (n j : Nat) (is : Nat → Int32), j ≤ wide s → wide s < j + n → f_X8_marks_1_L21 N (f_X8_marks_1 N dd) (nI r) (nI pl) (nI cd) n (nI (13 ^ j)) (nI j) s is = some (s, mkL is ((flw (fun w => if stp (inch s) (mayB s r) (len s r) (mny s) pl w = true then (fl (wide s) (inch s) (mayB s r) (len s r) dd (dec (mny s) w) (pl + inch s w)).map (fun q => w :: q) else []) j (wide s - j)).map (fun q => cd + wsum (fun w => 13 ^ w) q))) := by
        intro n
        induction n with
        | zero => intro j is h1 h2; omega
        | succ n ih =>
          intro j is h1 h2
          rw [f_X8_marks_1_L21, (ck1 hS).1, (ck1 hS (α := Nat) (k := none)).2]
          by_cases hj : j = wide s
          · rw [hj, if_pos (nI_le (Nat.le_refl _) (by omega)), Nat.sub_self]
            show some (s, is) = some (s, mkL is [])
            rw [mkL_nil]
          · have hmb := mny_le hS (w := j) (by omega)
            have hib : inch s j ≤ 99 := hS.le (by omega)
            have hi5 := hI j (by omega)
            have hnext := ih (j + 1)
            have hpw : nI (13 ^ j) * 13 = nI (13 ^ (j + 1)) := by rw [show (13 : Int32) = nI 13 from rfl, pk_mul, Nat.pow_succ]
            rw [if_neg (nI_ge (by omega) (by omega)), e_inches hS (by omega), bs, e_many hS (by omega), bs, e_lengthOf hS hr, bs, bs, show wide s - j = (wide s - (j + 1)) + 1 by omega, flw, List.map_append, ← mkL_app, hpw, nI_1, nI_add, nI_add]
            have hsk : stp (inch s) (mayB s r) (len s r) (mny s) pl j = false → f_X8_marks_1_L21 N (f_X8_marks_1 N dd) (nI r) (nI pl) (nI cd) n (nI (13 ^ (j + 1))) (nI (j + 1)) s is = some (s, mkL (mkL is ((if stp (inch s) (mayB s r) (len s r) (mny s) pl j = true then (fl (wide s) (inch s) (mayB s r) (len s r) dd (dec (mny s) j) (pl + inch s j)).map (fun q => j :: q) else []).map (fun q => cd + wsum (fun w => 13 ^ w) q))) ((flw (fun w => if stp (inch s) (mayB s r) (len s r) (mny s) pl w = true then (fl (wide s) (inch s) (mayB s r) (len s r) dd (dec (mny s) w) (pl + inch s w)).map (fun q => w :: q) else []) (j + 1) (wide s - (j + 1))).map (fun q => cd + wsum (fun w => 13 ^ w) q))) := by
              intro hst
              rw [if_neg (by rw [hst]; exact Bool.false_ne_true), List.map_nil, mkL_nil]
              exact hnext is (by omega) (by omega)
            have hgo : stp (inch s) (mayB s r) (len s r) (mny s) pl j = true → ((f_X8_leaves N s (nI j) 1).bind fun r_11 => (f_X8_marks_1 N dd r_11 is (nI r) (nI (pl + inch s j)) (nI (cd + 13 ^ j))).bind fun r_12 => (f_X8_leaves N r_12.1 (nI j) (-1)).bind fun r_13 => f_X8_marks_1_L21 N (f_X8_marks_1 N dd) (nI r) (nI pl) (nI cd) n (nI (13 ^ (j + 1))) (nI (j + 1)) r_13 r_12.2) = some (s, mkL (mkL is ((if stp (inch s) (mayB s r) (len s r) (mny s) pl j = true then (fl (wide s) (inch s) (mayB s r) (len s r) dd (dec (mny s) j) (pl + inch s j)).map (fun q => j :: q) else []).map (fun q => cd + wsum (fun w => 13 ^ w) q))) ((flw (fun w => if stp (inch s) (mayB s r) (len s r) (mny s) pl w = true then (fl (wide s) (inch s) (mayB s r) (len s r) dd (dec (mny s) w) (pl + inch s w)).map (fun q => w :: q) else []) (j + 1) (wide s - (j + 1))).map (fun q => cd + wsum (fun w => 13 ^ w) q))) := by
              intro hst
              have hst' := hst
              unfold stp at hst'
              simp only [Bool.and_eq_true, decide_eq_true_eq] at hst'
              obtain ⟨hm, hle, _⟩ := hst'
              have hG2 := hG.dec (w := j) (by omega)
              have hlen2 : len (decS s j) r = len s r := decS_len (by omega)
              have hh := hs4_dec hS (j := j) (by omega) hm
              have hrec := ihd (decS s j) is (pl + inch s j) (cd + 13 ^ j) hG2 (by rw [hlen2]; exact hl60) (by rw [hlen2]; exact hle) (by rw [hlen2]; omega) (by omega)
              rw [decS_wide, decS_inch, decS_mayB (by omega), decS_mny hS (by omega), hlen2] at hrec
              rw [e_leaves1 hS (by omega) hm, bs, hrec, bs]
              dsimp only
              rw [e_leavesm hS (by omega) hm, bs, if_pos hst, List.map_map]
              have hfun : ((fun q => cd + wsum (fun w => 13 ^ w) q) ∘ fun q => j :: q) = (fun q => cd + 13 ^ j + wsum (fun w => 13 ^ w) q) := funext fun q => by
                show cd + (13 ^ j + wsum (fun w => 13 ^ w) q) = _
                rw [Nat.add_assoc]
              rw [hfun]
              exact hnext _ (by omega) (by omega)
            by_cases hm : mny s j = 0
            · rw [hm, if_pos (show nI 0 ≤ 0 by decide)]
              exact hsk (by unfold stp; rw [decide_eq_false (fun z => z hm)]; rfl)
            · rw [if_neg (nI_nle (Nat.pos_of_ne_zero hm) (by omega))]
              by_cases hover : len s r < pl + inch s j
              · rw [if_pos (nI_lt hover (by omega))]
                exact hsk (by unfold stp; rw [decide_eq_false (p := pl + inch s j ≤ len s r) (by omega), Bool.false_and, Bool.and_false])
              · rw [if_neg (nI_nlt (by omega) (by omega))]
                by_cases heq : pl + inch s j = len s r
                · rw [if_pos (by rw [heq])]
                  exact hgo (by unfold stp; rw [decide_eq_true hm, decide_eq_true (p := pl + inch s j ≤ len s r) (by omega), decide_eq_true heq]; rfl)
                · rw [if_neg (fun z => heq ((nI_eq (by omega) (by omega)).mp z)), e_mayBe hS hr (by omega) hD (fun q k h1 h2 => Nat.lt_trans (hL q k h1 h2) (by omega)) (by omega), bs]
                  by_cases hmy : mayB s r (pl + inch s j) = true
                  · rw [if_neg (b2i_n0.mpr hmy)]
                    exact hgo (by unfold stp; rw [decide_eq_true hm, decide_eq_true (p := pl + inch s j ≤ len s r) (by omega), hmy, Bool.or_true]; rfl)
                  · rw [if_pos (b2i_0.mpr (by simpa using hmy))]
                    exact hsk (by
                      unfold stp
                      rw [decide_eq_false (p := pl + inch s j = len s r) heq, show mayB s r (pl + inch s j) = false by simpa using hmy]
                      simp)
      exact key N 0 is (Nat.zero_le _) (by omega)
end MRK1
section MRK2
variable {N : Nat}
theorem e_marks_2 (hN : 5000 < N) {r : Nat} (hr : r < 6) : ∀ (dd : Nat) (s is : Nat → Int32) (pl cd : Nat), Gd s → len s r ≤ 60 → pl ≤ len s r → (len s r - pl) / 5 < dd → cd + hs4 s ≤ 28560 →
    f_X8_marks_2 N dd s is (nI r) (nI pl) (nI cd) = some (s, mkL is ((fl (wide s) (inch s) (mayB s r) (len s r) dd (mny s) pl).map (fun q => cd + wsum (fun w => 13 ^ w) q))) := by
  intro dd
  induction dd with
  | zero => intro s is pl cd _ _ _ h; omega
  | succ dd ihd =>
    intro s is pl cd hG hl60 hpl hdd hcd
    obtain ⟨hS, hW, hI, hD, hL⟩ := id hG
    rw [f_X8_marks_2, e_lengthOf hS hr, bs]
    by_cases hz : pl = len s r
    · rw [if_pos (by rw [hz]), ck_nI (by omega) (by omega), cl_nI (by omega), show vp_nar .boolean 1 = 1 from b2i_vp true, show fl (wide s) (inch s) (mayB s r) (len s r) (dd + 1) (mny s) pl = [[]] by rw [fl, if_pos hz], mkL_one]
      rfl
    · rw [if_neg (fun z => hz ((nI_eq (by omega) (by omega)).mp z)), show fl (wide s) (inch s) (mayB s r) (len s r) (dd + 1) (mny s) pl = flw (fun w => if stp (inch s) (mayB s r) (len s r) (mny s) pl w = true then (fl (wide s) (inch s) (mayB s r) (len s r) dd (dec (mny s) w) (pl + inch s w)).map (fun q => w :: q) else []) 0 (wide s) by rw [fl, if_neg hz]]
      have key : ∀ (n j : Nat) (is : Nat → Int32), j ≤ wide s → wide s < j + n → f_X8_marks_2_L21 N (f_X8_marks_2 N dd) (nI r) (nI pl) (nI cd) n (nI (13 ^ j)) (nI j) s is = some (s, mkL is ((flw (fun w => if stp (inch s) (mayB s r) (len s r) (mny s) pl w = true then (fl (wide s) (inch s) (mayB s r) (len s r) dd (dec (mny s) w) (pl + inch s w)).map (fun q => w :: q) else []) j (wide s - j)).map (fun q => cd + wsum (fun w => 13 ^ w) q))) := by
        intro n
        induction n with
        | zero => intro j is h1 h2; omega
        | succ n ih =>
          intro j is h1 h2
          rw [f_X8_marks_2_L21, (ck1 hS).1, (ck1 hS (α := Nat) (k := none)).2]
          by_cases hj : j = wide s
          · rw [hj, if_pos (nI_le (Nat.le_refl _) (by omega)), Nat.sub_self]
            show some (s, is) = some (s, mkL is [])
            rw [mkL_nil]
          · have hmb := mny_le hS (w := j) (by omega)
            have hib : inch s j ≤ 99 := hS.le (by omega)
            have hi5 := hI j (by omega)
            have hnext := ih (j + 1)
            have hpw : nI (13 ^ j) * 13 = nI (13 ^ (j + 1)) := by rw [show (13 : Int32) = nI 13 from rfl, pk_mul, Nat.pow_succ]
            rw [if_neg (nI_ge (by omega) (by omega)), e_inches hS (by omega), bs, e_many hS (by omega), bs, e_lengthOf hS hr, bs, bs, show wide s - j = (wide s - (j + 1)) + 1 by omega, flw, List.map_append, ← mkL_app, hpw, nI_1, nI_add, nI_add]
            have hsk : stp (inch s) (mayB s r) (len s r) (mny s) pl j = false → f_X8_marks_2_L21 N (f_X8_marks_2 N dd) (nI r) (nI pl) (nI cd) n (nI (13 ^ (j + 1))) (nI (j + 1)) s is = some (s, mkL (mkL is ((if stp (inch s) (mayB s r) (len s r) (mny s) pl j = true then (fl (wide s) (inch s) (mayB s r) (len s r) dd (dec (mny s) j) (pl + inch s j)).map (fun q => j :: q) else []).map (fun q => cd + wsum (fun w => 13 ^ w) q))) ((flw (fun w => if stp (inch s) (mayB s r) (len s r) (mny s) pl w = true then (fl (wide s) (inch s) (mayB s r) (len s r) dd (dec (mny s) w) (pl + inch s w)).map (fun q => w :: q) else []) (j + 1) (wide s - (j + 1))).map (fun q => cd + wsum (fun w => 13 ^ w) q))) := by
              intro hst
              rw [if_neg (by rw [hst]; exact Bool.false_ne_true), List.map_nil, mkL_nil]
              exact hnext is (by omega) (by omega)
            have hgo : stp (inch s) (mayB s r) (len s r) (mny s) pl j = true → ((f_X8_leaves N s (nI j) 1).bind fun r_11 => (f_X8_marks_2 N dd r_11 is (nI r) (nI (pl + inch s j)) (nI (cd + 13 ^ j))).bind fun r_12 => (f_X8_leaves N r_12.1 (nI j) (-1)).bind fun r_13 => f_X8_marks_2_L21 N (f_X8_marks_2 N dd) (nI r) (nI pl) (nI cd) n (nI (13 ^ (j + 1))) (nI (j + 1)) r_13 r_12.2) = some (s, mkL (mkL is ((if stp (inch s) (mayB s r) (len s r) (mny s) pl j = true then (fl (wide s) (inch s) (mayB s r) (len s r) dd (dec (mny s) j) (pl + inch s j)).map (fun q => j :: q) else []).map (fun q => cd + wsum (fun w => 13 ^ w) q))) ((flw (fun w => if stp (inch s) (mayB s r) (len s r) (mny s) pl w = true then (fl (wide s) (inch s) (mayB s r) (len s r) dd (dec (mny s) w) (pl + inch s w)).map (fun q => w :: q) else []) (j + 1) (wide s - (j + 1))).map (fun q => cd + wsum (fun w => 13 ^ w) q))) := by
              intro hst
              have hst' := hst
              unfold stp at hst'
              simp only [Bool.and_eq_true, decide_eq_true_eq] at hst'
              obtain ⟨hm, hle, _⟩ := hst'
              have hG2 := hG.dec (w := j) (by omega)
              have hlen2 : len (decS s j) r = len s r := decS_len (by omega)
              have hh := hs4_dec hS (j := j) (by omega) hm
              have hrec := ihd (decS s j) is (pl + inch s j) (cd + 13 ^ j) hG2 (by rw [hlen2]; exact hl60) (by rw [hlen2]; exact hle) (by rw [hlen2]; omega) (by omega)
              rw [decS_wide, decS_inch, decS_mayB (by omega), decS_mny hS (by omega), hlen2] at hrec
              rw [e_leaves1 hS (by omega) hm, bs, hrec, bs]
              dsimp only
              rw [e_leavesm hS (by omega) hm, bs, if_pos hst, List.map_map]
              have hfun : ((fun q => cd + wsum (fun w => 13 ^ w) q) ∘ fun q => j :: q) = (fun q => cd + 13 ^ j + wsum (fun w => 13 ^ w) q) := funext fun q => by
                show cd + (13 ^ j + wsum (fun w => 13 ^ w) q) = _
                rw [Nat.add_assoc]
              rw [hfun]
              exact hnext _ (by omega) (by omega)
            by_cases hm : mny s j = 0
            · rw [hm, if_pos (show nI 0 ≤ 0 by decide)]
              exact hsk (by unfold stp; rw [decide_eq_false (fun z => z hm)]; rfl)
            · rw [if_neg (nI_nle (Nat.pos_of_ne_zero hm) (by omega))]
              by_cases hover : len s r < pl + inch s j
              · rw [if_pos (nI_lt hover (by omega))]
                exact hsk (by unfold stp; rw [decide_eq_false (p := pl + inch s j ≤ len s r) (by omega), Bool.false_and, Bool.and_false])
              · rw [if_neg (nI_nlt (by omega) (by omega))]
                by_cases heq : pl + inch s j = len s r
                · rw [if_pos (by rw [heq])]
                  exact hgo (by unfold stp; rw [decide_eq_true hm, decide_eq_true (p := pl + inch s j ≤ len s r) (by omega), decide_eq_true heq]; rfl)
                · rw [if_neg (fun z => heq ((nI_eq (by omega) (by omega)).mp z)), e_mayBe hS hr (by omega) hD (fun q k h1 h2 => Nat.lt_trans (hL q k h1 h2) (by omega)) (by omega), bs]
                  by_cases hmy : mayB s r (pl + inch s j) = true
                  · rw [if_neg (b2i_n0.mpr hmy)]
                    exact hgo (by unfold stp; rw [decide_eq_true hm, decide_eq_true (p := pl + inch s j ≤ len s r) (by omega), hmy, Bool.or_true]; rfl)
                  · rw [if_pos (b2i_0.mpr (by simpa using hmy))]
                    exact hsk (by
                      unfold stp
                      rw [decide_eq_false (p := pl + inch s j = len s r) heq, show mayB s r (pl + inch s j) = false by simpa using hmy]
                      simp)
      exact key N 0 is (Nat.zero_le _) (by omega)
end MRK2
