/-! ===== the reference's recursion over all fills ===== -/
theorem e_fillsFrom {N : Nat} (hN : 20 < N) {r to : Nat} (hr : r < 6) (hto : to ≤ 99) {ebI : Int32} {eb : Option Nat} (heb : (ebI < 0 ∧ eb = none) ∨ ∃ e, eb = some e ∧ ebI = nI e ∧ e < 100) {tk : Int32} {t : Bool} (htk : tk = 1 ↔ t = true) :
    ∀ (dd : Nat) (s way found : Nat → Int32) (ways fs fw : Int32) (pl : Nat) (pre : List Nat) (v : Nat) (τ : Nat × Option (List Nat × Nat)), Gd s → pl ≤ to → (to - pl) / 5 < dd → pre.length + (to - pl) / 5 ≤ 14 → (pl = to → pre ≠ []) → (∀ j, j < pre.length → way j = nI (pre.getD j 0) ∧ pre.getD j 0 < 100) → v ≤ 99 * pre.length → FSt τ found ways fs fw →
    ∃ way' found' ways' fs' fw', f_X8_fillsFrom N (nI r) (nI to) ebI dd s way found ways fs fw (nI pl) (nI pre.length) (nI v) tk = some (s, way', found', ways', fs', fw') ∧ (∀ j, j < pre.length → way' j = way j) ∧
      FSt ((fl (wide s) (inch s) (mayB s r) to dd (mny s) pl).foldl (fun τ q => vis eb t τ (pre ++ q) (v + wsum (wor s) q)) τ) found' ways' fs' fw' := by
  intro dd
  induction dd with
  | zero => intro s way found ways fs fw pl pre v τ _ _ h; omega
  | succ dd ihd =>
    intro s way found ways fs fw pl pre v τ hG hpl hdd hlen hne hpre hv hF
    obtain ⟨hS, hW, hI, hD, hL⟩ := id hG
    rw [f_X8_fillsFrom]
    by_cases hz : pl = to
    · -- a fill is met
      rw [if_pos (by rw [hz])]
      have hfl : fl (wide s) (inch s) (mayB s r) to (dd + 1) (mny s) pl = [[]] := by rw [fl, if_pos hz]
      rw [hfl]
      have hk16 : pre.length ≤ 16 := by omega
      have hp := fun j hj => (hpre j hj).1
      have hv30 : v < 2 ^ 30 := by omega
      have hend : (([[]] : List (List Nat)).foldl (fun τ q => vis eb t τ (pre ++ q) (v + wsum (wor s) q)) τ) = vis eb t τ pre v := by
        show vis eb t τ (pre ++ []) (v + wsum (wor s) []) = _
        rw [List.append_nil]
        rfl
      rw [hend]
      rcases heb with ⟨h1, h2⟩ | ⟨e, h1, h2, h3⟩
      · rw [if_pos h1]
        obtain ⟨f', s', w', e1, e2⟩ := e_leaf (N := N) hN (s := s) (way := way) (found := found) (wr := nI r) (wt := nI to) (ws := ways + 1) (eb := ebI) (fs := fs) (fw := fw) (REC := f_X8_fillsFrom N (nI r) (nI to) ebI dd) htk hk16 hv30 hp hF.2
        refine ⟨way, f', ways + 1, s', w', e1, fun _ _ => rfl, ?_, e2⟩
        show ways + 1 = nI (τ.1 + (if eb = none ∨ pre.getLast? = eb then 1 else 0))
        rw [if_pos (Or.inl h2), hF.1, nI_1]
      · have hnn : ¬ ebI < 0 := by rw [h2]; exact nI_pos (by omega)
        have hpne := hne hz
        have hlp : 0 < pre.length := List.length_pos_iff.mpr hpne
        rw [if_neg hnn, l1, pk_sub (by omega), ck_nI (by omega) (by omega), cl_nI (by omega)]
        obtain ⟨hw1, hw2⟩ := hpre (pre.length - 1) (by omega)
        rw [hw1, h2]
        by_cases hq : pre.getD (pre.length - 1) 0 = e
        · rw [if_pos (by rw [hq])]
          obtain ⟨f', s', w', e1, e2⟩ := e_leaf (N := N) hN (s := s) (way := way) (found := found) (wr := nI r) (wt := nI to) (ws := ways + nI 1) (eb := nI e) (fs := fs) (fw := fw) (REC := f_X8_fillsFrom N (nI r) (nI to) (nI e) dd) htk hk16 hv30 hp hF.2
          refine ⟨way, f', ways + nI 1, s', w', e1, fun _ _ => rfl, ?_, e2⟩
          show ways + nI 1 = nI (τ.1 + (if eb = none ∨ pre.getLast? = eb then 1 else 0))
          rw [if_pos (Or.inr (by rw [getD_last pre hpne, hq, h1])), hF.1, nI_add]
        · rw [if_neg (fun z => hq ((nI_eq (by omega) (by omega)).mp z))]
          obtain ⟨f', s', w', e1, e2⟩ := e_leaf (N := N) hN (s := s) (way := way) (found := found) (wr := nI r) (wt := nI to) (ws := ways) (eb := nI e) (fs := fs) (fw := fw) (REC := f_X8_fillsFrom N (nI r) (nI to) (nI e) dd) htk hk16 hv30 hp hF.2
          refine ⟨way, f', ways, s', w', e1, fun _ _ => rfl, ?_, e2⟩
          show ways = nI (τ.1 + (if eb = none ∨ pre.getLast? = eb then 1 else 0))
          have hno : ¬ (eb = none ∨ pre.getLast? = eb) := by
            rw [getD_last pre hpne, h1]
            intro z
            rcases z with z | z
            · cases z
            · exact hq (Option.some.inj z)
          rw [if_neg hno, hF.1]
          rfl
    · -- the widths one behind another
      rw [if_neg (fun z => hz ((nI_eq (by omega) (by omega)).mp z))]
      have hfl : fl (wide s) (inch s) (mayB s r) to (dd + 1) (mny s) pl = flw (fun w => if stp (inch s) (mayB s r) to (mny s) pl w = true then (fl (wide s) (inch s) (mayB s r) to dd (dec (mny s) w) (pl + inch s w)).map (fun q => w :: q) else []) 0 (wide s) := by rw [fl, if_neg hz]
      rw [hfl]
      have key : ∀ (n j : Nat) (way found : Nat → Int32) (ways fs fw : Int32) (τ : Nat × Option (List Nat × Nat)), j ≤ wide s → wide s < j + n → (∀ i, i < pre.length → way i = nI (pre.getD i 0) ∧ pre.getD i 0 < 100) → FSt τ found ways fs fw →
          ∃ way' found' ways' fs' fw', f_X8_fillsFrom_L104 N (nI r) (nI to) ebI (f_X8_fillsFrom N (nI r) (nI to) ebI dd) (nI pl) (nI pre.length) (nI v) tk n (nI j) s way found ways fs fw = some (s, way', found', ways', fs', fw') ∧ (∀ i, i < pre.length → way' i = way i) ∧
            FSt ((flw (fun w => if stp (inch s) (mayB s r) to (mny s) pl w = true then (fl (wide s) (inch s) (mayB s r) to dd (dec (mny s) w) (pl + inch s w)).map (fun q => w :: q) else []) j (wide s - j)).foldl (fun τ q => vis eb t τ (pre ++ q) (v + wsum (wor s) q)) τ) found' ways' fs' fw' := by
        intro n
        induction n with
        | zero => intro j way found ways fs fw τ h1 h2; omega
        | succ n ih =>
          intro j way found ways fs fw τ h1 h2 hpre hF
          have hw1 : s (1 : Int32).toNatClampNeg = nI (wide s) := hS.at (k := 1) (by omega)
          rw [f_X8_fillsFrom_L104, show gi 1 99 = true by decide, ck_t, hw1]
          by_cases hj : j = wide s
          · rw [hj, if_pos (nI_le (Nat.le_refl _) (by omega)), Nat.sub_self]
            exact ⟨way, found, ways, fs, fw, rfl, fun _ _ => rfl, hF⟩
          · rw [if_neg (nI_ge (by omega) (by omega)), e_inches hS (by omega), bs, e_many hS (by omega), bs, show wide s - j = (wide s - (j + 1)) + 1 by omega, flw, List.foldl_append]
            have hmb := mny_le hS (w := j) (by omega)
            have hib : inch s j ≤ 99 := hS.le (by omega)
            have hi5 := hI j (by omega)
            have hsk : stp (inch s) (mayB s r) to (mny s) pl j = false → ∃ way' found' ways' fs' fw', f_X8_fillsFrom_L104 N (nI r) (nI to) ebI (f_X8_fillsFrom N (nI r) (nI to) ebI dd) (nI pl) (nI pre.length) (nI v) tk n (nI j + 1) s way found ways fs fw = some (s, way', found', ways', fs', fw') ∧ (∀ i, i < pre.length → way' i = way i) ∧
                FSt ((flw (fun w => if stp (inch s) (mayB s r) to (mny s) pl w = true then (fl (wide s) (inch s) (mayB s r) to dd (dec (mny s) w) (pl + inch s w)).map (fun q => w :: q) else []) (j + 1) (wide s - (j + 1))).foldl (fun τ q => vis eb t τ (pre ++ q) (v + wsum (wor s) q)) ((if stp (inch s) (mayB s r) to (mny s) pl j = true then (fl (wide s) (inch s) (mayB s r) to dd (dec (mny s) j) (pl + inch s j)).map (fun q => j :: q) else []).foldl (fun τ q => vis eb t τ (pre ++ q) (v + wsum (wor s) q)) τ)) found' ways' fs' fw' := by
              intro hst
              rw [if_neg (by rw [hst]; exact Bool.false_ne_true), nI_1]
              exact ih (j + 1) way found ways fs fw τ (by omega) (by omega) hpre hF
            by_cases hm : mny s j = 0
            · rw [if_pos (by rw [hm]; rfl)]
              exact hsk (by unfold stp; rw [decide_eq_false (by omega)]; rfl)
            · rw [if_neg (nI_ne0 (by omega) (by omega)), nI_add]
              by_cases hover : to < pl + inch s j
              · rw [if_pos (nI_lt hover (by omega))]
                exact hsk (by unfold stp; rw [decide_eq_false (p := pl + inch s j ≤ to) (by omega), Bool.false_and, Bool.and_false])
              · rw [if_neg (nI_nlt (by omega) (by omega))]
                -- the step itself
                have hgo : stp (inch s) (mayB s r) to (mny s) pl j = true → ∃ way' found' ways' fs' fw', (f_X8_leaves N s (nI j) 1).bind (fun r_8 => ck (gi (nI pre.length) 16) ((f_X8_worth N r_8 (nI j)).bind fun r_9 => (f_X8_fillsFrom N (nI r) (nI to) ebI dd r_8 (upd way (nI pre.length).toNatClampNeg (nI j)) found ways fs fw (nI (pl + inch s j)) (nI pre.length + 1) (nI v + r_9) tk).bind fun r_10 => (f_X8_leaves N r_10.1 (nI j) (-1)).bind fun r_11 => f_X8_fillsFrom_L104 N (nI r) (nI to) ebI (f_X8_fillsFrom N (nI r) (nI to) ebI dd) (nI pl) (nI pre.length) (nI v) tk n (nI j + 1) r_11 r_10.2.1 r_10.2.2.1 r_10.2.2.2.1 r_10.2.2.2.2.1 r_10.2.2.2.2.2)) = some (s, way', found', ways', fs', fw') ∧ (∀ i, i < pre.length → way' i = way i) ∧
                    FSt ((flw (fun w => if stp (inch s) (mayB s r) to (mny s) pl w = true then (fl (wide s) (inch s) (mayB s r) to dd (dec (mny s) w) (pl + inch s w)).map (fun q => w :: q) else []) (j + 1) (wide s - (j + 1))).foldl (fun τ q => vis eb t τ (pre ++ q) (v + wsum (wor s) q)) ((if stp (inch s) (mayB s r) to (mny s) pl j = true then (fl (wide s) (inch s) (mayB s r) to dd (dec (mny s) j) (pl + inch s j)).map (fun q => j :: q) else []).foldl (fun τ q => vis eb t τ (pre ++ q) (v + wsum (wor s) q)) τ)) found' ways' fs' fw' := by
                  intro hst
                  have hwb : wor s j ≤ 99 := hS.le (by omega)
                  rw [if_pos hst, e_leaves1 hS (by omega) hm, bs, ck_nI (by omega) (by omega), e_worth (decS_Sm hS (by omega)) (by omega), bs, decS_wor, nI_add, nI_1, cl_nI (by omega)]
                  have hG2 := hG.dec (w := j) (by omega)
                  have hpl2 : (pre ++ [j]).length = pre.length + 1 := by simp
                  have hdiv : (to - (pl + inch s j)) / 5 + 1 ≤ (to - pl) / 5 := by omega
                  obtain ⟨w2, f2, y2, s2, x2, q1, q2, q3⟩ := ihd (decS s j) (upd way pre.length (nI j)) found ways fs fw (pl + inch s j) (pre ++ [j]) (v + wor s j) τ hG2 (by omega) (by omega) (by rw [hpl2]; omega) (fun _ => by simp) (fun i hi => by
                    rw [hpl2] at hi
                    by_cases hie : i = pre.length
                    · subst hie
                      rw [getD_end, pk_us]
                      exact ⟨rfl, by omega⟩
                    · rw [getD_app pre j i (by omega), pk_un hie]
                      exact hpre i (by omega)) (by rw [hpl2]; omega) hF
                  rw [hpl2] at q1
                  rw [q1, bs, e_leavesm hS (by omega) hm, bs, nI_1]
                  obtain ⟨w3, f3, y3, s3, x3, p1, p2, p3⟩ := ih (j + 1) w2 f2 y2 s2 x2 _ (by omega) (by omega) (fun i hi => by
                    rw [q2 i (by rw [hpl2]; omega), pk_un (by omega)]
                    exact hpre i hi) q3
                  refine ⟨w3, f3, y3, s3, x3, p1, fun i hi => ?_, ?_⟩
                  · rw [p2 i hi, q2 i (by rw [hpl2]; omega), pk_un (by omega)]
                  · rw [decS_wide, decS_inch, decS_mayB (by omega), decS_mny hS (by omega), decS_wor] at p3
                    rw [foldl_map_w]
                    have hfun : (fun (τ : Nat × Option (List Nat × Nat)) (q : List Nat) => vis eb t τ (pre ++ [j] ++ q) (v + wor s j + wsum (wor s) q)) = (fun τ q => vis eb t τ (pre ++ j :: q) (v + wsum (wor s) (j :: q))) := by
                      funext τ q
                      show _ = vis eb t τ (pre ++ j :: q) (v + (wor s j + wsum (wor s) q))
                      rw [List.append_assoc, Nat.add_assoc]
                      rfl
                    rw [hfun] at p3
                    exact p3
                by_cases heq : to ≤ pl + inch s j
                · rw [if_pos (nI_le heq (by omega))]
                  exact hgo (by unfold stp; rw [decide_eq_true (by omega), decide_eq_true (p := pl + inch s j ≤ to) (by omega), decide_eq_true (p := pl + inch s j = to) (by omega)]; rfl)
                · rw [if_neg (nI_ge (by omega) (by omega)), e_mayBe hS hr (by omega) hD (fun q k h1 h2 => Nat.lt_trans (hL q k h1 h2) (by omega)) hN, bs]
                  by_cases hmy : mayB s r (pl + inch s j) = true
                  · rw [if_neg (b2i_n0.mpr hmy)]
                    exact hgo (by unfold stp; rw [decide_eq_true (by omega), decide_eq_true (p := pl + inch s j ≤ to) (by omega), hmy, Bool.or_true]; rfl)
                  · rw [if_pos (b2i_0.mpr (by simpa using hmy))]
                    exact hsk (by
                      unfold stp
                      rw [decide_eq_false (p := pl + inch s j = to) (by omega), show mayB s r (pl + inch s j) = false by simpa using hmy]
                      simp)
      obtain ⟨w3, f3, y3, s3, x3, p1, p2, p3⟩ := key N 0 way found ways fs fw τ (Nat.zero_le _) (by omega) hpre hF
      exact ⟨w3, f3, y3, s3, x3, p1, p2, p3⟩
