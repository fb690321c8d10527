/-! ===== the reference's recursion over rows with a cut slate; cuts as a call ===== -/
section CUF
variable {N : Nat}
theorem e_c131 {s way : Nat → Int32} {fs fc : Int32} {K : Int32 → (Nat → Int32) → (Nat → Int32) → (Nat → Int32) → Int32 → Int32 → Option ((Nat → Int32) × (Nat → Int32) × (Nat → Int32) × Int32 × Int32)} {REC : (Nat → Int32) → (Nat → Int32) → (Nat → Int32) → Int32 → Int32 → Int32 → Int32 → Int32 → Option ((Nat → Int32) × (Nat → Int32) × (Nat → Int32) × Int32 × Int32)} {x1 x2 x4 : Int32} {k : Nat} (hk : k < 16) : ∀ (f j : Nat) (found : Nat → Int32), j ≤ k + 1 → k + 1 < j + f → (∀ i, i < j → found i = way i) → ∃ found', f_X8_cutsFrom_L131 N s way fs fc K REC x1 x2 (nI k) x4 f (nI j) found = K (x4 + 1) s way found' fs fc ∧ ∀ i, i < k + 1 → found' i = way i := by
  intro f
  induction f with
  | zero => intro j found h1 h2; omega
  | succ f ih =>
    intro j found h1 h2 h3
    rw [f_X8_cutsFrom_L131]
    by_cases hj : j = k + 1
    · rw [hj, if_pos (nI_lt (by omega) (by omega))]
      exact ⟨found, rfl, fun i hi => h3 i (by omega)⟩
    · rw [if_neg (nI_nlt (by omega) (by omega)), ck_nI (by omega) (by omega), ck_nI (by omega) (by omega), cl_nI (by omega), nI_1]
      exact ih (j + 1) _ (by omega) (by omega) (upd_le h3)
theorem getD_pre {pre : List Nat} {w j : Nat} (h : j ≤ pre.length) : (pre ++ [w]).getD j 0 = if j = pre.length then w else pre.getD j 0 := by
  by_cases e : j = pre.length
  · rw [if_pos e, e, getD_end]
  · rw [if_neg e, getD_app pre w j (by omega)]
theorem e_cutsFrom (hN : 5000 < N) {r : Nat} (hr : r < 6) : ∀ (dd : Nat) (s way found : Nat → Int32) (fs fc : Int32) (pl : Nat) (pre : List Nat) (o : Option (List Nat × Nat)), Gd s → (∀ v, v < wide s → inch s v ≤ 30) → len s r ≤ 60 → pl < len s r → (len s r - pl) / 5 < dd → pre.length + (len s r - pl) / 5 ≤ 13 → (∀ j, j < pre.length → way j = nI (pre.getD j 0)) → FG o found fs fc →
    ∃ way' found' fs' fc', f_X8_cutsFrom N dd s way found fs fc (nI r) (nI pl) (nI pre.length) = some (s, way', found', fs', fc') ∧ (∀ j, j < pre.length → way' j = way j) ∧
      FG ((cl (wide s) (inch s) (mayB s r) (len s r) dd (mny s) pl).foldl (fun o q => vsel true o (pre ++ q) (cval (inch s) (len s r) pl q)) o) found' fs' fc' := by
  intro dd
  induction dd with
  | zero => intro s way found fs fc pl pre o _ _ _ _ h; omega
  | succ dd ihd =>
    intro s way found fs fc pl pre o hG hI30 hl60 hpl hdd hlen hpre hF
    obtain ⟨hS, hW, hI, hD, hL⟩ := id hG
    rw [f_X8_cutsFrom, cl]
    have key : ∀ (n j : Nat) (way found : Nat → Int32) (fs fc : Int32) (o : Option (List Nat × Nat)), j ≤ wide s → wide s < j + n → (∀ i, i < pre.length → way i = nI (pre.getD i 0)) → FG o found fs fc →
        ∃ way' found' fs' fc', f_X8_cutsFrom_L3 N (f_X8_cutsFrom N dd) (nI r) (nI pl) (nI pre.length) n (nI j) s way found fs fc = some (s, way', found', fs', fc') ∧ (∀ i, i < pre.length → way' i = way i) ∧
          FG ((flw (fun w => ctw (inch s) (mayB s r) (len s r) (cl (wide s) (inch s) (mayB s r) (len s r) dd) (mny s) pl w) j (wide s - j)).foldl (fun o q => vsel true o (pre ++ q) (cval (inch s) (len s r) pl q)) o) found' fs' fc' := by
      intro n
      induction n with
      | zero => intro j way found fs fc o h1 h2; omega
      | succ n ih =>
        intro j way found fs fc o h1 h2 hpre hF
        rw [f_X8_cutsFrom_L3, (ck1 hS).1, (ck1 hS (α := Nat) (k := none)).2]
        by_cases hj : j = wide s
        · rw [hj, if_pos (nI_le (Nat.le_refl _) (by omega)), Nat.sub_self]
          exact ⟨way, found, fs, fc, rfl, fun _ _ => rfl, hF⟩
        · have hmb := mny_le hS (w := j) (by omega)
          have hib := hI30 j (by omega)
          have hi5 := hI j (by omega)
          rw [if_neg (nI_ge (by omega) (by omega)), e_inches hS (by omega), bs, e_many hS (by omega), bs, e_lengthOf hS hr, bs, bs, bs, show wide s - j = (wide s - (j + 1)) + 1 by omega, flw, List.foldl_append, nI_add, nI_1, nI_1]
          have hskip : ctw (inch s) (mayB s r) (len s r) (cl (wide s) (inch s) (mayB s r) (len s r) dd) (mny s) pl j = [] → ∀ (way2 : Nat → Int32), (∀ i, i < pre.length → way2 i = way i) → ∃ way' found' fs' fc', f_X8_cutsFrom_L3 N (f_X8_cutsFrom N dd) (nI r) (nI pl) (nI pre.length) n (nI (j + 1)) s way2 found fs fc = some (s, way', found', fs', fc') ∧ (∀ i, i < pre.length → way' i = way i) ∧
              FG ((flw (fun w => ctw (inch s) (mayB s r) (len s r) (cl (wide s) (inch s) (mayB s r) (len s r) dd) (mny s) pl w) (j + 1) (wide s - (j + 1))).foldl (fun o q => vsel true o (pre ++ q) (cval (inch s) (len s r) pl q)) ((ctw (inch s) (mayB s r) (len s r) (cl (wide s) (inch s) (mayB s r) (len s r) dd) (mny s) pl j).foldl (fun o q => vsel true o (pre ++ q) (cval (inch s) (len s r) pl q)) o)) found' fs' fc' := by
            intro hst way2 hw2
            rw [hst]
            obtain ⟨w3, f3, s3, c3, p1, p2, p3⟩ := ih (j + 1) way2 found fs fc o (by omega) (by omega) (fun i hi => by rw [hw2 i hi]; exact hpre i hi) hF
            exact ⟨w3, f3, s3, c3, p1, fun i hi => by rw [p2 i hi, hw2 i hi], p3⟩
          by_cases hm : mny s j = 0
          · rw [if_pos (by rw [hm]; rfl)]
            exact hskip (if_pos hm) way (fun _ _ => rfl)
          rw [if_neg (nI_ne0 (by omega) (by omega))]
          by_cases heq : pl + inch s j = len s r
          · rw [if_pos (by rw [heq])]
            exact hskip (by unfold ctw; rw [if_neg hm, if_neg (by omega), if_pos heq]) way (fun _ _ => rfl)
          rw [if_neg (fun q => heq ((nI_eq (by omega) (by omega)).mp q))]
          by_cases hover : len s r < pl + inch s j
          · -- a cut slate
            have hct : ctw (inch s) (mayB s r) (len s r) (cl (wide s) (inch s) (mayB s r) (len s r) dd) (mny s) pl j = [[j]] := by
              unfold ctw
              rw [if_neg hm, if_pos hover]
            have hval : cval (inch s) (len s r) pl [j] = pl + inch s j - len s r := rfl
            rw [if_pos (nI_le (by omega) (by omega)), ck_nI (by omega) (by omega), bs, if_neg (nI_ge hover (by omega))]
            simp only [bs]
            rw [cl_nI (by omega), pk_sub (by omega), hct]
            have hfold : ([[j]] : List (List Nat)).foldl (fun o q => vsel true o (pre ++ q) (cval (inch s) (len s r) pl q)) o = vsel true o (pre ++ [j]) (pl + inch s j - len s r) := rfl
            rw [hfold]
            -- it is kept
            have hkeep : vsel true o (pre ++ [j]) (pl + inch s j - len s r) = some (pre ++ [j], pl + inch s j - len s r) → ∃ way' found' fs' fc', f_X8_cutsFrom_L131 N s (upd way pre.length (nI j)) (nI (pre.length + 1)) (nI (pl + inch s j - len s r)) (fun z0 z1 z2 z3 z4 z5 => f_X8_cutsFrom_L3 N (f_X8_cutsFrom N dd) (nI r) (nI pl) (nI pre.length) n z0 z1 z2 z3 z4 z5) (f_X8_cutsFrom N dd) (nI r) (nI pl) (nI pre.length) (nI j) N 0 found = some (s, way', found', fs', fc') ∧ (∀ i, i < pre.length → way' i = way i) ∧
                FG ((flw (fun w => ctw (inch s) (mayB s r) (len s r) (cl (wide s) (inch s) (mayB s r) (len s r) dd) (mny s) pl w) (j + 1) (wide s - (j + 1))).foldl (fun o q => vsel true o (pre ++ q) (cval (inch s) (len s r) pl q)) (vsel true o (pre ++ [j]) (pl + inch s j - len s r))) found' fs' fc' := by
              intro hv
              obtain ⟨found', a1, a2⟩ := e_c131 (N := N) (s := s) (way := upd way pre.length (nI j)) (fs := nI (pre.length + 1)) (fc := nI (pl + inch s j - len s r)) (K := fun z0 z1 z2 z3 z4 z5 => f_X8_cutsFrom_L3 N (f_X8_cutsFrom N dd) (nI r) (nI pl) (nI pre.length) n z0 z1 z2 z3 z4 z5) (REC := f_X8_cutsFrom N dd) (x1 := nI r) (x2 := nI pl) (x4 := nI j) (k := pre.length) (by omega) N 0 found (by omega) (by omega) (fun i hi => by omega)
              have a1' : f_X8_cutsFrom_L131 N s (upd way pre.length (nI j)) (nI (pre.length + 1)) (nI (pl + inch s j - len s r)) (fun z0 z1 z2 z3 z4 z5 => f_X8_cutsFrom_L3 N (f_X8_cutsFrom N dd) (nI r) (nI pl) (nI pre.length) n z0 z1 z2 z3 z4 z5) (f_X8_cutsFrom N dd) (nI r) (nI pl) (nI pre.length) (nI j) N 0 found = f_X8_cutsFrom_L3 N (f_X8_cutsFrom N dd) (nI r) (nI pl) (nI pre.length) n (nI j + 1) s (upd way pre.length (nI j)) found' (nI (pre.length + 1)) (nI (pl + inch s j - len s r)) := a1
              rw [a1', hv, nI_1]
              have hlp : (pre ++ [j]).length = pre.length + 1 := by simp
              obtain ⟨w3, f3, s3, c3, p1, p2, p3⟩ := ih (j + 1) (upd way pre.length (nI j)) found' (nI (pre.length + 1)) (nI (pl + inch s j - len s r)) (some (pre ++ [j], pl + inch s j - len s r)) (by omega) (by omega) (fun i hi => by rw [pk_un (by omega)]; exact hpre i hi) ⟨by show (pre ++ [j]).length ≤ 16; omega, by show _ = nI (pre ++ [j]).length; rw [hlp], rfl, by show pl + inch s j - len s r < 2 ^ 30; omega, fun i hi => by
                have hi2 : i < pre.length + 1 := by rw [← hlp]; exact hi
                show found' i = nI ((pre ++ [j]).getD i 0)
                rw [a2 i hi2, getD_pre (by omega)]
                by_cases e : i = pre.length
                · rw [if_pos e, e, pk_us]
                · rw [if_neg e, pk_un e]
                  exact hpre i (by omega)⟩
              exact ⟨w3, f3, s3, c3, p1, fun i hi => by rw [p2 i hi, pk_un (by omega)], p3⟩
            cases o with
            | none =>
              have hF : fs < 0 := hF
              rw [if_pos hF]
              exact hkeep rfl
            | some q =>
              obtain ⟨q1, q2, q3, q4, q5⟩ := hF
              rw [if_neg (show ¬ fs < 0 by rw [q2]; exact nI_pos (by omega)), q3]
              by_cases hlt : pl + inch s j - len s r < q.2
              · rw [if_pos (nI_lt hlt (by omega))]
                exact hkeep (if_pos ⟨rfl, hlt⟩)
              · rw [if_neg (nI_nlt (by omega) (by omega)), show vsel true (some q) (pre ++ [j]) (pl + inch s j - len s r) = some q from if_neg (fun z => hlt z.2), ← q3]
                obtain ⟨w3, f3, s3, c3, p1, p2, p3⟩ := ih (j + 1) (upd way pre.length (nI j)) found fs fc (some q) (by omega) (by omega) (fun i hi => by rw [pk_un (by omega)]; exact hpre i hi) ⟨q1, q2, q3, q4, q5⟩
                exact ⟨w3, f3, s3, c3, p1, fun i hi => by rw [p2 i hi, pk_un (by omega)], p3⟩
          · rw [if_neg (nI_ge (by omega) (by omega)), e_mayBe hS hr (by omega) hD (fun q k h1 h2 => Nat.lt_trans (hL q k h1 h2) (by omega)) (by omega), bs]
            by_cases hmy : mayB s r (pl + inch s j) = true
            · have hct : ctw (inch s) (mayB s r) (len s r) (cl (wide s) (inch s) (mayB s r) (len s r) dd) (mny s) pl j = (cl (wide s) (inch s) (mayB s r) (len s r) dd (dec (mny s) j) (pl + inch s j)).map (fun q => j :: q) := by
                unfold ctw
                rw [if_neg hm, if_neg hover, if_neg heq, if_pos hmy]
              rw [if_neg (b2i_n0.mpr hmy), ck_nI (by omega) (by omega), bs, if_pos (nI_le (by omega) (by omega)), e_leaves1 hS (by omega) hm, bs, cl_nI (by omega), hct]
              have hG2 := hG.dec (w := j) (by omega)
              have hpl2 : (pre ++ [j]).length = pre.length + 1 := by simp
              have hlen2 : len (decS s j) r = len s r := decS_len (by omega)
              obtain ⟨w2, f2, s2, c2, q1, q2, q3⟩ := ihd (decS s j) (upd way pre.length (nI j)) found fs fc (pl + inch s j) (pre ++ [j]) o hG2 (by rw [decS_wide, decS_inch]; exact hI30) (by rw [hlen2]; exact hl60) (by rw [hlen2]; omega) (by rw [hlen2]; omega) (by rw [hlen2, hpl2]; omega) (fun i hi => by
                rw [hpl2] at hi
                rw [getD_pre (by omega)]
                by_cases e : i = pre.length
                · rw [if_pos e, e, pk_us]
                · rw [if_neg e, pk_un e]
                  exact hpre i (by omega)) hF
              rw [hpl2] at q1
              rw [q1, bs, e_leavesm hS (by omega) hm, bs]
              obtain ⟨w3, f3, s3, c3, p1, p2, p3⟩ := ih (j + 1) w2 f2 s2 c2 _ (by omega) (by omega) (fun i hi => by
                rw [q2 i (by rw [hpl2]; omega), pk_un (by omega)]
                exact hpre i hi) q3
              refine ⟨w3, f3, s3, c3, p1, fun i hi => ?_, ?_⟩
              · rw [p2 i hi, q2 i (by rw [hpl2]; omega), pk_un (by omega)]
              · rw [decS_wide, decS_inch, decS_mayB (by omega), decS_mny hS (by omega), hlen2] at p3
                rw [foldl_map_w]
                have hfun : (fun (o : Option (List Nat × Nat)) (q : List Nat) => vsel true o (pre ++ [j] ++ q) (cval (inch s) (len s r) (pl + inch s j) q)) = (fun o q => vsel true o (pre ++ j :: q) (cval (inch s) (len s r) pl (j :: q))) := by
                  funext o q
                  have := congrFun (cval_cons (ic := inch s) (to := len s r) (p := pl) (w := j)) q
                  rw [← this, List.append_assoc]
                  rfl
                rw [hfun] at p3
                exact p3
            · rw [if_pos (b2i_0.mpr (by simpa using hmy))]
              exact hskip (by unfold ctw; rw [if_neg hm, if_neg hover, if_neg heq, if_neg hmy]) way (fun _ _ => rfl)
    exact key N 0 way found fs fc o (Nat.zero_le _) (by omega) hpre hF
end CUF
section CUC
variable {N : Nat} {i m w l d t : Nat → Int32} {x y z : Int32} {s : Nat → Int32}
variable {free steps sos slots takes places values order way found : Nat → Int32} {states wto aim last slt fs fc : Int32} {T : Nat → Nat → Nat} {n row : Nat}
/-- all orders of a row that end in a cut slate -/
def clS (s : Nat → Int32) (r : Nat) : List (List Nat) := cl (wide s) (inch s) (mayB s r) (len s r) 61 (mny s) 0
theorem c_leastCut (E : Enc i m w l d t x y z s) (hW : Wd s) (hN : 5000 < N) (hto : len s row ≤ 60) (hsrc : 0 < len s row) (h : WT s row 0 (len s row) steps sos slots takes places T n) {aim0 last0 : Int32} {sl0 : Int32} :
    ∃ b values' a c order' sl', f_X6_findLeastCut N steps sos slots takes places values (nI n) (nI (len s row)) aim0 last0 order sl0 i m w x = some (b, values', a, c, order', sl') ∧ match fndF (cval (inch s) (len s row) 0) (mvF (cval (inch s) (len s row) 0) (clS s row)) (clS s row) with
      | none => b = false
      | some q => b = true ∧ q.length ≤ 12 ∧ sl' = nI q.length ∧ (∀ j, j < q.length → order' j = nI (q.getD j 0)) ∧ values' 0 = nI (cval (inch s) (len s row) 0 q) := by
  have h4 := hW.1.2.1
  have hic : ∀ v, v < wide s → 5 ≤ inch s v ∧ inch s v ≤ 30 := fun v hv => ⟨hW.1.2.2.1 v hv, hW.2.1 v hv⟩
  obtain ⟨v', e1, e2, e3⟩ := w_find (N := N) (values := values) (aim := 2) (last := -1) (ve := fun _ => 1000000) (aim0 := aim0) (last0 := last0) E hW hN hto hsrc h (by omega) (fun v hv => by
    unfold f_X6_valueAtEnd
    rw [if_neg (show ¬ nI 2 = 0 by decide), if_neg (show ¬ nI 2 = 1 by decide)]
    rfl) (fun v hv => ⟨Nat.le_refl _, fun q => by omega⟩)
  rw [gv_cut (my := mayB s row) hic hto (fun x h1 h2 => frB_mid h1 h2) 61 (mny s) 0 (Nat.le_refl _) hsrc (by omega)] at e1 e2 e3
  unfold f_X6_findLeastCut
  rw [show f_X6_settle N steps sos slots takes places values (nI n) (nI (len s row)) aim0 last0 i m w x 2 (-1) = _ from e1, bs]
  try dsimp only
  have hle := mvF_le (cval (inch s) (len s row) 0) (clS s row)
  by_cases hlt : mvF (cval (inch s) (len s row) 0) (clS s row) < 1000000
  · rw [if_neg (show ¬ (1000000 : Int32) ≤ nI (mvF (cval (inch s) (len s row) 0) (cl (wide s) (inch s) (mayB s row) (len s row) 61 (mny s) 0)) from nI_ge (b := 1000000) hlt (by omega))]
    obtain ⟨o', f1, f2⟩ := e3 (by unfold live; rw [if_neg (by omega)]; exact hlt) order sl0
    rw [f1, bs]
    try dsimp only
    rw [if_neg (show ¬ b2i true = 0 by decide)]
    refine ⟨_, _, _, _, _, _, rfl, ?_⟩
    have hp := path_cut (wr := wor s) (my := mayB s row) (fr := frB s row 0 (len s row)) hic hto (fun x h1 h2 => frB_mid h1 h2) 61 (mny s) 0 (Nat.le_refl _) hsrc (by omega) hlt
    have hp' : fndF (cval (inch s) (len s row) 0) (mvF (cval (inch s) (len s row) 0) (clS s row)) (clS s row) = some (fpath (wide s) (inch s) (wor s) (frB s row 0 (len s row)) (len s row) 2 (fun _ => 1000000) 61 (mny s) 0) := hp
    rw [hp']
    have hmem := List.mem_of_find?_eq_some (show (clS s row).find? _ = some _ from hp')
    have hval := List.find?_some (show (clS s row).find? _ = some _ from hp')
    have hval := of_decide_eq_true hval
    obtain ⟨g1, g2, _⟩ := cl_fact hic 61 (mny s) 0 _ hsrc hmem
    refine ⟨rfl, by omega, rfl, f2, ?_⟩
    rw [e2, hval]
    rfl
  · have e : mvF (cval (inch s) (len s row) 0) (clS s row) = 1000000 := by omega
    have e' : mvF (cval (inch s) (len s row) 0) (cl (wide s) (inch s) (mayB s row) (len s row) 61 (mny s) 0) = 1000000 := e
    rw [e', if_pos (show (1000000 : Int32) ≤ nI 1000000 by decide)]
    refine ⟨_, _, _, _, _, _, rfl, ?_⟩
    have hn : fndF (cval (inch s) (len s row) 0) (mvF (cval (inch s) (len s row) 0) (clS s row)) (clS s row) = none := by
      refine List.find?_eq_none.mpr (fun q hq => ?_)
      have := (cl_fact hic 61 (mny s) 0 q hsrc hq).2.2
      rw [e]
      simp
      omega
    rw [hn]
theorem r_cuts (hN : 5000 < N) (E : Enc i m w l d t x y z s) (O : Ok s) (hso : SO sos) {x1 x2 : Int32} : ∃ p q, f_X7_cuts N i m w l d t x y z free steps sos slots takes places values states wto aim last order slt x1 x2 = some p ∧ f_X8_cuts N s way found fs fc x1 x2 = some q ∧ p.1 = q.1 ∧ q.2.1 = s ∧ SO p.2.2.2.1 := by
  have h6 := O.h6
  unfold f_X7_cuts f_X8_cuts
  by_cases h0 : x2 < -1
  · rw [if_pos h0, if_neg (fun q => (fa_of_lt h0).2.1 q), show f_X7_refusalOfOpen N d y x1 0 = _ from c_refO (b := false) E O, bs, refO_f, if_neg (show ¬ (-1 : Int32) = 0 by decide)]
    exact ⟨_, _, rfl, rfl, rfl, rfl, hso⟩
  · have h0' : -1 ≤ x2 := fa_of_nlt h0
    rw [if_neg h0, if_pos h0', show f_X7_refusalOfOpen N d y x1 1 = _ from c_refO (b := true) E O, bs, e_wrong O, bs]
    by_cases hz : refO s x1 true = 0
    · rw [if_pos hz, if_pos hz]
      obtain ⟨r, hr, rfl, _, hl0⟩ := refO_0 O hz
      obtain ⟨hl1, hl2⟩ := O.ln r hr
      have hic : ∀ v, v < wide s → 5 ≤ inch s v ∧ inch s v ≤ 30 := fun v hv => ⟨O.i5 v hv, O.i30 v hv⟩
      obtain ⟨T, n, a1, a2, a3, a4, a5, a6, e1, e2⟩ := c_waysOf (N := N) E O.wd hN (row := r) (by omega) hl2 (free := free) (steps := steps) (slots := slots) (takes := takes) (places := places) (states := states) (wto := wto) hso
      obtain ⟨b, v', a, c, o', sl', e3, e5⟩ := c_leastCut (N := N) (values := values) (aim0 := aim) (last0 := last) (order := order) (sl0 := slt) E O.wd hN hl2 (by omega) e2
      obtain ⟨q1, q2, q3, q4, f1, _, f2⟩ := e_cutsFrom (N := N) hN (r := r) (by omega) 16 s way found (-1) fc 0 [] none O.g O.i30 hl2 (by omega) (by omega) (by show 0 + _ ≤ 13; omega) (fun j hj => by cases hj) (show (-1 : Int32) < 0 by decide)
      have hcl : cl (wide s) (inch s) (mayB s r) (len s r) 16 (mny s) 0 = clS s r := cl_fuel O.i5 16 61 _ _ (by omega) (by omega) (by omega)
      have hsel : (clS s r).foldl (fun o q => vsel true o ([] ++ q) (cval (inch s) (len s r) 0 q)) none = (fndF (cval (inch s) (len s r) 0) (mvF (cval (inch s) (len s r) 0) (clS s r)) (clS s r)).map (fun q => (q, cval (inch s) (len s r) 0 q)) := selF_true (cval (inch s) (len s r) 0) (clS s r) (fun q hq => by
        have := (cl_fact hic 61 (mny s) 0 q (by omega) hq).2.2
        omega)
      rw [hcl, hsel] at f2
      have f1' : f_X8_cutsFrom N 16 s way found (-1) fc (nI r) 0 0 = some (s, q1, q2, q3, q4) := f1
      rw [e1, bs]
      try dsimp only
      rw [e3, bs, f1', bs]
      try dsimp only
      cases hq : fndF (cval (inch s) (len s r) 0) (mvF (cval (inch s) (len s r) 0) (clS s r)) (clS s r) with
      | none =>
        rw [hq] at e5 f2
        have e5 : b = false := e5
        have f2 : q3 < 0 := f2
        rw [e5, if_pos (show b2i false = 0 from rfl), if_neg (show ¬ (0 : Int32) ≤ q3 from (fa_of_lt f2).2.1)]
        exact ⟨_, _, rfl, rfl, rfl, rfl, e2.so⟩
      | some q =>
        rw [hq] at e5 f2
        obtain ⟨g1, g2, g3, g4, g5⟩ := e5
        have hq3 : (0 : Int32) ≤ q3 := by
          have : q3 = nI q.length := f2.2.1
          rw [this]
          exact nI_pos' (by omega)
        rw [g1, if_neg (show ¬ b2i true = 0 by decide), if_pos hq3]
        by_cases hx0 : 0 ≤ x2
        · obtain ⟨a, k1, k2⟩ := told_found (N := N) (vals := v') (order := o') (sl0 := sl') g2 g4 g3 f2 hx0
          rw [if_pos hx0, k1, bs, k2, bs]
          exact ⟨_, _, rfl, rfl, rfl, rfl, e2.so⟩
        · rw [if_neg hx0]
          unfold f_X6_told
          rw [if_neg hx0, show gi 0 1820 = true by decide, ck_t, bs]
          refine ⟨_, _, rfl, rfl, ?_, rfl, e2.so⟩
          show v' (0 : Int32).toNatClampNeg = q4
          exact g5.trans f2.2.2.1.symm
    · rw [if_neg hz, if_neg hz]
      exact ⟨_, _, rfl, rfl, rfl, rfl, hso⟩
end CUC
