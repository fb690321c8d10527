/-! ===== the same on the 99; fills as rows that can be laid; all ===== -/
section CONG
variable {s s' : Nat → Int32}
theorem rN_c (h : ∀ k, k < 99 → s' k = s k) {k : Nat} (hk : k < 99) : rN s' k = rN s k := by
  unfold rN
  rw [h k hk]
theorem Enc.cong {i m w l d t : Nat → Int32} {x y z : Int32} (E : Enc i m w l d t x y z s) (h : ∀ k, k < 99 → s' k = s k) : Enc i m w l d t x y z s' := by
  obtain ⟨e1, e2, e3, e4, e5⟩ := E
  refine ⟨by rw [h 0 (by omega)]; exact e1, by rw [h 1 (by omega)]; exact e2, by rw [h 2 (by omega)]; exact e3, fun k hk => ?_, fun r hr => ?_⟩
  · rw [h _ (by omega), h _ (by omega), h _ (by omega)]
    exact e4 k hk
  · rw [h _ (by omega), h _ (by omega)]
    refine ⟨(e5 r hr).1, (e5 r hr).2.1, fun j hj => ?_⟩
    rw [h _ (by omega)]
    exact (e5 r hr).2.2 j hj
theorem Ok.cong (O : Ok s) (h : ∀ k, k < 99 → s' k = s k) : Ok s' := by
  have hw := O.w4
  have h6 := O.h6
  have ei : ∀ v, v < 4 → inch s' v = inch s v := fun v hv => rN_c h (by omega)
  have em : ∀ v, v < 4 → mny s' v = mny s v := fun v hv => rN_c h (by omega)
  have ew : wide s' = wide s := rN_c h (by omega)
  have eh : high s' = high s := rN_c h (by omega)
  have el : ∀ q, q < 6 → len s' q = len s q := fun q hq => rN_c h (by omega)
  have ed : ∀ q, q < 6 → ld s' q = ld s q := fun q hq => rN_c h (by omega)
  have es : ∀ q k, q < 6 → k < 12 → sl s' q k = sl s q k := fun q k hq hk => rN_c h (by omega)
  refine ⟨⟨fun k hk => ?_, by rw [ew]; exact hw, fun v hv => ?_, fun q hq => ?_, fun q k hq hk => ?_⟩, fun v hv => ?_, fun v u hv hu he => ?_, fun v hv => ?_, by rw [eh]; exact h6, fun q hq => ?_, fun q k hq hk => ?_, fun q hq hl => ?_⟩
  · rw [h k hk, rN_c h hk]
    exact O.S k hk
  · rw [ew] at hv
    rw [ei v (by omega)]
    exact O.i5 v hv
  · rw [ed q hq]
    exact O.l12 q hq
  · rw [ed q hq] at hk
    have := O.l12 q hq
    rw [es q k hq (by omega)]
    exact O.sl4 q k hq hk
  · rw [ew] at hv
    rw [ei v (by omega)]
    exact O.i30 v hv
  · rw [ew] at hv hu
    rw [ei v (by omega), ei u (by omega)] at he
    exact O.dist v u hv hu he
  · rw [em v hv]
    exact O.m12 v hv
  · rw [eh] at hq
    rw [el q (by omega)]
    exact O.ln q hq
  · rw [ed q hq] at hk
    have := O.l12 q hq
    rw [es q k hq (by omega), ew]
    exact O.slw q k hq hk
  · rw [eh] at hq
    have hl12 := O.l12 q (by omega)
    rw [ed q (by omega)] at hl ⊢
    have hs : ∀ j, j ≤ ld s q → sumIn s' q j = sumIn s q j := fun j hj => sumIn_cong j (fun k hk => by
      have := O.sl4 q k (by omega) (by omega)
      rw [es q k (by omega) (by omega), ei _ this])
    rw [hs _ (by omega), hs _ (Nat.le_refl _), el q (by omega)]
    exact O.sums q hq hl
end CONG
section FIL
variable {W : Nat} {ic : Nat → Nat} {my : Nat → Bool} {to : Nat}
theorem fl_fact : ∀ (d : Nat) (m : Nat → Nat) (p : Nat) (q : List Nat), q ∈ fl W ic my to d m p → p + wsum ic q = to ∧ (∀ w, w ∈ q → w < W) ∧ ∀ v, q.count v ≤ m v := by
  intro d
  induction d with
  | zero => intro m p q hq; cases hq
  | succ d ih =>
    intro m p q hq
    rw [fl] at hq
    by_cases hp : p = to
    · rw [if_pos hp] at hq
      have hq0 : q = [] := by simpa using hq
      subst hq0
      exact ⟨hp, (fun w hw => by cases hw), fun v => Nat.zero_le _⟩
    · rw [if_neg hp] at hq
      obtain ⟨w, _, hwW, hq2⟩ := mem_flw hq
      try dsimp only at hq2
      by_cases hs : stp ic my to m p w = true
      · rw [if_pos hs] at hq2
        obtain ⟨q3, hq3, hqe⟩ := List.mem_map.mp hq2
        subst hqe
        obtain ⟨g1, g2, g3⟩ := ih _ _ _ hq3
        have hm : m w ≠ 0 := by
          unfold stp at hs
          simp only [Bool.and_eq_true, decide_eq_true_eq] at hs
          exact hs.1
        refine ⟨?_, fun u hu => ?_, fun v => ?_⟩
        · show p + (ic w + wsum ic q3) = to
          omega
        · rcases List.mem_cons.mp hu with e | e
          · omega
          · exact g2 u e
        · have := g3 v
          rw [List.count_cons]
          unfold dec at this
          by_cases e : v = w
          · subst e
            rw [if_pos rfl] at this
            rw [if_pos (by simp)]
            omega
          · rw [if_neg e] at this
            rw [if_neg (by simp; omega)]
            omega
      · rw [if_neg hs] at hq2
        cases hq2
end FIL
theorem wsum_app (f : Nat → Nat) : ∀ (a b : List Nat), wsum f (a ++ b) = wsum f a + wsum f b
  | [], b => by rw [List.nil_append]; show _ = 0 + _; omega
  | w :: a, b => by
    show f w + wsum f (a ++ b) = f w + wsum f a + wsum f b
    rw [wsum_app f a b]
    omega
theorem take_snoc {q : List Nat} {j : Nat} (h : j < q.length) : q.take (j + 1) = q.take j ++ [q.getD j 0] := by
  rw [List.take_succ, List.getD_eq_getElem?_getD, List.getElem?_eq_getElem h]
  rfl
theorem usd_take {q : List Nat} (v : Nat) : ∀ j, j ≤ q.length → usd (fun k => q.getD k 0) j v = (q.take j).count v
  | 0, _ => rfl
  | j + 1, h => by
    rw [take_snoc (by omega), List.count_append, ← usd_take v j (by omega)]
    show (if v = q.getD j 0 then usd (fun k => q.getD k 0) j v + 1 else usd (fun k => q.getD k 0) j v) = _
    rw [List.count_singleton]
    by_cases e : v = q.getD j 0
    · rw [if_pos e, if_pos (by simp [e])]
    · rw [if_neg e, if_neg (by simp only [beq_iff_eq]; exact fun z => e z.symm)]
      rfl
theorem csum_take {ic : Nat → Nat} {q : List Nat} : ∀ j, j ≤ q.length → csum ic (fun k => q.getD k 0) j = wsum ic (q.take j)
  | 0, _ => rfl
  | j + 1, h => by
    rw [take_snoc (by omega), wsum_app, ← csum_take j (by omega)]
    show csum ic (fun k => q.getD k 0) j + ic (q.getD j 0) = _ + (ic (q.getD j 0) + 0)
    omega
theorem getD_mem {q : List Nat} {k : Nat} (h : k < q.length) : q.getD k 0 ∈ q := by
  rw [List.getD_eq_getElem?_getD, List.getElem?_eq_getElem h]
  exact List.getElem_mem h
theorem LA_fill {s : Nat → Int32} (O : Ok s) {r : Nat} (hr : r < high s) {q : List Nat} (hq : q ∈ flS s r 0 (len s r)) : LA s r (fun k => q.getD k 0) q.length := by
  obtain ⟨f1, f2, f3⟩ := fl_fact _ _ _ _ hq
  have f4 := fl_len O.i5 _ _ _ _ hq
  obtain ⟨hl1, hl2⟩ := O.ln r hr
  have hne : 0 < q.length := by
    cases q with
    | nil => exact absurd (show 0 + 0 = len s r from f1) (by omega)
    | cons a b => exact Nat.succ_pos _
  have hc : csum (inch s) (fun k => q.getD k 0) q.length = len s r := by
    rw [csum_take _ (Nat.le_refl _), List.take_length]
    omega
  have hstep : csum (inch s) (fun k => q.getD k 0) q.length = csum (inch s) (fun k => q.getD k 0) (q.length - 1) + inch s (q.getD (q.length - 1) 0) := by
    have e : q.length = (q.length - 1) + 1 := by omega
    rw [e]
    rfl
  have hlast := O.i5 _ (f2 _ (getD_mem (q := q) (k := q.length - 1) (by omega)))
  refine ⟨hne, by omega, fun k hk => f2 _ (getD_mem hk), fun v hv => ?_, by omega, by omega⟩
  rw [usd_take v _ (Nat.le_refl _), List.take_length]
  exact f3 v
section ALL
variable {N : Nat} {i m w l d t : Nat → Int32} {x y z : Int32} {s : Nat → Int32} {i0 m0 w0 l0 d0 t0 : Nat → Int32} {x0 y0 z0 : Int32}
variable {free steps sos slots takes places values order way found saved : Nat → Int32} {states wto aim last slt wrw wt ws eb fs fw : Int32}
theorem e_all194 {x4 : Int32} : ∀ (f j : Nat) (sj : Nat → Int32), j ≤ 99 → 99 < j + f → (∀ k, k < j → sj k = saved k) → ∃ s', f_X8_all_L194 N saved way found wrw wt ws eb fs fw x4 f (nI j) sj = some (x4, s', saved, way, found, wrw, wt, ws, eb, fs, fw) ∧ ∀ k, k < 99 → s' k = saved k := by
  intro f
  induction f with
  | zero => intro j sj h1 h2; omega
  | succ f ih =>
    intro j sj h1 h2 h3
    rw [f_X8_all_L194]
    by_cases hj : j = 99
    · subst hj
      rw [if_pos (show (99 : Int32) ≤ nI 99 by decide)]
      exact ⟨_, rfl, h3⟩
    · rw [if_neg (show ¬ (99 : Int32) ≤ nI j from nI_ge (b := 99) (by omega) (by omega)), ck_nI (by omega) (by omega), ck_nI (by omega) (by omega), cl_nI (by omega), nI_1]
      refine ih (j + 1) _ (by omega) (by omega) (fun k hk => ?_)
      by_cases e : k = j
      · subst e
        rw [pk_us]
      · rw [pk_un e]
        exact h3 k (by omega)
theorem e_all14 {x1 : Int32} : ∀ (f j : Nat) (sj : Nat → Int32), j ≤ 99 → 99 < j + f → (∀ k, k < j → sj k = s k) → ∃ s', f_X8_all_L14 N s way found wrw wt ws eb fs fw x1 f (nI j) sj = f_X8_all_L45 N s' x1 N 0 0 0 s way found wrw wt ws eb fs fw ∧ ∀ k, k < 99 → s' k = s k := by
  intro f
  induction f with
  | zero => intro j sj h1 h2; omega
  | succ f ih =>
    intro j sj h1 h2 h3
    rw [f_X8_all_L14]
    by_cases hj : j = 99
    · subst hj
      rw [if_pos (show (99 : Int32) ≤ nI 99 by decide)]
      exact ⟨_, rfl, h3⟩
    · rw [if_neg (show ¬ (99 : Int32) ≤ nI j from nI_ge (b := 99) (by omega) (by omega)), ck_nI (by omega) (by omega), ck_nI (by omega) (by omega), cl_nI (by omega), nI_1]
      refine ih (j + 1) _ (by omega) (by omega) (fun k hk => ?_)
      by_cases e : k = j
      · subst e
        rw [pk_us]
      · rw [pk_un e]
        exact h3 k (by omega)
theorem e_all97 (h : Sm s) {r : Nat} {c : Nat → Nat} (hr : r < 6) {n : Nat} (hn : n ≤ 12) (hc : ∀ k, k < n → c k < 4) (hu : ∀ v, v < 4 → usd c n v ≤ mny s v) (hel : ∀ k, k < n → found k = nI (c k)) {x1 x2 x3 : Int32} {K : Int32 → Int32 → Int32 → (Nat → Int32) → (Nat → Int32) → (Nat → Int32) → Int32 → Int32 → Int32 → Int32 → Int32 → Int32 → Option (Int32 × (Nat → Int32) × (Nat → Int32) × (Nat → Int32) × (Nat → Int32) × Int32 × Int32 × Int32 × Int32 × Int32 × Int32)} :
    ∀ (f j : Nat), j ≤ n → n < j + f → f_X8_all_L97 N saved way found wrw wt ws eb (nI n) fw K x1 x2 x3 (nI r) f (nI j) (layJ s r c j) = K (x2 + 1) x3 (nI (r + 1)) (layS s r c n) way found wrw wt ws eb (nI n) fw := by
  intro f
  induction f with
  | zero => intro j h1 h2; omega
  | succ f ih =>
    intro j h1 h2
    rw [f_X8_all_L97, l15, l14, l2, l1, pk_mul, nI_add, nI_add, nI_add, nI_add, ck_nI (by omega) (by omega), cl_nI (by omega)]
    by_cases hj : j = n
    · subst hj
      rw [if_pos (nI_le (Nat.le_refl _) (by omega))]
      rfl
    · have hcj := hc j (by omega)
      obtain ⟨p1, p2, p3⟩ := layJ_pos h hr hn hc hu (j := j) (by omega)
      rw [if_neg (nI_ge (by omega) (by omega)), ck_nI (by omega) (by omega), nI_add, ck_nI (by omega) (by omega), ck_nI (by omega) (by omega), cl_nI (by omega), cl_nI (by omega), hel j (by omega)]
      have := e_leaves1 (N := N) p2 (w := c j) (by omega) p1
      rw [l1] at this
      rw [this, bs, nI_add]
      exact ih (j + 1) (by omega) (by omega)
theorem r_all (hN : 5000 < N) (E : Enc i m w l d t x y z s) (O : Ok s) (hso : SO sos) {x1 : Int32} : ∃ p q, f_X7_all N i m w l d t x y z i0 m0 w0 l0 d0 t0 x0 y0 z0 free steps sos slots takes places values states wto aim last order slt x1 = some p ∧ f_X8_all N s saved way found wrw wt ws eb fs fw x1 = some q ∧ p.1 = q.1 ∧ (∀ k, k < 99 → q.2.1 k = s k) ∧ SO p.2.2.2.2.2.2.2.2.2.2.2.2.1 := by
  have h6 := O.h6
  have hw4 := O.w4
  obtain ⟨i', m', w', l', d', t', e5, E2⟩ := c_takeOver (N := N) E (i0 := i0) (m0 := m0) (w0 := w0) (l0 := l0) (d0 := d0) (t0 := t0) (x0 := x0) (y0 := y0) (z0 := z0)
  have hy : y = nI (high s) := E.high O.S
  have key : ∀ (f j : Nat) (v2 : Int32) (mj dj tj sj sv free steps sos slots takes places values order way found : Nat → Int32) (states wto aim last slt wrw wt ws eb fs fw : Int32), j ≤ high s → high s + 1 < j + f → Enc i' mj w' l' dj tj x y z sj → Ok sj → high sj = high s → (∀ k, k < 99 → sv k = s k) → SO sos →
      ∃ p q, f_X7_all_L26 N i m w l d t x y z i' w' l' x y z x1 f v2 (nI j) mj dj tj free steps sos slots takes places values states wto aim last order slt = some p ∧ f_X8_all_L45 N sv x1 f v2 0 (nI j) sj way found wrw wt ws eb fs fw = some q ∧ p.1 = q.1 ∧ (∀ k, k < 99 → q.2.1 k = s k) ∧ SO p.2.2.2.2.2.2.2.2.2.2.2.2.1 := by
    intro f
    induction f with
    | zero => intro j v2 mj dj tj sj sv free steps sos slots takes places values order way found states wto aim last slt wrw wt ws eb fs fw h1 h2; omega
    | succ f ih =>
      intro j v2 mj dj tj sj sv free steps sos slots takes places values order way found states wto aim last slt wrw wt ws eb fs fw h1 h2 Ej Oj hh hsv hso
      have hend : ∀ (v : Int32) (sk way found : Nat → Int32) (wrw wt ws eb fs fw : Int32), ∃ s', f_X8_all_L194 N sv way found wrw wt ws eb fs fw v N 0 sk = some (v, s', sv, way, found, wrw, wt, ws, eb, fs, fw) ∧ ∀ k, k < 99 → s' k = s k := fun v sk way found wrw wt ws eb fs fw => by
        obtain ⟨s', a1, a2⟩ := e_all194 (N := N) (saved := sv) (way := way) (found := found) (wrw := wrw) (wt := wt) (ws := ws) (eb := eb) (fs := fs) (fw := fw) (x4 := v) N 0 sk (by omega) (by omega) (fun k hk => by omega)
        exact ⟨s', a1, fun k hk => (a2 k hk).trans (hsv k hk)⟩
      have hwh := e_heapWorth (N := N) (by omega) Oj.S Oj.w4
      have hwc := c_worthOfHeap (N := N) (by omega) Ej Oj.S Oj.w4
      rw [f_X7_all_L26, f_X8_all_L45, (ck2 Oj.S).1, (ck2 Oj.S (α := Nat) (k := none)).2, hh, hy]
      by_cases hj : j = high s
      · subst hj
        rw [if_pos (nI_le (Nat.le_refl _) (by omega)), if_pos (nI_le (Nat.le_refl _) (by omega))]
        by_cases hx : x1 = 0
        · rw [if_pos hx, if_pos hx]
          obtain ⟨s', a1, a2⟩ := hend v2 sj way found wrw wt ws eb fs fw
          rw [a1]
          exact ⟨_, _, rfl, rfl, rfl, a2, hso⟩
        · rw [if_neg hx, if_neg hx, hwh, hwc, bs, bs]
          obtain ⟨s', a1, a2⟩ := hend (nI (hpW sj (wide sj))) sj way found wrw wt ws eb fs fw
          rw [a1]
          exact ⟨_, _, rfl, rfl, rfl, a2, hso⟩
      · have hjh : j < high sj := by omega
        have hl12 := Oj.l12 j (by omega)
        obtain ⟨hl1, hl2⟩ := Oj.ln j hjh
        rw [if_neg (nI_ge (by omega) (by omega)), if_neg (nI_ge (by omega) (by omega)), if_pos rfl, ck_nI (by omega) (by omega), cl_nI (by omega), Ej.ld Oj.S (by omega), e_laid0 Oj hjh, nI_1]
        by_cases hz : ld sj j = 0
        · rw [if_pos (by rw [hz]; rfl), if_pos hz]
          obtain ⟨T, n, a1, a2, a3, a4, a5, a6, e1, e2⟩ := c_waysOf (N := N) Ej Oj.wd hN (row := j) (by omega) hl2 (free := free) (steps := steps) (slots := slots) (takes := takes) (places := places) (states := states) (wto := wto) hso
          obtain ⟨b, v', a, c, o', sl', e3, e5⟩ := c_cheapest (N := N) (values := values) (aim0 := aim) (last0 := last) (order := order) (sl0 := slt) Ej Oj.wd hN hl2 (by omega) e2
          obtain ⟨g, q1, q2, q3, q4, q5, q6, q7, e4, e6, e7⟩ := e_findBest (N := N) (way := way) (found := found) (wrw := wrw) (wt := wt) (ws := ws) (eb := eb) (fs := fs) (fw := fw) (by omega) Oj.g (r := j) (by omega) (by omega) hl2
          rw [← hy, e1, bs]
          try dsimp only
          rw [e3, bs, e4, bs]
          try dsimp only
          cases hq : fnd (wor sj) (mw (wor sj) (flS sj j 0 (len sj j))) (flS sj j 0 (len sj j)) with
          | none =>
            rw [hq] at e5 e7
            have e5 : b = false := e5
            have hg : g = false := by
              cases g with
              | false => rfl
              | true => exact absurd rfl (e7.mp rfl)
            rw [e5, hg, if_pos (show b2i false = 0 from rfl), if_pos (show b2i false = 0 from rfl)]
            obtain ⟨f, rfl⟩ : ∃ g, f = g + 1 := ⟨f - 1, by omega⟩
            rw [f_X8_all_L45, (ck2 Oj.S).1, (ck2 Oj.S (α := Nat) (k := none)).2, hwh, hwc, bs, bs, if_neg (show ¬ (1 : Int32) = 0 by decide)]
            obtain ⟨s1, a1, a2⟩ := hend v2 sj q1 q2 q3 q4 q5 (-4) q6 q7
            obtain ⟨s2, b1, b2⟩ := hend (nI (hpW sj (wide sj))) sj q1 q2 q3 q4 q5 (-4) q6 q7
            rw [a1, b1]
            by_cases hx : x1 = 0
            · rw [if_pos hx, if_pos hx, ite_self]
              exact ⟨_, _, rfl, rfl, rfl, a2, e2.so⟩
            · rw [if_neg hx, if_neg hx, ite_self]
              exact ⟨_, _, rfl, rfl, rfl, b2, e2.so⟩
          | some q =>
            rw [hq] at e5 e6 e7
            obtain ⟨f1, f2, f3, f4, f5⟩ := e5
            have hg : g = true := e7.mpr (Option.some_ne_none _)
            have hmem := List.mem_of_find?_eq_some (show (flS sj j 0 (len sj j)).find? _ = some _ from hq)
            have L := LA_fill Oj hjh hmem
            obtain ⟨L0, L1, L2, L3, L4, L5⟩ := id L
            have hc4 : ∀ k, k < q.length → (fun k => q.getD k 0) k < 4 := fun k hk => Nat.lt_of_lt_of_le (L2 k hk) Oj.w4
            obtain ⟨mk, dk, tk, u1, u2⟩ := c_putDown (N := N) (by omega) Ej Oj.S (r := j) (by omega) L1 (nU := 12) (by omega) (by omega) hc4 L3 f4
            obtain ⟨O2, _, _, hh2⟩ := Oj.lay hjh L
            obtain ⟨g1, g2, g3, g4, g5⟩ := e6
            rw [f1, hg, if_neg (show ¬ b2i true = 0 by decide), if_neg (show ¬ b2i true = 0 by decide), f3, u1, bs]
            try dsimp only
            have g2 : q6 = nI q.length := g2
            have h97 := e_all97 (N := N) (saved := sv) (way := q1) (found := q2) (wrw := q3) (wt := q4) (ws := q5) (eb := -4) (fw := q7) Oj.S (r := j) (by omega) L1 hc4 L3 g5 (x1 := x1) (x2 := v2) (x3 := 0) (K := fun z0 z1 z2 z3 z4 z5 z6 z7 z8 z9 z10 z11 => f_X8_all_L45 N sv x1 f z0 z1 z2 z3 z4 z5 z6 z7 z8 z9 z10 z11) N 0 (by omega) (by omega)
            have h97' : f_X8_all_L97 N sv q1 q2 q3 q4 q5 (-4) q6 q7 (fun z0 z1 z2 z3 z4 z5 z6 z7 z8 z9 z10 z11 => f_X8_all_L45 N sv x1 f z0 z1 z2 z3 z4 z5 z6 z7 z8 z9 z10 z11) x1 v2 0 (nI j) N 0 sj = f_X8_all_L45 N sv x1 f (v2 + 1) 0 (nI (j + 1)) (layS sj j (fun k => q.getD k 0) q.length) q1 q2 q3 q4 q5 (-4) (nI q.length) q7 := by
              rw [g2]
              exact h97
            rw [h97']
            exact ih (j + 1) (v2 + 1) mk dk tk _ sv _ _ _ _ _ _ _ _ _ _ _ _ _ _ _ _ _ _ _ _ _ (by omega) (by omega) u2 O2 (by rw [hh2]; exact hh) hsv e2.so
        · rw [if_neg (nI_ne0 (by omega) (by omega)), if_neg hz, ← hy]
          exact ih (j + 1) v2 mj dj tj sj sv _ _ _ _ _ _ _ _ _ _ _ _ _ _ _ _ _ _ _ _ _ (by omega) (by omega) Ej Oj hh hsv hso
  unfold f_X7_all f_X8_all
  rw [show (1 : Int64) = (nI 1).toInt64 from rfl, isInC (by omega), bs, e5, bs]
  try dsimp only
  have hgo : ∃ p q, f_X7_all_L26 N i m w l d t x y z i' w' l' x y z x1 N 0 0 m' d' t' free steps sos slots takes places values states wto aim last order slt = some p ∧ f_X8_all_L14 N s way found wrw wt ws eb fs fw x1 N 0 saved = some q ∧ p.1 = q.1 ∧ (∀ k, k < 99 → q.2.1 k = s k) ∧ SO p.2.2.2.2.2.2.2.2.2.2.2.2.1 := by
    obtain ⟨sv, b1, b2⟩ := e_all14 (N := N) (s := s) (way := way) (found := found) (wrw := wrw) (wt := wt) (ws := ws) (eb := eb) (fs := fs) (fw := fw) (x1 := x1) N 0 saved (by omega) (by omega) (fun k hk => by omega)
    rw [show (0 : Int32) = nI 0 from rfl] at b1 ⊢
    rw [b1]
    exact key N 0 0 m' d' t' s sv free steps sos slots takes places values order way found states wto aim last slt wrw wt ws eb fs fw (by omega) (by omega) E2 O rfl b2 hso
  by_cases hx0 : x1 = 0
  · subst hx0
    rw [if_pos rfl, show inB 0 (1 + 1) = true by decide, if_neg (show ¬ b2i true = 0 by decide)]
    exact hgo
  · by_cases hx1 : x1 = 1
    · subst hx1
      rw [if_neg hx0, if_pos rfl, show inB 1 (1 + 1) = true by decide, if_neg (show ¬ b2i true = 0 by decide)]
      exact hgo
    · have hb : inB x1 (1 + 1) = false := by
        cases hc : inB x1 (1 + 1) with
        | false => rfl
        | true =>
          obtain ⟨v, hv, e⟩ := inB_t (by omega) hc
          rcases (show v = 0 ∨ v = 1 by omega) with e2 | e2
          · subst e2
            exact absurd e hx0
          · subst e2
            exact absurd e hx1
      rw [if_neg hx0, if_neg hx1, hb, if_pos (show b2i false = 0 from rfl)]
      exact ⟨_, _, rfl, rfl, rfl, fun _ _ => rfl, hso⟩
end ALL
