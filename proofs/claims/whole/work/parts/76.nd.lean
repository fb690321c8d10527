/-! ===== the takes that end at 'to' are the takes of fills; needs ===== -/
theorem mem_flw_of {g : Nat → List (List Nat)} {q : List Nat} : ∀ {k j w : Nat}, j ≤ w → w < j + k → q ∈ g w → q ∈ flw g j k
  | 0, j, w, h1, h2, _ => by omega
  | k + 1, j, w, h1, h2, hq => by
    rw [flw]
    by_cases e : w = j
    · subst e
      exact List.mem_append_left _ hq
    · exact List.mem_append_right _ (mem_flw_of (k := k) (j := j + 1) (by omega) (by omega) hq)
theorem fl_cong {W : Nat} {ic : Nat → Nat} {my : Nat → Bool} {to : Nat} : ∀ (d : Nat) (m m' : Nat → Nat) (p : Nat), (∀ w, w < W → m w = m' w) → fl W ic my to d m p = fl W ic my to d m' p := by
  intro d
  induction d with
  | zero => intro m m' p _; rfl
  | succ d ihd =>
    intro m m' p hm
    rw [fl, fl]
    by_cases hp : p = to
    · rw [if_pos hp, if_pos hp]
    · rw [if_neg hp, if_neg hp]
      refine flw_cong (fun w _ hw3 => ?_)
      have est : stp ic my to m p w = stp ic my to m' p w := by
        unfold stp
        rw [hm w (by omega)]
      rw [est, ihd (dec m w) (dec m' w) (p + ic w) (fun v hv => by unfold dec; rw [hm v hv])]
section HAS
variable {W : Nat} {ic m : Nat → Nat} {my fr : Nat → Bool} {src to : Nat} {T : Nat → Nat → Nat} {n : Nat} {sos slots takes places : Nat → Int32}
theorem remT_inc4 {τ υ : Nat → Nat} {w : Nat} (hW4 : W ≤ 4) (h : eq4 υ (inc τ w)) (v : Nat) (hv : v < W) : remT m υ v = dec (remT m τ) w v := by
  have e3 : dec (remT m τ) w v = remT m (inc τ w) v := by rw [rem_inc]
  rw [e3]
  show m v - υ v = m v - inc τ w v
  rw [h v (by omega)]
theorem reach_fill (hw : WI W ic src to) (h : TI W ic m fr src to T n sos slots takes places) (hC : CLO W ic m fr src to T n n 0) (hfr : ∀ x, src < x → x < to → fr x = my x) (hft : fr to = true) : ∀ (d k : Nat) (q : List Nat), k < n → q ∈ fl W ic my to d (remT m (T k)) (plc ic src (T k)) → ∃ j, j < n ∧ plc ic src (T j) = to ∧ ∀ v, v < 4 → T j v = T k v + q.count v := by
  intro d
  induction d with
  | zero => intro k q hk hq; cases hq
  | succ d ih =>
    intro k q hk hq
    rw [fl] at hq
    by_cases hp : plc ic src (T k) = to
    · rw [if_pos hp] at hq
      have hq0 : q = [] := by simpa using hq
      subst hq0
      exact ⟨k, hk, hp, fun v _ => rfl⟩
    · rw [if_neg hp] at hq
      obtain ⟨w, _, hwW, hq2⟩ := mem_flw hq
      try dsimp only at hq2
      by_cases hs : stp ic my to (remT m (T k)) (plc ic src (T k)) w = true
      · rw [if_pos hs] at hq2
        have hs' := hs
        unfold stp at hs'
        simp only [Bool.and_eq_true, decide_eq_true_eq, Bool.or_eq_true] at hs'
        obtain ⟨s1, s2, s3⟩ := hs'
        have h5 := (hw.2.2.2.1 w (by omega)).1
        have hW4 := hw.1
        have hsrc : src ≤ plc ic src (T k) := Nat.le_add_right _ _
        have hok : okS ic m fr src to (T k) w := by
          refine ⟨?_, s2, ?_⟩
          · have : remT m (T k) w = m w - T k w := rfl
            omega
          · by_cases e : plc ic src (T k) + ic w = to
            · rw [e]; exact hft
            · rw [hfr _ (by omega) (by omega)]
              rcases s3 with s3 | s3
              · exact absurd s3 e
              · exact s3
        obtain ⟨j, hj, _, hje⟩ := hC k w hk (by omega) (Or.inl hk) hok
        have hpj : plc ic src (T j) = plc ic src (T k) + ic w := by
          rw [eq4_plc hje, plc_inc (by omega)]
        obtain ⟨q3, hq3, hqe⟩ := List.mem_map.mp hq2
        have e2 : fl W ic my to d (remT m (T j)) (plc ic src (T k) + ic w) = fl W ic my to d (dec (remT m (T k)) w) (plc ic src (T k) + ic w) := fl_cong d _ _ _ (fun v hv => remT_inc4 hW4 hje v hv)
        obtain ⟨j2, g1, g2, g3⟩ := ih j q3 hj (by rw [hpj, e2]; exact hq3)
        refine ⟨j2, g1, g2, fun v hv => ?_⟩
        subst hqe
        rw [g3 v hv, hje v hv, List.count_cons]
        unfold inc
        by_cases e : v = w
        · subst e
          rw [if_pos rfl, if_pos (by simp)]
          omega
        · rw [if_neg e, if_neg (by simp; omega)]
          omega
      · rw [if_neg hs] at hq2
        cases hq2
theorem table_fill (hw : WI W ic src to) (h : TI W ic m fr src to T n sos slots takes places) (hfr : ∀ x, src < x → x < to → fr x = my x) : ∀ (k : Nat), k < n → ∀ (d : Nat) (q : List Nat), q ∈ fl W ic my to d (remT m (T k)) (plc ic src (T k)) → ∃ q', q' ∈ fl W ic my to (d + sm4 (T k)) m src ∧ ∀ v, v < 4 → q'.count v = T k v + q.count v := by
  intro k
  induction k using Nat.strongRecOn with
  | _ k ih =>
    intro hk d q hq
    have hW4 := hw.1
    rcases (h.1 k hk).2 with e | ⟨_, a, v, g2, g3, g4, g5⟩
    · subst e
      have h0 := h.2.2.2.1.2
      have hp0 : plc ic src (T 0) = src := by
        rw [eq4_plc h0]
        simp [plc]
      have hs0 : sm4 (T 0) = 0 := by
        rw [eq4_sm h0]
        rfl
      rw [hp0] at hq
      refine ⟨q, ?_, fun v hv => by rw [h0 v hv]; exact (Nat.zero_add _).symm⟩
      rw [hs0, Nat.add_zero, fl_cong d m (remT m (T 0)) src (fun v hv => by
        show m v = m v - T 0 v
        rw [h0 v (by omega)]
        rfl)]
      exact hq
    · obtain ⟨o1, o2, o3⟩ := g4
      have h5 := (hw.2.2.2.1 v g3).1
      have hsrc : src ≤ plc ic src (T a) := Nat.le_add_right _ _
      have hpk : plc ic src (T k) = plc ic src (T a) + ic v := by
        rw [eq4_plc g5, plc_inc (by omega)]
      have hmem : v :: q ∈ fl W ic my to (d + 1) (remT m (T a)) (plc ic src (T a)) := by
        rw [fl, if_neg (by omega)]
        refine mem_flw_of (w := v) (Nat.zero_le _) (by omega) ?_
        have hs : stp ic my to (remT m (T a)) (plc ic src (T a)) v = true := by
          unfold stp
          simp only [Bool.and_eq_true, decide_eq_true_eq, Bool.or_eq_true]
          refine ⟨?_, o2, ?_⟩
          · show m v - T a v ≠ 0
            omega
          · by_cases e : plc ic src (T a) + ic v = to
            · exact Or.inl e
            · rw [← hfr _ (by omega) (by omega)]
              exact Or.inr o3
        rw [if_pos hs]
        refine List.mem_map.mpr ⟨q, ?_, rfl⟩
        rw [fl_cong d _ (remT m (T k)) _ (fun u hu => (remT_inc4 hW4 g5 u hu).symm), ← hpk]
        exact hq
      obtain ⟨q', f1, f2⟩ := ih a g2 (by omega) (d + 1) (v :: q) hmem
      have hsm : sm4 (T k) = sm4 (T a) + 1 := by
        rw [eq4_sm g5, sm4_inc (by omega)]
      refine ⟨q', ?_, fun u hu => ?_⟩
      · rw [show d + sm4 (T k) = d + 1 + sm4 (T a) by omega]
        exact f1
      · rw [f2 u hu, g5 u hu, List.count_cons]
        unfold inc
        by_cases e : u = v
        · subst e
          rw [if_pos rfl, if_pos (by simp)]
          omega
        · rw [if_neg e, if_neg (by simp; omega)]
          omega
end HAS
section HAS2
variable {N : Nat} {s : Nat → Int32} {row src to : Nat} {steps sos slots takes places : Nat → Int32} {T : Nat → Nat → Nat} {n : Nat}
/-- the takes that end at 'to' and the fills -/
theorem wt_takes (hW : Wd s) (hto : to ≤ 60) (hsrc : src < to) (h : WT s row src to steps sos slots takes places T n) : (∀ q, q ∈ flS s row src to → ∃ j, j < n ∧ plc (inch s) src (T j) = to ∧ ∀ v, v < 4 → T j v = q.count v) ∧ (∀ j, j < n → plc (inch s) src (T j) = to → ∃ q, q ∈ flS s row src to ∧ ∀ v, v < 4 → q.count v = T j v) := by
  have hw := hW.WI hto (Nat.le_of_lt hsrc)
  have h0 := h.2.1.2.2.2.1
  have hp0 : plc (inch s) src (T 0) = src := by
    rw [eq4_plc h0.2]
    simp [plc]
  have hfr : ∀ x, src < x → x < to → frB s row src to x = mayB s row x := fun x h1 h2 => frB_mid h1 h2
  have hft : frB s row src to to = true := by
    unfold frB
    rw [decide_eq_true rfl]
    rfl
  refine ⟨fun q hq => ?_, fun j hj hp => ?_⟩
  · obtain ⟨j, g1, g2, g3⟩ := reach_fill hw h.2.1 h.2.2 hfr hft 61 0 q (by omega) (by
      rw [hp0, fl_cong 61 _ (mny s) src (fun v hv => by
        show mny s v - T 0 v = mny s v
        rw [h0.2 v (by have := hw.1; omega)]
        rfl)]
      exact hq)
    refine ⟨j, g1, g2, fun v hv => ?_⟩
    rw [g3 v hv, h0.2 v hv]
    exact Nat.zero_add _
  · have hs := (h.2.1.1 j hj).1.sum hw
    obtain ⟨q, g1, g2⟩ := table_fill hw h.2.1 hfr j hj (61 - sm4 (T j)) [] (by
      rw [hp, fl_end (by omega)]
      exact List.mem_cons_self)
    rw [show 61 - sm4 (T j) + sm4 (T j) = 61 by omega] at g1
    exact ⟨q, g1, fun v hv => by rw [g2 v hv]; rfl⟩
theorem c_hasFill (hN : 5000 < N) (hW : Wd s) (hto : to ≤ 60) (hsrc : src < to) (h : WT s row src to steps sos slots takes places T n) : ∃ b, f_X6_hasFill N places (nI n) (nI to) = some b ∧ (b = true ↔ flS s row src to ≠ []) := by
  have hn : n ≤ 1820 := h.2.1.2.2.2.2.2.1
  obtain ⟨b, e1, e2⟩ := c_hasFill_L (N := N) hto h.2.1 N 0 (by omega) (by omega)
  refine ⟨b, e1, e2.trans ?_⟩
  obtain ⟨a1, a2⟩ := wt_takes hW hto hsrc h
  refine ⟨fun ⟨k, _, q2, q3⟩ => ?_, fun hne => ?_⟩
  · obtain ⟨q, g1, _⟩ := a2 k q2 q3
    exact List.ne_nil_of_mem g1
  · obtain ⟨q, hq⟩ := List.exists_mem_of_ne_nil _ hne
    obtain ⟨j, g1, g2, _⟩ := a1 q hq
    exact ⟨j, Nat.zero_le _, g1, g2⟩
end HAS2
theorem upd_upd {f : Nat → Int32} {k : Nat} {a b : Int32} : upd (upd f k a) k b = upd f k b := by
  funext j
  by_cases e : j = k
  · subst e
    rw [pk_us, pk_us]
  · rw [pk_un e, pk_un e, pk_un e]
theorem upd_self {f : Nat → Int32} {k : Nat} {a : Int32} (h : f k = a) : upd f k a = f := by
  funext j
  by_cases e : j = k
  · subst e
    rw [pk_us, h]
  · rw [pk_un e]
theorem cnt_lt {s : Nat → Int32} (hG : Gd s) {r src to : Nat} (h1 : src < to) (h2 : to ≤ 60) : cnt none (flS s r src to) < 2 ^ 31 := by
  have := gv_count (wr := wor s) (fr := frB s r src to) (to := to) (ve := fun v => if (none : Option Nat) = none ∨ some v = none then 1 else 0) (aim := 0) rfl (fun v hv => by rw [if_pos (Or.inl rfl)]; omega) hG.2.1 hG.2.2.1 61 12 (mny s) src (by omega)
  rw [gv_cnt (my := mayB s r) (fun v hv => by have := hG.2.2.1 v hv; omega) (fun x h1 h2 => frB_mid h1 h2) none 61 (mny s) src (Nat.le_refl _) h1 (by omega)] at this
  have e : (4 : Nat) ^ 12 = 16777216 := by decide
  unfold flS
  omega
section CAL4
variable {N : Nat} {i m w l d t : Nat → Int32} {x y z : Int32} {s : Nat → Int32} {i0 m0 w0 l0 d0 t0 : Nat → Int32} {x0 y0 z0 : Int32}
variable {free steps sos slots takes places values order way found : Nat → Int32} {states wto aim last slt wrw wt ws eb fs fw : Int32}
theorem r_needs (hN : 5000 < N) (E : Enc i m w l d t x y z s) (O : Ok s) (hso : SO sos) {x1 x2 : Int32} : ∃ p q, f_X7_needs N i m w l d t x y z i0 m0 w0 l0 d0 t0 x0 y0 z0 free steps sos slots takes places states wto x1 x2 = some p ∧ f_X8_needs N s way found wrw wt ws eb fs fw x1 x2 = some q ∧ p.1 = q.1 ∧ q.2.1 = s ∧ SO p.2.2.2.2.2.2.2.2.2.2.2.2.1 ∧ (refO s x1 (inB x2 (wide s)) = 0 → ¬ p.2.2.2.2.2.2.2.2.2.2.2.2.2.2.2.2.2 = 0) := by
  have h6 := O.h6
  have hw4 := O.w4
  unfold f_X7_needs f_X8_needs
  rw [show f_X7_isWidth N x x2 = some (inB x2 (wide s)) by rw [E.wide O.S]; exact c_inB.2, bs, c_refO E O, bs, e_wrongWidth O, bs]
  by_cases hz : refO s x1 (inB x2 (wide s)) = 0
  · rw [if_pos hz, if_pos hz]
    obtain ⟨r, hr, rfl, hb, hl0⟩ := refO_0 O hz
    obtain ⟨v, hv, rfl⟩ := inB_t (by omega) hb
    obtain ⟨hl1, hl2⟩ := O.ln r hr
    have hm12 := O.m12 v (by omega)
    obtain ⟨i', m', w', l', d', t', e5, E2⟩ := c_takeOver (N := N) E (i0 := i0) (m0 := m0) (w0 := w0) (l0 := l0) (d0 := d0) (t0 := t0) (x0 := x0) (y0 := y0) (z0 := z0)
    rw [e5, bs, e_many O.S (by omega), bs]
    try dsimp only
    have g5 : gi (nI v) 4 = true := giT (by omega) (by omega)
    have g6 : gi (nI (3 + 3 * v + 1)) 99 = true := giT (by omega) (by omega)
    have ix : ((3 : Int32) + 3 * nI v) + 1 = nI (3 + 3 * v + 1) := by rw [l3, l1, pk_mul, nI_add, nI_add]
    have hsv : s (3 + 3 * v + 1) = nI (mny s v) := O.S.at (by omega)
    have key : ∀ (f j : Nat) (mj sj free steps sos slots takes places way found : Nat → Int32) (states wto wrw wt ws eb fs fw : Int32), mny s v + j ≤ 13 → 14 < mny s v + j + f → SO sos → (∀ a, upd mj v a = upd m' v a) → (∀ a, upd sj (3 + 3 * v + 1) a = upd s (3 + 3 * v + 1) a) → ∃ p q, f_X7_needs_L31 N i m w l d t x y z i' w' l' d' t' x y z (nI r) (nI v) f (nI j) mj free steps sos slots takes places states wto = some p ∧ f_X8_needs_L27 N (nI r) (nI v) (nI (mny s v)) f (-4) (nI j) sj way found wrw wt ws eb fs fw = some q ∧ p.1 = q.1 ∧ q.2.1 = s ∧ SO p.2.2.2.2.2.2.2.2.2.2.2.2.1 ∧ ((¬ wto = 0 ∨ mny s v + j ≤ 12) → ¬ p.2.2.2.2.2.2.2.2.2.2.2.2.2.2.2.2.2 = 0) := by
      intro f
      induction f with
      | zero => intro j mj sj free steps sos slots takes places way found states wto wrw wt ws eb fs fw h1 h2; omega
      | succ f ih =>
        intro j mj sj free steps sos slots takes places way found states wto wrw wt ws eb fs fw h1 h2 hso hmj hsj
        rw [f_X7_needs_L31, f_X8_needs_L27]
        simp only [ix, g5, g6, ck_t, cl_nI (show v < 2 ^ 31 by omega), cl_nI (show 3 + 3 * v + 1 < 2 ^ 31 by omega), E.mny O.S (show v < 4 by omega), nI_add, nI_1, hmj, hsj, upd_self hsv]
        by_cases hj : 12 < mny s v + j
        · rw [if_pos (show (12 : Int32) < nI (mny s v + j) from nI_lt (a := 12) hj (by omega)), if_pos (show (12 : Int32) < nI (mny s v + j) from nI_lt (a := 12) hj (by omega))]
          exact ⟨_, _, rfl, rfl, rfl, rfl, hso, fun hq => hq.elim id (fun z => absurd z (by omega))⟩
        · rw [if_neg (show ¬ (12 : Int32) < nI (mny s v + j) from nI_nlt (a := 12) (by omega) (by omega)), if_neg (show ¬ (12 : Int32) < nI (mny s v + j) from nI_nlt (a := 12) (by omega) (by omega)), if_neg (show ¬ (0 : Int32) ≤ -4 by decide)]
          have E3 := E2.set (v := v) (n := mny s v + j) (by omega)
          have W3 : Wd (setM s v (mny s v + j)) := O.wd.set (by omega) (by omega)
          have hln : len (setM s v (mny s v + j)) r = len s r := setM_len (by omega)
          obtain ⟨T2, n2, b1, b2, b3, b4, b5, b6, e6, e7⟩ := c_waysOf (N := N) E3 W3 hN (row := r) (by omega) (by rw [hln]; exact hl2) (free := free) (steps := steps) (slots := slots) (takes := takes) (places := places) (states := states) (wto := wto) hso
          rw [e6, bs]
          try dsimp only
          obtain ⟨b, f1, f2⟩ := c_hasFill (N := N) hN W3 (by rw [hln]; exact hl2) (by rw [hln]; omega) e7
          rw [f1, bs]
          obtain ⟨p1, p2, p3, p4, p5, p6, p7, e9, _⟩ := e_fillsOf (N := N) (s := setM s v (mny s v + j)) (way := way) (found := found) (wrw := wrw) (wt := wt) (ws := ws) (eb := eb) (fs := fs) (fw := fw) (by omega) W3.1 (r := r) (by omega) (by rw [hln]; omega) (by rw [hln]; exact hl2)
          have e9' : f_X8_fillsOf N (upd s (3 + 3 * v + 1) (nI (mny s v + j))) way found wrw wt ws eb fs fw (nI r) = _ := e9
          rw [e9', bs]
          try dsimp only
          by_cases hL : flS (setM s v (mny s v + j)) r 0 (len (setM s v (mny s v + j)) r) = []
          · have hb2 : b = false := by
              cases b with
              | false => rfl
              | true => exact absurd hL (f2.mp rfl)
            have hc0 : cnt none (flS (setM s v (mny s v + j)) r 0 (len (setM s v (mny s v + j)) r)) = 0 := by rw [hL]; rfl
            rw [hb2, if_pos (show b2i false = 0 from rfl), hc0, if_pos (show nI 0 ≤ 0 by decide)]
            obtain ⟨P, Q, y1, y2, y3, y4, y5, y6⟩ := ih (j + 1) _ _ _ _ _ _ _ _ _ _ _ _ _ _ _ _ _ _ (by omega) (by omega) e7.so (fun a => upd_upd) (fun a => upd_upd)
            exact ⟨P, Q, y1, y2, y3, y4, y5, fun _ => y6 (Or.inl (by rw [hln]; exact nI_ne0 (by omega) (by omega)))⟩
          · have hb2 : b = true := f2.mpr hL
            have hc := (cnt_none_pos _).mpr hL
            have hcl := cnt_lt W3.1 (r := r) (src := 0) (to := len (setM s v (mny s v + j)) r) (by rw [hln]; omega) (by rw [hln]; exact hl2)
            rw [hb2, if_neg (show ¬ b2i true = 0 by decide), if_neg (nI_nle hc hcl)]
            obtain ⟨f, rfl⟩ : ∃ g, f = g + 1 := ⟨f - 1, by omega⟩
            rw [f_X8_needs_L27]
            have hs2 : ∀ a, upd (setM s v (mny s v + j)) (3 + 3 * v + 1) a = upd s (3 + 3 * v + 1) a := fun a => upd_upd
            simp only [ix, g6, ck_t, cl_nI (show 3 + 3 * v + 1 < 2 ^ 31 by omega), hs2, upd_self hsv]
            rw [if_pos (show (0 : Int32) ≤ nI j from nI_pos' (by omega))]
            split
            · exact ⟨_, _, rfl, rfl, rfl, rfl, e7.so, fun _ => by dsimp only; rw [hln]; exact nI_ne0 (by omega) (by omega)⟩
            · exact ⟨_, _, rfl, rfl, rfl, rfl, e7.so, fun _ => by dsimp only; rw [hln]; exact nI_ne0 (by omega) (by omega)⟩
    obtain ⟨P, Q, y1, y2, y3, y4, y5, y6⟩ := key N 0 m' s free steps sos slots takes places way found states wto wrw wt ws eb fs fw (by omega) (by omega) hso (fun _ => rfl) (fun _ => rfl)
    exact ⟨P, Q, y1, y2, y3, y4, y5, fun _ => y6 (Or.inr (by omega))⟩
  · rw [if_neg hz, if_neg hz]
    exact ⟨_, _, rfl, rfl, rfl, rfl, hso, fun q => absurd q hz⟩
end CAL4
