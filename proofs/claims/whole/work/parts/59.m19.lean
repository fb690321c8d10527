/-! ===== the order that is told ===== -/
theorem fw_cong {P Q : Nat → Bool} : ∀ {k j : Nat}, (∀ v, j ≤ v → v < j + k → P v = Q v) → fw P j k = fw Q j k
  | 0, _, _ => rfl
  | k + 1, j, h => by
    rw [fw, fw, h j (Nat.le_refl _) (by omega), fw_cong (k := k) (j := j + 1) (fun v h1 h2 => h v (by omega) (by omega))]
section FP
variable {W : Nat} {ic wr : Nat → Nat} {fr : Nat → Bool} {to aim : Nat} {ve : Nat → Nat}
theorem vthM_fuel (hic : ∀ w, w < W → 1 ≤ ic w) {d e : Nat} {m : Nat → Nat} {p : Nat} (h1 : p ≤ to) (h2 : to - p < d + 1) (h3 : to - p < e + 1) {w : Nat} (hw : w < W) : vthM ic wr fr to aim ve m p (fun w => gv W ic wr fr to aim ve d (dec m w) (p + ic w)) w = vthM ic wr fr to aim ve m p (fun w => gv W ic wr fr to aim ve e (dec m w) (p + ic w)) w := by
  have h1w := hic w hw
  unfold vthM
  by_cases q2 : to < p + ic w
  · rw [if_pos q2, if_pos q2]
  · rw [if_neg q2, if_neg q2]
    by_cases q3 : p + ic w = to
    · rw [if_pos q3, if_pos q3]
    · rw [if_neg q3, if_neg q3]
      try dsimp only
      rw [gv_fuel hic d e (dec m w) (p + ic w) (by omega) (by omega) (by omega)]
theorem fpath_fuel (hic : ∀ w, w < W → 1 ≤ ic w) : ∀ (d e : Nat) (m : Nat → Nat) (p : Nat), p ≤ to → to - p < d → to - p < e → fpath W ic wr fr to aim ve d m p = fpath W ic wr fr to aim ve e m p := by
  intro d
  induction d with
  | zero => intro e m p h1 h2; omega
  | succ d ih =>
    intro e m p h1 h2 h3
    obtain ⟨e, rfl⟩ : ∃ g, e = g + 1 := ⟨e - 1, by omega⟩
    rw [fpath, fpath]
    have hf : fw (fun w => selc aim (vthM ic wr fr to aim ve m p (fun w => gv W ic wr fr to aim ve d (dec m w) (p + ic w)) w) (gv W ic wr fr to aim ve (d + 1) m p)) 0 W = fw (fun w => selc aim (vthM ic wr fr to aim ve m p (fun w => gv W ic wr fr to aim ve e (dec m w) (p + ic w)) w) (gv W ic wr fr to aim ve (e + 1) m p)) 0 W := by
      refine fw_cong (fun v _ hv => ?_)
      try dsimp only
      rw [vthM_fuel hic h1 h2 h3 (by omega), gv_fuel hic (d + 1) (e + 1) m p h1 h2 h3]
    rw [hf]
    cases hq : fw (fun w => selc aim (vthM ic wr fr to aim ve m p (fun w => gv W ic wr fr to aim ve e (dec m w) (p + ic w)) w) (gv W ic wr fr to aim ve (e + 1) m p)) 0 W with
    | none => rfl
    | some w =>
      obtain ⟨_, g2, _, _⟩ := fw_some hq
      have h1w := hic w (by omega)
      try dsimp only
      by_cases q : to ≤ p + ic w
      · rw [if_pos q, if_pos q]
      · rw [if_neg q, if_neg q, ih e (dec m w) (p + ic w) (by omega) (by omega) (by omega)]
theorem fpath_cong : ∀ (d : Nat) (m m' : Nat → Nat) (p : Nat), (∀ w, w < W → m w = m' w) → fpath W ic wr fr to aim ve d m p = fpath W ic wr fr to aim ve d m' p := by
  intro d
  induction d with
  | zero => intro m m' p _; rfl
  | succ d ih =>
    intro m m' p h
    rw [fpath, fpath]
    have hd : ∀ w, ∀ v, v < W → dec m w v = dec m' w v := fun w v hv => by
      unfold dec
      rw [h v hv]
    have hf : fw (fun w => selc aim (vthM ic wr fr to aim ve m p (fun w => gv W ic wr fr to aim ve d (dec m w) (p + ic w)) w) (gv W ic wr fr to aim ve (d + 1) m p)) 0 W = fw (fun w => selc aim (vthM ic wr fr to aim ve m' p (fun w => gv W ic wr fr to aim ve d (dec m' w) (p + ic w)) w) (gv W ic wr fr to aim ve (d + 1) m' p)) 0 W := by
      refine fw_cong (fun v _ hv => ?_)
      try dsimp only
      rw [gv_cong (d + 1) m m' p h]
      unfold vthM
      try dsimp only
      rw [h v (by omega), gv_cong d (dec m v) (dec m' v) (p + ic v) (hd v)]
    rw [hf]
    cases hq : fw (fun w => selc aim (vthM ic wr fr to aim ve m' p (fun w => gv W ic wr fr to aim ve d (dec m' w) (p + ic w)) w) (gv W ic wr fr to aim ve (d + 1) m' p)) 0 W with
    | none => rfl
    | some w =>
      try dsimp only
      rw [ih (dec m w) (dec m' w) (p + ic w) (hd w)]
end FP
section FOL2
variable {N W : Nat} {ic m wr : Nat → Nat} {fr : Nat → Bool} {src to aim : Nat} {inches many worth : Nat → Int32} {T : Nat → Nat → Nat} {n : Nat} {sos slots takes places steps values : Nat → Int32} {last : Int32} {ve : Nat → Nat}
theorem c_follow_L (hN : 5000 < N) (hw : WI W ic src to) (h : TI W ic m fr src to T n sos slots takes places) (hC : CLO W ic m fr src to T n n 0) (hm : ∀ v, v < 4 → m v ≤ 99) (hi : ∀ v, v < 4 → inches v = nI (ic v)) (hma : ∀ v, v < 4 → many v = nI (m v)) (hwo : ∀ v, v < 4 → worth v = nI (wr v)) (hwr : ∀ w, w < W → wr w ≤ 99) (hsteps : ∀ v, v < 4 → steps v = nI (stepsN (rdx W ic m) v)) (ha : aim < 3)
    (hve : ∀ w, w < W → f_X6_valueAtEnd N (nI aim) last worth (nI w) = some (nI (ve w))) (hve2 : ∀ w, w < W → ve w ≤ 1000000 ∧ (aim = 0 → ve w ≤ 1)) (hval : ∀ j, j < n → values j = nI (gT W ic m wr fr src to aim ve (T j))) (hgb : ∀ j, j < n → gT W ic m wr fr src to aim ve (T j) ≤ 200000000) :
    ∀ (f k c : Nat) (order : Nat → Int32), k < n → src + 5 * c ≤ plc ic src (T k) → plc ic src (T k) < to → live aim (gT W ic m wr fr src to aim ve (T k)) → 14 ≤ c + f →
    ∃ order', f_X6_follow_L7 N steps sos slots takes places values (nI n) (nI to) (nI aim) last inches many worth (nI W) f (nI k) order (nI c) = some (true, order', nI (c + (fpath W ic wr fr to aim ve 61 (remT m (T k)) (plc ic src (T k))).length)) ∧ (∀ j, j < c → order' j = order j) ∧ (∀ j, j < (fpath W ic wr fr to aim ve 61 (remT m (T k)) (plc ic src (T k))).length → order' (c + j) = nI ((fpath W ic wr fr to aim ve 61 (remT m (T k)) (plc ic src (T k))).getD j 0)) := by
  intro f
  have hto := hw.2.1
  have h6 := h.2.2.2.2.2.1
  have hW := hw.1
  have hic1 : ∀ v, v < W → 1 ≤ ic v := fun v hv => by have := hw.2.2.2.1 v hv; omega
  induction f with
  | zero => intro k c order h1 h2 h3 h4 h5; omega
  | succ f ih =>
    intro k c order hk hc hp hlv hf
    have hV := (h.1 k hk).1
    obtain ⟨q1, q2, q3, q4⟩ := h.2.1 k hk
    rw [f_X6_follow_L7, if_neg (show ¬ (12 : Int32) ≤ nI c from nI_ge (b := 12) (by omega) (by omega)), if_neg (nI_pos (by omega))]
    unfold f_X6_firstWidthFrom
    have hF := c_fwf_L (N := N) (steps := steps) (sos := sos) (slots := slots) (takes := takes) (places := places) (values := values) (n := n) (to := to) (aim := aim) (last := last) (inches := inches) (many := many) (worth := worth) (by omega) hW ha (vt := vthT ic m wr fr src to aim ve (gT W ic m wr fr src to aim ve) (T k)) (k := k) (g := gT W ic m wr fr src to aim ve (T k)) (by omega) (hval k hk) (hgb k hk) (fun w hwW => ⟨c_valueThrough hw h hC hm hi hma hwo hsteps ha hve (fun τ υ he => gT_eq4 hW he) hk hwW (fun j _ hj => hval j hj), vth_bd hw ha hve2 hwr hV hwW⟩) N 0 (by omega) (by omega)
    rw [Nat.sub_zero] at hF
    rw [show (0 : Int32) = nI 0 from rfl] at *
    rw [hF, bs]
    have hfe : fw (fun w => selc aim (vthT ic m wr fr src to aim ve (gT W ic m wr fr src to aim ve) (T k) w) (gT W ic m wr fr src to aim ve (T k))) 0 W = fw (fun w => selc aim (vthM ic wr fr to aim ve (remT m (T k)) (plc ic src (T k)) (fun w => gv W ic wr fr to aim ve 60 (dec (remT m (T k)) w) (plc ic src (T k) + ic w)) w) (gv W ic wr fr to aim ve (60 + 1) (remT m (T k)) (plc ic src (T k)))) 0 W := by
      refine fw_cong (fun v _ hv => ?_)
      try dsimp only
      rw [vth_eq hw hV (by omega)]
      rfl
    have hex : ∃ w, fw (fun w => selc aim (vthT ic m wr fr src to aim ve (gT W ic m wr fr src to aim ve) (T k) w) (gT W ic m wr fr src to aim ve (T k))) 0 W = some w := by
      cases hq : fw (fun w => selc aim (vthT ic m wr fr src to aim ve (gT W ic m wr fr src to aim ve) (T k) w) (gT W ic m wr fr src to aim ve (T k))) 0 W with
      | some w => exact ⟨w, rfl⟩
      | none =>
        exfalso
        have e := gT_rec (wr := wr) (fr := fr) (aim := aim) (ve := ve) hw hV
        rw [e] at hlv
        obtain ⟨w, g1, g2⟩ := acc_sel W hlv
        rw [← e] at g2
        have g3 := fw_none hq w (Nat.zero_le _) (by omega)
        try dsimp only at g3
        rw [g2] at g3
        cases g3
    obtain ⟨w, hq⟩ := hex
    obtain ⟨_, g2, g3, _⟩ := fw_some hq
    have hwW : w < W := by omega
    have h5 := hw.2.2.2.1 w hwW
    have hfp : fpath W ic wr fr to aim ve 61 (remT m (T k)) (plc ic src (T k)) = if to ≤ plc ic src (T k) + ic w then [w] else w :: fpath W ic wr fr to aim ve 60 (dec (remT m (T k)) w) (plc ic src (T k) + ic w) := by
      rw [fpath, ← hfe, hq]
    rw [hq]
    try dsimp only
    rw [if_pos (nI_le (a := 0) (Nat.zero_le _) (by omega)), ck_nI (by omega) (by omega), ck_nI (by omega) (by omega), ck_nI (by omega) (by omega), cl_nI (by omega), cl_nI (by omega), cl_nI (by omega), q3, hi w (by omega), nI_add, nI_1]
    by_cases hend : to ≤ plc ic src (T k) + ic w
    · rw [if_pos (nI_le hend (by omega)), hfp, if_pos hend]
      obtain ⟨f, rfl⟩ : ∃ g, f = g + 1 := ⟨f - 1, by omega⟩
      refine ⟨upd order c (nI w), ?_, fun j hj => pk_un (by omega), fun j hj => ?_⟩
      · rw [f_X6_follow_L7]
        have e1 : ∀ A B : Option (Bool × (Nat → Int32) × Int32), (if (0 : Int32) ≤ (-1 : Int32) then A else B) = B := fun A B => if_neg (by decide)
        rw [e1, if_pos (show (-1 : Int32) < 0 by decide)]
        by_cases h12 : (12 : Int32) ≤ nI (c + 1)
        · rw [if_pos h12]
          rfl
        · rw [if_neg h12]
          rfl
      · have hj0 : j = 0 := by
          have : j < 1 := hj
          omega
        subst hj0
        show upd order c (nI w) (c + 0) = nI w
        rw [Nat.add_zero, pk_us]
    · rw [if_neg (nI_ge (by omega) (by omega)), ck_nI (by omega) (by omega), ck_nI (by omega) (by omega), q1, hsteps w (by omega), nI_add, ← slo_inc (by omega)]
      -- the step is allowed, and what follows lives
      have hvt := vth_eq (wr := wr) (fr := fr) (aim := aim) (ve := ve) hw hV hwW
      try dsimp only at g3
      have hok : okS ic m fr src to (T k) w ∧ live aim (gT W ic m wr fr src to aim ve (inc (T k) w)) := by
        unfold vthT at g3
        have hdead : selc aim (noV aim) (gT W ic m wr fr src to aim ve (T k)) = false := by
          unfold selc noV
          by_cases h0 : aim = 0
          · rw [if_pos h0, if_pos h0]
            rfl
          · rw [if_neg h0, if_neg h0]
            rfl
        by_cases x1 : T k w < m w
        · rw [if_neg (fun z => z x1), if_neg (by omega), if_neg (by omega)] at g3
          by_cases x2 : fr (plc ic src (T k) + ic w) = true
          · rw [if_pos x2] at g3
            refine ⟨⟨x1, by omega, x2⟩, ?_⟩
            unfold selc at g3
            unfold live
            by_cases h0 : aim = 0
            · rw [if_pos h0] at g3 ⊢
              have := of_decide_eq_true g3
              rw [if_neg (by omega)] at this
              omega
            · rw [if_neg h0] at g3 ⊢
              have := of_decide_eq_true (Bool.and_eq_true_iff.mp g3).1
              omega
          · rw [if_neg x2, hdead] at g3
            cases g3
        · rw [if_pos x1, hdead] at g3
          cases g3
      obtain ⟨i, i1, i2, i3⟩ := hC k w hk hwW (Or.inl hk) hok.1
      have hst := c_stateAt_in (N := N) hw h i1
      rw [eq4_slo i3] at hst
      rw [hst, bs]
      have hpi : plc ic src (T i) = plc ic src (T k) + ic w := by rw [eq4_plc i3, plc_inc (by omega)]
      obtain ⟨o2, r1, r2, r3⟩ := ih i (c + 1) (upd order c (nI w)) i1 (by omega) (by omega) (by rw [gT_eq4 hW i3]; exact hok.2) (by omega)
      have hpe : fpath W ic wr fr to aim ve 61 (remT m (T i)) (plc ic src (T i)) = fpath W ic wr fr to aim ve 60 (dec (remT m (T k)) w) (plc ic src (T k) + ic w) := by
        rw [hpi, ← rem_inc, fpath_cong 61 (remT m (T i)) (remT m (inc (T k) w)) _ (fun v hv => by
          unfold remT
          rw [i3 v (by omega)])]
        exact fpath_fuel hic1 61 60 _ _ (by omega) (by omega) (by omega)
      rw [hpe] at r1 r3
      refine ⟨o2, ?_, fun j hj => by rw [r2 j (by omega), pk_un (by omega)], fun j hj => ?_⟩
      · rw [r1, hfp, if_neg hend, List.length_cons]
        congr 4
        omega
      · rw [hfp, if_neg hend] at hj ⊢
        rw [List.length_cons] at hj
        by_cases hj0 : j = 0
        · subst hj0
          rw [Nat.add_zero, r2 c (by omega), pk_us]
          rfl
        · obtain ⟨j, rfl⟩ : ∃ g, j = g + 1 := ⟨j - 1, by omega⟩
          rw [show c + (j + 1) = c + 1 + j by omega, r3 j (by omega)]
          rfl
end FOL2
