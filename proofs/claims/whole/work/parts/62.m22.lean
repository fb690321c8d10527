/-! ===== the path is the best fill ===== -/
section PTH2
variable {W : Nat} {ic wr : Nat → Nat} {my fr : Nat → Bool} {src to : Nat}
theorem path_best (hic : ∀ w, w < W → 1 ≤ ic w) (hwr : ∀ w, w < W → wr w ≤ 99) (hfr : ∀ x, src < x → x < to → fr x = my x) : ∀ (d : Nat) (m : Nat → Nat) (p : Nat), src ≤ p → p < to → to - p < d → d ≤ 100 → mw wr (fl W ic my to d m p) < 1000000 →
    fnd wr (mw wr (fl W ic my to d m p)) (fl W ic my to d m p) = some (fpath W ic wr fr to 1 wr d m p) := by
  intro d
  induction d with
  | zero => intro m p _ _ h; omega
  | succ d ih =>
    intro m p h1 h2 h3 h4 hlt
    have hg := gv_mw (W := W) (ic := ic) hic hwr hfr (d + 1) m p h1 h2 h3 h4
    have hgl : live 1 (gv W ic wr fr to 1 wr (d + 1) m p) := by
      unfold live
      rw [if_neg (by omega), hg]
      exact hlt
    have hge : gv W ic wr fr to 1 wr (d + 1) m p = acc 1 (vthM ic wr fr to 1 wr m p (fun w => gv W ic wr fr to 1 wr d (dec m w) (p + ic w))) W := by rw [gv]
    rw [hge] at hgl
    obtain ⟨w0, g1, g2⟩ := acc_sel (aim := 1) W hgl
    rw [← hge] at g2
    rw [fpath]
    -- what the reached value says of a width
    have hval : ∀ w, w < W → vthM ic wr fr to 1 wr m p (fun w => gv W ic wr fr to 1 wr d (dec m w) (p + ic w)) w < 1000000 → vthM ic wr fr to 1 wr m p (fun w => gv W ic wr fr to 1 wr d (dec m w) (p + ic w)) w = mw wr (if stp ic my to m p w = true then (fl W ic my to d (dec m w) (p + ic w)).map (fun q => w :: q) else []) := by
      intro w hw hl
      have := vth_mw hic hwr hfr (d := d) (m := m) h1 h2 h3 (by omega) hw
      omega
    have hge2 : ∀ w, w < W → mw wr (fl W ic my to (d + 1) m p) ≤ mw wr (if stp ic my to m p w = true then (fl W ic my to d (dec m w) (p + ic w)).map (fun q => w :: q) else []) := by
      intro w hw
      rw [fl, if_neg (by omega), mw_flw]
      have hacc : ∀ (f : Nat → Nat) (j : Nat), w < j → acc 1 f j ≤ f w := by
        intro f j
        induction j with
        | zero => intro z; omega
        | succ j ihj =>
          intro z
          show min (acc 1 f j) (f j) ≤ f w
          by_cases e : w = j
          · subst e
            exact Nat.min_le_right _ _
          · exact Nat.le_trans (Nat.min_le_left _ _) (ihj (by omega))
      exact hacc (fun w => mw wr (if stp ic my to m p w = true then (fl W ic my to d (dec m w) (p + ic w)).map (fun q => w :: q) else [])) W hw
    cases hq : fw (fun w => selc 1 (vthM ic wr fr to 1 wr m p (fun w => gv W ic wr fr to 1 wr d (dec m w) (p + ic w)) w) (gv W ic wr fr to 1 wr (d + 1) m p)) 0 W with
    | none =>
      exfalso
      have := fw_none hq w0 (Nat.zero_le _) (by omega)
      try dsimp only at this
      rw [this] at g2
      cases g2
    | some w =>
      obtain ⟨_, k2, k3, k4⟩ := fw_some hq
      have hwW : w < W := by omega
      have hic1 := hic w hwW
      have hsel : ∀ u, u < W → ((selc 1 (vthM ic wr fr to 1 wr m p (fun w => gv W ic wr fr to 1 wr d (dec m w) (p + ic w)) u) (gv W ic wr fr to 1 wr (d + 1) m p) = true) ↔ (mw wr (if stp ic my to m p u = true then (fl W ic my to d (dec m u) (p + ic u)).map (fun q => u :: q) else []) = mw wr (fl W ic my to (d + 1) m p))) := by
        intro u hu
        have hv := vth_mw hic hwr hfr (d := d) (m := m) h1 h2 h3 (by omega) hu
        unfold selc
        rw [if_neg (by omega), hg, Bool.and_eq_true_iff, decide_eq_true_eq, decide_eq_true_eq]
        omega
      have k3 := (hsel w hwW).mp k3
      have hfl : fl W ic my to (d + 1) m p = flw (fun w => if stp ic my to m p w = true then (fl W ic my to d (dec m w) (p + ic w)).map (fun q => w :: q) else []) 0 W := by rw [fl, if_neg (by omega)]
      have hf1 : fnd wr (mw wr (fl W ic my to (d + 1) m p)) (fl W ic my to (d + 1) m p) = fnd wr (mw wr (fl W ic my to (d + 1) m p)) (if stp ic my to m p w = true then (fl W ic my to d (dec m w) (p + ic w)).map (fun q => w :: q) else []) := by
        conv => lhs; arg 3; rw [hfl]
        refine fnd_flw wr _ (fun w => if stp ic my to m p w = true then (fl W ic my to d (dec m w) (p + ic w)).map (fun q => w :: q) else []) (Nat.zero_le w) (by omega) (fun u _ hu => ?_) ?_
        · refine fnd_none_lt wr _ _ ?_
          have z1 := hge2 u (by omega)
          have z2 : ¬ mw wr (if stp ic my to m p u = true then (fl W ic my to d (dec m u) (p + ic u)).map (fun q => u :: q) else []) = mw wr (fl W ic my to (d + 1) m p) := fun z => by
            have y1 := (hsel u (by omega)).mpr z
            have y2 := k4 u (Nat.zero_le _) hu
            try dsimp only at y2
            rw [y1] at y2
            cases y2
          try dsimp only
          omega
        · try dsimp only
          rw [← k3]
          exact mw_mem wr _ (by omega)
      rw [hf1]
      dsimp only
      by_cases hs : stp ic my to m p w = true
      · rw [if_pos hs] at k3 ⊢
        have hle : p + ic w ≤ to := by
          unfold stp at hs
          simp only [Bool.and_eq_true, decide_eq_true_eq] at hs
          exact hs.2.1
        by_cases he : to ≤ p + ic w
        · have e : p + ic w = to := by omega
          rw [e, fl_end (by omega)] at k3
          rw [if_pos he, e, fl_end (by omega), ← k3]
          have hwr9 := hwr w hwW
          have e2 : mw wr ([[]].map (fun q => w :: q)) = wsum wr [w] := by
            show min (wr w + 0) 1000000 = wr w + 0
            omega
          rw [e2]
          exact fnd_cons_eq rfl
        · have hb : ∀ q, q ∈ fl W ic my to d (dec m w) (p + ic w) → wr w + wsum wr q ≤ 1000000 := fun q hq => by
            have := (fl_ws (wr := wr) hwr d _ _ q hq).1
            have hwr9 := hwr w hwW
            omega
          have e3 := mw_map wr w (fl W ic my to d (dec m w) (p + ic w)) hb
          have e4 : mw wr (fl W ic my to (d + 1) m p) = wr w + mw wr (fl W ic my to d (dec m w) (p + ic w)) := by omega
          rw [if_neg he, e4, fnd_map, ih (dec m w) (p + ic w) (by omega) (by omega) (by omega) (by omega) (by omega)]
          rfl
      · rw [if_neg hs] at k3
        have : mw wr ([] : List (List Nat)) = 1000000 := rfl
        omega
end PTH2
