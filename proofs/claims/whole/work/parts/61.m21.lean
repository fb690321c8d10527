/-! ===== the path is the first fill; the path is the best fill ===== -/
section PTH
variable {W : Nat} {ic wr : Nat → Nat} {my fr : Nat → Bool} {src to : Nat}
/-- through a width: the value and the list -/
theorem vth_cnt (hic : ∀ w, w < W → 1 ≤ ic w) (hfr : ∀ x, src < x → x < to → fr x = my x) (eb : Option Nat) {d : Nat} {m : Nat → Nat} {p : Nat} (h1 : src ≤ p) (h2 : p < to) (h3 : to - p < d + 1) {w : Nat} (hw : w < W) :
    vthM ic wr fr to 0 (fun w => if eb = none ∨ some w = eb then 1 else 0) m p (fun w => gv W ic wr fr to 0 (fun w => if eb = none ∨ some w = eb then 1 else 0) d (dec m w) (p + ic w)) w = cnt eb (if stp ic my to m p w = true then (fl W ic my to d (dec m w) (p + ic w)).map (fun q => w :: q) else []) := by
  have h1w := hic w hw
  unfold vthM stp
  by_cases q1 : m w = 0
  · rw [if_pos q1, if_neg (by simp [q1])]
    rfl
  · rw [if_neg q1]
    by_cases q2 : to < p + ic w
    · rw [if_pos q2, if_neg (show ¬ (0 : Nat) = 2 by omega), if_neg (by simp; omega)]
      rfl
    · rw [if_neg q2]
      by_cases q3 : p + ic w = to
      · rw [if_pos q3, if_pos (by simp [q1, q3]), q3, fl_end (by omega)]
        rfl
      · rw [if_neg q3, hfr (p + ic w) (by omega) (by omega), if_neg (show ¬ (0 : Nat) = 1 by omega)]
        by_cases q4 : my (p + ic w) = true
        · rw [if_pos q4, if_pos (by simp [q1, q4]; omega), cnt_map eb w _ (fl_ne (by omega)), Nat.add_zero]
          exact gv_cnt hic hfr eb d (dec m w) (p + ic w) (by omega) (by omega) (by omega)
        · rw [if_neg q4, if_neg (by simp [q4]; omega)]
          rfl
theorem vth_mw (hic : ∀ w, w < W → 1 ≤ ic w) (hwr : ∀ w, w < W → wr w ≤ 99) (hfr : ∀ x, src < x → x < to → fr x = my x) {d : Nat} {m : Nat → Nat} {p : Nat} (h1 : src ≤ p) (h2 : p < to) (h3 : to - p < d + 1) (h4 : d ≤ 100) {w : Nat} (hw : w < W) :
    min 1000000 (vthM ic wr fr to 1 wr m p (fun w => gv W ic wr fr to 1 wr d (dec m w) (p + ic w)) w) = mw wr (if stp ic my to m p w = true then (fl W ic my to d (dec m w) (p + ic w)).map (fun q => w :: q) else []) := by
  have h1w := hic w hw
  have hwr9 := hwr w hw
  unfold vthM stp
  by_cases q1 : m w = 0
  · rw [if_pos q1, if_neg (by simp [q1])]
    rfl
  · rw [if_neg q1]
    by_cases q2 : to < p + ic w
    · rw [if_pos q2, if_neg (show ¬ (1 : Nat) = 2 by omega), if_neg (by simp; omega)]
      rfl
    · rw [if_neg q2]
      by_cases q3 : p + ic w = to
      · rw [if_pos q3, if_pos (by simp [q1, q3]), q3, fl_end (by omega)]
        show min 1000000 (wr w) = min (wr w + 0) 1000000
        omega
      · rw [if_neg q3, hfr (p + ic w) (by omega) (by omega), if_pos (show (1 : Nat) = 1 from rfl)]
        by_cases q4 : my (p + ic w) = true
        · rw [if_pos q4, if_pos (by simp [q1, q4]; omega), mw_map wr w _ (fun q hq => by
            have := (fl_ws (wr := wr) hwr d _ _ q hq).1
            omega)]
          try dsimp only
          rw [gv_mw hic hwr hfr d (dec m w) (p + ic w) (by omega) (by omega) (by omega) h4, Nat.add_comm]
        · rw [if_neg q4, if_neg (by simp [q4]; omega)]
          rfl
theorem path_first (hic : ∀ w, w < W → 1 ≤ ic w) (hfr : ∀ x, src < x → x < to → fr x = my x) : ∀ (d : Nat) (m : Nat → Nat) (p : Nat), src ≤ p → p < to → to - p < d → fl W ic my to d m p ≠ [] →
    (fl W ic my to d m p).head? = some (fpath W ic wr fr to 0 (fun w => if (none : Option Nat) = none ∨ some w = none then 1 else 0) d m p) := by
  intro d
  induction d with
  | zero => intro m p _ _ h; omega
  | succ d ih =>
    intro m p h1 h2 h3 hne
    have hg := gv_cnt (wr := wr) (W := W) (ic := ic) hic hfr none (d + 1) m p h1 h2 h3
    have hpos := (cnt_none_pos _).mpr hne
    rw [← hg] at hpos
    rw [gv] at hpos
    obtain ⟨w0, g1, g2⟩ := acc_sel (aim := 0) W (by unfold live; rw [if_pos rfl]; exact hpos)
    rw [fpath]
    cases hq : fw (fun w => selc 0 (vthM ic wr fr to 0 (fun w => if (none : Option Nat) = none ∨ some w = none then 1 else 0) m p (fun w => gv W ic wr fr to 0 (fun w => if (none : Option Nat) = none ∨ some w = none then 1 else 0) d (dec m w) (p + ic w)) w) (gv W ic wr fr to 0 (fun w => if (none : Option Nat) = none ∨ some w = none then 1 else 0) (d + 1) m p)) 0 W with
    | none =>
      exfalso
      have := fw_none hq w0 (Nat.zero_le _) (by omega)
      try dsimp only at this
      unfold selc at this g2
      rw [if_pos rfl] at this g2
      rw [this] at g2
      cases g2
    | some w =>
      obtain ⟨_, k2, k3, k4⟩ := fw_some hq
      have hwW : w < W := by omega
      try dsimp only at k3
      unfold selc at k3
      rw [if_pos rfl] at k3
      have k3 := of_decide_eq_true k3
      rw [vth_cnt hic hfr none h1 h2 h3 hwW] at k3
      have kne := (cnt_none_pos _).mp k3
      rw [fl, if_neg (by omega)]
      rw [head_flw (fun w => if stp ic my to m p w = true then (fl W ic my to d (dec m w) (p + ic w)).map (fun q => w :: q) else []) (Nat.zero_le w) (by omega) (fun u _ hu => by
        have := k4 u (Nat.zero_le _) hu
        try dsimp only at this
        unfold selc at this
        rw [if_pos rfl] at this
        have := of_decide_eq_false this
        rw [vth_cnt hic hfr none h1 h2 h3 (by omega)] at this
        rcases Classical.em ((if stp ic my to m p u = true then (fl W ic my to d (dec m u) (p + ic u)).map (fun q => u :: q) else []) = []) with z | z
        · exact z
        · exact absurd ((cnt_none_pos _).mpr z) this) kne]
      try dsimp only at kne ⊢
      by_cases hs : stp ic my to m p w = true
      · rw [if_pos hs] at kne ⊢
        have hle : p + ic w ≤ to := by
          unfold stp at hs
          simp only [Bool.and_eq_true, decide_eq_true_eq] at hs
          exact hs.2.1
        by_cases he : to ≤ p + ic w
        · have e : p + ic w = to := by omega
          have hic1 := hic w hwW
          rw [if_pos he, e, fl_end (by omega)]
          rfl
        · have hic1 := hic w hwW
          have hne2 : fl W ic my to d (dec m w) (p + ic w) ≠ [] := fun z => kne (by rw [z]; rfl)
          rw [if_neg he, List.head?_map, ih (dec m w) (p + ic w) (by omega) (by omega) (by omega) hne2]
          rfl
      · rw [if_neg hs] at kne
        exact absurd rfl kne
end PTH
