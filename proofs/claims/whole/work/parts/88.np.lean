/-! ===== the least of values of lists, in general; rows that end in a cut slate ===== -/
def mvF (fv : List Nat → Nat) : List (List Nat) → Nat
  | [] => 1000000
  | q :: L => min (fv q) (mvF fv L)
theorem mvF_le (fv : List Nat → Nat) : ∀ A, mvF fv A ≤ 1000000
  | [] => Nat.le_refl _
  | q :: A => Nat.le_trans (Nat.min_le_right _ _) (mvF_le fv A)
theorem mvF_app (fv : List Nat → Nat) : ∀ A B, mvF fv (A ++ B) = min (mvF fv A) (mvF fv B)
  | [], B => by
    have := mvF_le fv B
    show mvF fv B = min 1000000 (mvF fv B)
    omega
  | q :: A, B => by
    show min (fv q) (mvF fv (A ++ B)) = min (min (fv q) (mvF fv A)) (mvF fv B)
    rw [mvF_app fv A B, Nat.min_assoc]
theorem mvF_flw (fv : List Nat → Nat) (g : Nat → List (List Nat)) : ∀ k, mvF fv (flw g 0 k) = acc 2 (fun w => mvF fv (g w)) k
  | 0 => rfl
  | k + 1 => by
    rw [flw_snoc, mvF_app, mvF_flw fv g k, Nat.zero_add]
    rfl
def fndF (fv : List Nat → Nat) (v : Nat) (L : List (List Nat)) : Option (List Nat) := L.find? (fun q => decide (fv q = v))
theorem fndF_cons_eq {fv : List Nat → Nat} {v : Nat} {q : List Nat} {L : List (List Nat)} (h : fv q = v) : fndF fv v (q :: L) = some q := by
  unfold fndF
  rw [List.find?_cons_of_pos (by simpa using h)]
theorem fndF_cons_ne {fv : List Nat → Nat} {v : Nat} {q : List Nat} {L : List (List Nat)} (h : fv q ≠ v) : fndF fv v (q :: L) = fndF fv v L := by
  unfold fndF
  rw [List.find?_cons_of_neg (by simpa using h)]
theorem selF_true_some (fv : List Nat → Nat) : ∀ (L : List (List Nat)) (q0 : List Nat) (u0 : Nat), u0 < 1000000 → L.foldl (fun o q => vsel true o q (fv q)) (some (q0, u0)) = if mvF fv L < u0 then (fndF fv (mvF fv L) L).map (fun q => (q, fv q)) else some (q0, u0)
  | [], q0, u0, h => by
    rw [if_neg (show ¬ mvF fv [] < u0 by show ¬ 1000000 < u0; omega)]
    rfl
  | q :: L, q0, u0, h => by
    rw [List.foldl_cons]
    have hm : mvF fv (q :: L) = min (fv q) (mvF fv L) := rfl
    by_cases hq : fv q < u0
    · have e : vsel true (some (q0, u0)) q (fv q) = some (q, fv q) := if_pos ⟨rfl, hq⟩
      rw [e, selF_true_some fv L q (fv q) (by omega)]
      by_cases hl : mvF fv L < fv q
      · have e2 : mvF fv (q :: L) = mvF fv L := by omega
        rw [if_pos hl, e2, if_pos (by omega), fndF_cons_ne (by omega)]
      · have e2 : mvF fv (q :: L) = fv q := by omega
        rw [if_neg hl, e2, if_pos hq, fndF_cons_eq rfl]
        rfl
    · have e : vsel true (some (q0, u0)) q (fv q) = some (q0, u0) := if_neg (fun z => hq z.2)
      rw [e, selF_true_some fv L q0 u0 h]
      by_cases hl : mvF fv L < u0
      · have e2 : mvF fv (q :: L) = mvF fv L := by omega
        rw [if_pos hl, e2, if_pos hl, fndF_cons_ne (by omega)]
      · rw [if_neg hl, if_neg (by omega)]
theorem selF_true (fv : List Nat → Nat) (L : List (List Nat)) (hb : ∀ q, q ∈ L → fv q < 1000000) : L.foldl (fun o q => vsel true o q (fv q)) none = (fndF fv (mvF fv L) L).map (fun q => (q, fv q)) := by
  cases L with
  | nil => rfl
  | cons q L =>
    rw [List.foldl_cons]
    have hq := hb q List.mem_cons_self
    have e : vsel true none q (fv q) = some (q, fv q) := rfl
    rw [e, selF_true_some fv L q (fv q) hq]
    have hm : mvF fv (q :: L) = min (fv q) (mvF fv L) := rfl
    by_cases hl : mvF fv L < fv q
    · have e2 : mvF fv (q :: L) = mvF fv L := by omega
      rw [if_pos hl, e2, fndF_cons_ne (by omega)]
    · have e2 : mvF fv (q :: L) = fv q := by omega
      rw [if_neg hl, e2, fndF_cons_eq rfl]
      rfl
theorem fndF_app (fv : List Nat → Nat) (v : Nat) (A B : List (List Nat)) : fndF fv v (A ++ B) = (fndF fv v A).or (fndF fv v B) := by
  unfold fndF
  rw [List.find?_append]
theorem fndF_flw (fv : List Nat → Nat) (v : Nat) (g : Nat → List (List Nat)) : ∀ {k j w : Nat}, j ≤ w → w < j + k → (∀ u, j ≤ u → u < w → fndF fv v (g u) = none) → fndF fv v (g w) ≠ none → fndF fv v (flw g j k) = fndF fv v (g w)
  | 0, j, w, h1, h2, _, _ => by omega
  | k + 1, j, w, h1, h2, h3, h4 => by
    rw [flw, fndF_app]
    by_cases e : j = w
    · subst e
      cases hq : fndF fv v (g j) with
      | none => exact absurd hq h4
      | some q => rfl
    · rw [h3 j (Nat.le_refl _) (by omega), Option.none_or]
      exact fndF_flw fv v g (by omega) (by omega) (fun u a b => h3 u (by omega) b) h4
/-- the least is there -/
theorem mvF_mem (fv : List Nat → Nat) : ∀ L : List (List Nat), mvF fv L < 1000000 → fndF fv (mvF fv L) L ≠ none
  | [], h => absurd h (Nat.lt_irrefl _)
  | q :: L, h => by
    have hm : mvF fv (q :: L) = min (fv q) (mvF fv L) := rfl
    by_cases e : fv q = mvF fv (q :: L)
    · rw [fndF_cons_eq e]
      exact Option.some_ne_none _
    · have e2 : mvF fv (q :: L) = mvF fv L := by omega
      rw [fndF_cons_ne e, e2]
      exact mvF_mem fv L (by omega)
theorem fndF_none_lt (fv : List Nat → Nat) (v : Nat) : ∀ L : List (List Nat), v < mvF fv L → fndF fv v L = none
  | [], _ => rfl
  | q :: L, h => by
    have hm : mvF fv (q :: L) = min (fv q) (mvF fv L) := rfl
    rw [fndF_cons_ne (by omega)]
    exact fndF_none_lt fv v L (by omega)
theorem mvF_map (fv : List Nat → Nat) (w : Nat) : ∀ L : List (List Nat), mvF fv (L.map (fun q => w :: q)) = mvF (fun q => fv (w :: q)) L
  | [] => rfl
  | q :: L => by
    show min (fv (w :: q)) (mvF fv (L.map (fun q => w :: q))) = min (fv (w :: q)) (mvF (fun q => fv (w :: q)) L)
    rw [mvF_map fv w L]
theorem fndF_map (fv : List Nat → Nat) (v w : Nat) : ∀ L : List (List Nat), fndF fv v (L.map (fun q => w :: q)) = (fndF (fun q => fv (w :: q)) v L).map (fun q => w :: q)
  | [] => rfl
  | q :: L => by
    rw [List.map_cons]
    by_cases e : fv (w :: q) = v
    · rw [fndF_cons_eq e, fndF_cons_eq (fv := fun q => fv (w :: q)) e]
      rfl
    · rw [fndF_cons_ne e, fndF_cons_ne (fv := fun q => fv (w :: q)) e]
      exact fndF_map fv v w L
def ctw (ic : Nat → Nat) (my : Nat → Bool) (to : Nat) (rc : (Nat → Nat) → Nat → List (List Nat)) (m : Nat → Nat) (p w : Nat) : List (List Nat) := if m w = 0 then [] else if to < p + ic w then [[w]] else if p + ic w = to then [] else if my (p + ic w) = true then (rc (dec m w) (p + ic w)).map (fun q => w :: q) else []
def cl (W : Nat) (ic : Nat → Nat) (my : Nat → Bool) (to : Nat) : Nat → (Nat → Nat) → Nat → List (List Nat)
  | 0, _, _ => []
  | d + 1, m, p => flw (fun w => ctw ic my to (cl W ic my to d) m p w) 0 W
def cval (ic : Nat → Nat) (to p : Nat) (q : List Nat) : Nat := p + wsum ic q - to
theorem cval_cons {ic : Nat → Nat} {to p w : Nat} : (fun q => cval ic to p (w :: q)) = cval ic to (p + ic w) := by
  funext q
  show p + (ic w + wsum ic q) - to = p + ic w + wsum ic q - to
  rw [Nat.add_assoc]
section CUT
variable {W : Nat} {ic wr : Nat → Nat} {my fr : Nat → Bool} {src to : Nat}
theorem ctw_cases {rc : (Nat → Nat) → Nat → List (List Nat)} {m : Nat → Nat} {p w : Nat} {q : List Nat} (h : q ∈ ctw ic my to rc m p w) : (to < p + ic w ∧ q = [w]) ∨ (p + ic w < to ∧ ∃ q', q = w :: q' ∧ q' ∈ rc (dec m w) (p + ic w)) := by
  unfold ctw at h
  by_cases h1 : m w = 0
  · rw [if_pos h1] at h
    cases h
  · rw [if_neg h1] at h
    by_cases h2 : to < p + ic w
    · rw [if_pos h2] at h
      exact Or.inl ⟨h2, by simpa using h⟩
    · rw [if_neg h2] at h
      by_cases h3 : p + ic w = to
      · rw [if_pos h3] at h
        cases h
      · rw [if_neg h3] at h
        by_cases h4 : my (p + ic w) = true
        · rw [if_pos h4] at h
          obtain ⟨q', e1, e2⟩ := List.mem_map.mp h
          exact Or.inr ⟨by omega, q', e2.symm, e1⟩
        · rw [if_neg h4] at h
          cases h
theorem cl_fact (hic : ∀ w, w < W → 5 ≤ ic w ∧ ic w ≤ 30) : ∀ (d : Nat) (m : Nat → Nat) (p : Nat) (q : List Nat), p < to → q ∈ cl W ic my to d m p → p + 5 * (q.length - 1) < to ∧ 0 < q.length ∧ cval ic to p q ≤ 30 := by
  intro d
  induction d with
  | zero => intro m p q _ h; cases h
  | succ d ih =>
    intro m p q hp h
    rw [cl] at h
    obtain ⟨w, _, hw, h2⟩ := mem_flw h
    obtain ⟨i5, i30⟩ := hic w (by omega)
    rcases ctw_cases h2 with ⟨a1, a2⟩ | ⟨a1, q', a2, a3⟩
    · subst a2
      refine ⟨by show p + 5 * 0 < to; omega, by show 0 < 1; omega, ?_⟩
      show p + (ic w + 0) - to ≤ 30
      omega
    · subst a2
      obtain ⟨b1, b2, b3⟩ := ih _ _ _ a1 a3
      refine ⟨?_, Nat.succ_pos _, ?_⟩
      · show p + 5 * (q'.length + 1 - 1) < to
        omega
      · have := congrFun (cval_cons (ic := ic) (to := to) (p := p) (w := w)) q'
        rw [this]
        exact b3
theorem vth_cut (hic : ∀ w, w < W → 5 ≤ ic w ∧ ic w ≤ 30) (hto : to ≤ 60) (hfr : ∀ x, src < x → x < to → fr x = my x) {m : Nat → Nat} {p : Nat} (h1 : src ≤ p) (h2 : p < to) {w : Nat} (hw : w < W) {rc : (Nat → Nat) → Nat → List (List Nat)} {nx : Nat → Nat} (hnx : p + ic w < to → nx w = mvF (cval ic to (p + ic w)) (rc (dec m w) (p + ic w))) : vthM ic wr fr to 2 (fun _ => 1000000) m p nx w = mvF (cval ic to p) (ctw ic my to rc m p w) := by
  obtain ⟨i5, i30⟩ := hic w hw
  unfold vthM ctw
  by_cases q1 : m w = 0
  · rw [if_pos q1, if_pos q1]
    rfl
  · rw [if_neg q1, if_neg q1]
    by_cases q2 : to < p + ic w
    · rw [if_pos q2, if_pos q2, if_pos rfl]
      show p + ic w - to = min (p + (ic w + 0) - to) 1000000
      omega
    · rw [if_neg q2, if_neg q2]
      by_cases q3 : p + ic w = to
      · rw [if_pos q3, if_pos q3]
        rfl
      · rw [if_neg q3, if_neg q3, hfr _ (by omega) (by omega)]
        by_cases q4 : my (p + ic w) = true
        · rw [if_pos q4, if_pos q4, if_neg (by omega), Nat.add_zero, hnx (by omega), mvF_map, cval_cons]
        · rw [if_neg q4, if_neg q4]
          rfl
theorem gv_cut (hic : ∀ w, w < W → 5 ≤ ic w ∧ ic w ≤ 30) (hto : to ≤ 60) (hfr : ∀ x, src < x → x < to → fr x = my x) : ∀ (d : Nat) (m : Nat → Nat) (p : Nat), src ≤ p → p < to → to - p < d → gv W ic wr fr to 2 (fun _ => 1000000) d m p = mvF (cval ic to p) (cl W ic my to d m p) := by
  intro d
  induction d with
  | zero => intro m p _ _ h; omega
  | succ d ih =>
    intro m p h1 h2 h3
    rw [gv, cl, mvF_flw]
    refine acc_cong W (fun w hw => ?_)
    have := hic w hw
    exact vth_cut hic hto hfr h1 h2 hw (fun hlt => ih (dec m w) (p + ic w) (by omega) hlt (by omega))
theorem path_cut (hic : ∀ w, w < W → 5 ≤ ic w ∧ ic w ≤ 30) (hto : to ≤ 60) (hfr : ∀ x, src < x → x < to → fr x = my x) : ∀ (d : Nat) (m : Nat → Nat) (p : Nat), src ≤ p → p < to → to - p < d → mvF (cval ic to p) (cl W ic my to d m p) < 1000000 →
    fndF (cval ic to p) (mvF (cval ic to p) (cl W ic my to d m p)) (cl W ic my to d m p) = some (fpath W ic wr fr to 2 (fun _ => 1000000) d m p) := by
  intro d
  induction d with
  | zero => intro m p _ _ h; omega
  | succ d ih =>
    intro m p h1 h2 h3 hlt
    have hg := gv_cut (W := W) (ic := ic) (wr := wr) hic hto hfr (d + 1) m p h1 h2 h3
    have hvt : ∀ w, w < W → vthM ic wr fr to 2 (fun _ => 1000000) m p (fun w => gv W ic wr fr to 2 (fun _ => 1000000) d (dec m w) (p + ic w)) w = mvF (cval ic to p) (ctw ic my to (cl W ic my to d) m p w) := fun w hw => by
      have := hic w hw
      exact vth_cut hic hto hfr h1 h2 hw (fun hl => gv_cut (wr := wr) hic hto hfr d (dec m w) (p + ic w) (by omega) hl (by omega))
    have hgl : live 2 (gv W ic wr fr to 2 (fun _ => 1000000) (d + 1) m p) := by
      unfold live
      rw [if_neg (by omega), hg]
      exact hlt
    have hge : gv W ic wr fr to 2 (fun _ => 1000000) (d + 1) m p = acc 2 (vthM ic wr fr to 2 (fun _ => 1000000) m p (fun w => gv W ic wr fr to 2 (fun _ => 1000000) d (dec m w) (p + ic w))) W := by rw [gv]
    rw [hge] at hgl
    obtain ⟨w0, g1, g2⟩ := acc_sel (aim := 2) W hgl
    rw [← hge] at g2
    have hge2 : ∀ w, w < W → mvF (cval ic to p) (cl W ic my to (d + 1) m p) ≤ mvF (cval ic to p) (ctw ic my to (cl W ic my to d) m p w) := by
      intro w hw
      rw [cl, mvF_flw]
      have hacc : ∀ (f : Nat → Nat) (j : Nat), w < j → acc 2 f j ≤ f w := by
        intro f j
        induction j with
        | zero => intro z; omega
        | succ j ihj =>
          intro z
          show min (acc 2 f j) (f j) ≤ f w
          by_cases e : w = j
          · subst e
            exact Nat.min_le_right _ _
          · exact Nat.le_trans (Nat.min_le_left _ _) (ihj (by omega))
      exact hacc (fun w => mvF (cval ic to p) (ctw ic my to (cl W ic my to d) m p w)) W hw
    rw [fpath]
    cases hq : fw (fun w => selc 2 (vthM ic wr fr to 2 (fun _ => 1000000) m p (fun w => gv W ic wr fr to 2 (fun _ => 1000000) d (dec m w) (p + ic w)) w) (gv W ic wr fr to 2 (fun _ => 1000000) (d + 1) m p)) 0 W with
    | none =>
      exfalso
      have := fw_none hq w0 (Nat.zero_le _) (by omega)
      try dsimp only at this
      rw [this] at g2
      cases g2
    | some w =>
      obtain ⟨_, k2, k3, k4⟩ := fw_some hq
      have hwW : w < W := by omega
      obtain ⟨i5, i30⟩ := hic w hwW
      have hsel : ∀ u, u < W → ((selc 2 (vthM ic wr fr to 2 (fun _ => 1000000) m p (fun w => gv W ic wr fr to 2 (fun _ => 1000000) d (dec m w) (p + ic w)) u) (gv W ic wr fr to 2 (fun _ => 1000000) (d + 1) m p) = true) ↔ (mvF (cval ic to p) (ctw ic my to (cl W ic my to d) m p u) = mvF (cval ic to p) (cl W ic my to (d + 1) m p))) := by
        intro u hu
        unfold selc
        rw [if_neg (by omega), hg, hvt u hu, Bool.and_eq_true_iff, decide_eq_true_eq, decide_eq_true_eq]
        omega
      have k3 := (hsel w hwW).mp k3
      have hfl : cl W ic my to (d + 1) m p = flw (fun w => ctw ic my to (cl W ic my to d) m p w) 0 W := by rw [cl]
      have hf1 : fndF (cval ic to p) (mvF (cval ic to p) (cl W ic my to (d + 1) m p)) (cl W ic my to (d + 1) m p) = fndF (cval ic to p) (mvF (cval ic to p) (cl W ic my to (d + 1) m p)) (ctw ic my to (cl W ic my to d) m p w) := by
        conv => lhs; arg 3; rw [hfl]
        refine fndF_flw (cval ic to p) _ (fun w => ctw ic my to (cl W ic my to d) m p w) (Nat.zero_le w) (by omega) (fun u _ hu => ?_) ?_
        · refine fndF_none_lt (cval ic to p) _ _ ?_
          have z1 := hge2 u (by omega)
          have z2 : ¬ mvF (cval ic to p) (ctw ic my to (cl W ic my to d) m p u) = mvF (cval ic to p) (cl W ic my to (d + 1) m p) := fun z => by
            have y1 := (hsel u (by omega)).mpr z
            have y2 := k4 u (Nat.zero_le _) hu
            try dsimp only at y2
            rw [y1] at y2
            cases y2
          try dsimp only
          omega
        · try dsimp only
          rw [← k3]
          exact mvF_mem (cval ic to p) _ (by omega)
      rw [hf1]
      dsimp only
      rw [← k3] at hlt ⊢
      unfold ctw at hlt ⊢
      by_cases q1 : m w = 0
      · rw [if_pos q1] at hlt
        exact absurd hlt (Nat.lt_irrefl _)
      · rw [if_neg q1] at hlt ⊢
        by_cases q2 : to < p + ic w
        · rw [if_pos q2] at hlt ⊢
          rw [if_pos (show to ≤ p + ic w by omega)]
          refine fndF_cons_eq ?_
          show cval ic to p [w] = min (cval ic to p [w]) 1000000
          have : cval ic to p [w] = p + (ic w + 0) - to := rfl
          omega
        · rw [if_neg q2] at hlt ⊢
          by_cases q3 : p + ic w = to
          · rw [if_pos q3] at hlt
            exact absurd hlt (Nat.lt_irrefl _)
          · rw [if_neg q3] at hlt ⊢
            by_cases q4 : my (p + ic w) = true
            · rw [if_pos q4] at hlt ⊢
              rw [mvF_map, cval_cons] at hlt ⊢
              rw [if_neg (show ¬ to ≤ p + ic w by omega), fndF_map, cval_cons, ih (dec m w) (p + ic w) (by omega) (by omega) (by omega) hlt]
              rfl
            · rw [if_neg q4] at hlt
              exact absurd hlt (Nat.lt_irrefl _)
theorem cl_fuel (hic : ∀ w, w < W → 5 ≤ ic w) : ∀ (d e : Nat) (m : Nat → Nat) (p : Nat), p < to → (to - p) / 5 < d → (to - p) / 5 < e → cl W ic my to d m p = cl W ic my to e m p := by
  intro d
  induction d with
  | zero => intro e m p h1 h2; omega
  | succ d ih =>
    intro e m p h1 h2 h3
    obtain ⟨e, rfl⟩ : ∃ g, e = g + 1 := ⟨e - 1, by omega⟩
    rw [cl, cl]
    refine flw_cong (fun w _ hw => ?_)
    have h5 := hic w (by omega)
    unfold ctw
    by_cases q1 : m w = 0
    · rw [if_pos q1, if_pos q1]
    · rw [if_neg q1, if_neg q1]
      by_cases q2 : to < p + ic w
      · rw [if_pos q2, if_pos q2]
      · rw [if_neg q2, if_neg q2]
        by_cases q3 : p + ic w = to
        · rw [if_pos q3, if_pos q3]
        · rw [if_neg q3, if_neg q3, ih e (dec m w) (p + ic w) (by omega) (by omega) (by omega)]
end CUT
