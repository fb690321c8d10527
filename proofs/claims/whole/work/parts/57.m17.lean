/-! ===== values and lists of fills ===== -/
def cnt (eb : Option Nat) : List (List Nat) → Nat
  | [] => 0
  | q :: L => (if eb = none ∨ q.getLast? = eb then 1 else 0) + cnt eb L
def mw (wr : Nat → Nat) : List (List Nat) → Nat
  | [] => 1000000
  | q :: L => min (wsum wr q) (mw wr L)
theorem cnt_app (eb : Option Nat) : ∀ A B, cnt eb (A ++ B) = cnt eb A + cnt eb B
  | [], B => (Nat.zero_add _).symm
  | q :: A, B => by
    show _ + cnt eb (A ++ B) = _ + cnt eb A + cnt eb B
    rw [cnt_app eb A B, Nat.add_assoc]
theorem mw_le (wr : Nat → Nat) : ∀ A, mw wr A ≤ 1000000
  | [] => Nat.le_refl _
  | q :: A => Nat.le_trans (Nat.min_le_right _ _) (mw_le wr A)
theorem mw_app (wr : Nat → Nat) : ∀ A B, mw wr (A ++ B) = min (mw wr A) (mw wr B)
  | [], B => by
    have := mw_le wr B
    show mw wr B = min 1000000 (mw wr B)
    omega
  | q :: A, B => by
    show min (wsum wr q) (mw wr (A ++ B)) = min (min (wsum wr q) (mw wr A)) (mw wr B)
    rw [mw_app wr A B, Nat.min_assoc]
theorem flw_snoc (g : Nat → List (List Nat)) : ∀ k j, flw g j (k + 1) = flw g j k ++ g (j + k)
  | 0, j => by simp [flw]
  | k + 1, j => by
    rw [flw, flw_snoc g k (j + 1), flw, List.append_assoc, show j + 1 + k = j + (k + 1) by omega]
theorem cnt_flw (eb : Option Nat) (g : Nat → List (List Nat)) : ∀ k, cnt eb (flw g 0 k) = acc 0 (fun w => cnt eb (g w)) k
  | 0 => rfl
  | k + 1 => by
    rw [flw_snoc, cnt_app, cnt_flw eb g k, Nat.zero_add]
    rfl
theorem mw_flw (wr : Nat → Nat) (g : Nat → List (List Nat)) : ∀ k, mw wr (flw g 0 k) = acc 1 (fun w => mw wr (g w)) k
  | 0 => rfl
  | k + 1 => by
    rw [flw_snoc, mw_app, mw_flw wr g k, Nat.zero_add]
    rfl
theorem mw_map (wr : Nat → Nat) (w : Nat) : ∀ L : List (List Nat), (∀ q, q ∈ L → wr w + wsum wr q ≤ 1000000) → mw wr (L.map (fun q => w :: q)) = min 1000000 (wr w + mw wr L)
  | [], _ => by
    show 1000000 = min 1000000 (wr w + 1000000)
    omega
  | q :: L, h => by
    have h1 := h q List.mem_cons_self
    have h2 := mw_map wr w L (fun q hq => h q (List.mem_cons_of_mem _ hq))
    show min (wr w + wsum wr q) (mw wr (L.map (fun q => w :: q))) = min 1000000 (wr w + min (wsum wr q) (mw wr L))
    omega
theorem cnt_map (eb : Option Nat) (w : Nat) : ∀ L : List (List Nat), (∀ q, q ∈ L → q ≠ []) → cnt eb (L.map (fun q => w :: q)) = cnt eb L
  | [], _ => rfl
  | q :: L, h => by
    have h1 := h q List.mem_cons_self
    have h2 := cnt_map eb w L (fun q hq => h q (List.mem_cons_of_mem _ hq))
    show (if eb = none ∨ (w :: q).getLast? = eb then 1 else 0) + cnt eb (L.map (fun q => w :: q)) = (if eb = none ∨ q.getLast? = eb then 1 else 0) + cnt eb L
    have e : (w :: q).getLast? = q.getLast? := by
      cases q with
      | nil => exact absurd rfl h1
      | cons a q => exact List.getLast?_cons_cons
    rw [h2, e]
theorem mem_flw {g : Nat → List (List Nat)} {q : List Nat} : ∀ {k j : Nat}, q ∈ flw g j k → ∃ w, j ≤ w ∧ w < j + k ∧ q ∈ g w
  | 0, j, h => by cases h
  | k + 1, j, h => by
    rcases List.mem_append.mp h with h | h
    · exact ⟨j, Nat.le_refl _, by omega, h⟩
    · obtain ⟨w, h1, h2, h3⟩ := mem_flw h
      exact ⟨w, by omega, by omega, h3⟩
section LST
variable {W : Nat} {ic wr : Nat → Nat} {my fr : Nat → Bool} {src to : Nat}
theorem fl_ne {d : Nat} {m : Nat → Nat} {p : Nat} (hp : p ≠ to) : ∀ q, q ∈ fl W ic my to d m p → q ≠ [] := by
  cases d with
  | zero => intro q h; cases h
  | succ d =>
    intro q h
    rw [fl, if_neg hp] at h
    obtain ⟨w, _, _, h3⟩ := mem_flw h
    by_cases hs : stp ic my to m p w = true
    · rw [if_pos hs] at h3
      obtain ⟨q', _, rfl⟩ := List.mem_map.mp h3
      exact List.cons_ne_nil _ _
    · rw [if_neg hs] at h3
      cases h3
theorem fl_ws (hwr : ∀ w, w < W → wr w ≤ 99) : ∀ (d : Nat) (m : Nat → Nat) (p : Nat) (q : List Nat), q ∈ fl W ic my to d m p → wsum wr q ≤ 99 * d ∧ ∀ w, w ∈ q → w < W := by
  intro d
  induction d with
  | zero => intro m p q h; cases h
  | succ d ih =>
    intro m p q h
    rw [fl] at h
    by_cases hp : p = to
    · rw [if_pos hp] at h
      have : q = [] := by simpa using h
      subst this
      exact ⟨Nat.zero_le _, fun w hw => by cases hw⟩
    · rw [if_neg hp] at h
      obtain ⟨w, _, hw, h3⟩ := mem_flw h
      by_cases hs : stp ic my to m p w = true
      · rw [if_pos hs] at h3
        obtain ⟨q', hq', rfl⟩ := List.mem_map.mp h3
        obtain ⟨e1, e2⟩ := ih _ _ q' hq'
        have e3 := hwr w (by omega)
        refine ⟨?_, fun v hv => ?_⟩
        · show wr w + wsum wr q' ≤ _
          omega
        · rcases List.mem_cons.mp hv with g | g
          · omega
          · exact e2 v g
      · rw [if_neg hs] at h3
        cases h3
theorem fl_end {d : Nat} {m : Nat → Nat} (hd : 0 < d) : fl W ic my to d m to = [[]] := by
  obtain ⟨d, rfl⟩ : ∃ e, d = e + 1 := ⟨d - 1, by omega⟩
  rw [fl, if_pos rfl]
theorem gv_cnt (hic : ∀ w, w < W → 1 ≤ ic w) (hfr : ∀ x, src < x → x < to → fr x = my x) (eb : Option Nat) : ∀ (d : Nat) (m : Nat → Nat) (p : Nat), src ≤ p → p < to → to - p < d →
    gv W ic wr fr to 0 (fun w => if eb = none ∨ some w = eb then 1 else 0) d m p = cnt eb (fl W ic my to d m p) := by
  intro d
  induction d with
  | zero => intro m p _ _ h; omega
  | succ d ih =>
    intro m p h1 h2 h3
    rw [gv, fl, if_neg (by omega), cnt_flw]
    refine acc_cong W (fun w hw => ?_)
    have h1w := hic w hw
    unfold vthM stp
    by_cases q1 : m w = 0
    · rw [if_pos q1, if_neg (by simp [q1])]
      rfl
    · rw [if_neg q1]
      by_cases q2 : to < p + ic w
      · rw [if_pos q2, if_neg (show ¬ (0 : Nat) = 2 by omega), if_neg (by simp; omega)]
        rfl
      · rw [if_neg q2]
        by_cases q3 : p + ic w = to
        · rw [if_pos q3, if_pos (by simp [q1, q3]), q3, fl_end (by omega)]
          rfl
        · rw [if_neg q3, hfr (p + ic w) (by omega) (by omega), if_neg (show ¬ (0 : Nat) = 1 by omega)]
          by_cases q4 : my (p + ic w) = true
          · rw [if_pos q4, if_pos (by simp [q1, q4]; omega), cnt_map eb w _ (fl_ne (by omega)), Nat.add_zero]
            exact ih (dec m w) (p + ic w) (by omega) (by omega) (by omega)
          · rw [if_neg q4, if_neg (by simp [q4]; omega)]
            rfl
theorem gv_mw (hic : ∀ w, w < W → 1 ≤ ic w) (hwr : ∀ w, w < W → wr w ≤ 99) (hfr : ∀ x, src < x → x < to → fr x = my x) : ∀ (d : Nat) (m : Nat → Nat) (p : Nat), src ≤ p → p < to → to - p < d → d ≤ 100 →
    gv W ic wr fr to 1 wr d m p = mw wr (fl W ic my to d m p) := by
  intro d
  induction d with
  | zero => intro m p _ _ h; omega
  | succ d ih =>
    intro m p h1 h2 h3 h4
    rw [gv, fl, if_neg (by omega), mw_flw]
    -- through a width the cap of a million doesn't matter
    have hone : ∀ w, w < W → min 1000000 (vthM ic wr fr to 1 wr m p (fun w => gv W ic wr fr to 1 wr d (dec m w) (p + ic w)) w) = mw wr (if stp ic my to m p w = true then (fl W ic my to d (dec m w) (p + ic w)).map (fun q => w :: q) else []) := by
      intro w hw
      have h1w := hic w hw
      have hwr9 := hwr w hw
      unfold vthM stp
      by_cases q1 : m w = 0
      · rw [if_pos q1, if_neg (by simp [q1])]
        rfl
      · rw [if_neg q1]
        by_cases q2 : to < p + ic w
        · rw [if_pos q2, if_neg (show ¬ (1 : Nat) = 2 by omega), if_neg (by simp; omega)]
          rfl
        · rw [if_neg q2]
          by_cases q3 : p + ic w = to
          · rw [if_pos q3, if_pos (by simp [q1, q3]), q3, fl_end (by omega)]
            show min 1000000 (wr w) = min (wr w + 0) 1000000
            omega
          · rw [if_neg q3, hfr (p + ic w) (by omega) (by omega), if_pos (show (1 : Nat) = 1 from rfl)]
            by_cases q4 : my (p + ic w) = true
            · rw [if_pos q4, if_pos (by simp [q1, q4]; omega), mw_map wr w _ (fun q hq => by
                have := (fl_ws (wr := wr) hwr d _ _ q hq).1
                omega)]
              dsimp only
              rw [ih (dec m w) (p + ic w) (by omega) (by omega) (by omega) (by omega), Nat.add_comm]
            · rw [if_neg q4, if_neg (by simp [q4]; omega)]
              rfl
    have hacc : ∀ j, j ≤ W → acc 1 (vthM ic wr fr to 1 wr m p (fun w => gv W ic wr fr to 1 wr d (dec m w) (p + ic w))) j = acc 1 (fun w => mw wr (if stp ic my to m p w = true then (fl W ic my to d (dec m w) (p + ic w)).map (fun q => w :: q) else [])) j ∧ acc 1 (vthM ic wr fr to 1 wr m p (fun w => gv W ic wr fr to 1 wr d (dec m w) (p + ic w))) j ≤ 1000000 := by
      intro j
      induction j with
      | zero => intro _; exact ⟨rfl, Nat.le_refl _⟩
      | succ j ihj =>
        intro hj
        obtain ⟨g1, g2⟩ := ihj (by omega)
        have g3 := hone j (by omega)
        show min _ _ = min _ _ ∧ min _ _ ≤ _
        rw [← g1]
        dsimp only
        rw [← g3]
        omega
    exact (hacc W (Nat.le_refl _)).1
end LST
