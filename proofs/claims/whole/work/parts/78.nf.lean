/-! ===== the heap with more in it; a broken slate ===== -/
def hM (s : Nat → Int32) (g : Nat → Nat) : Nat → Int32 := fun k => if k = 4 then nI (mny s 0 + g 0) else if k = 7 then nI (mny s 1 + g 1) else if k = 10 then nI (mny s 2 + g 2) else if k = 13 then nI (mny s 3 + g 3) else s k
section HM
variable {s : Nat → Int32} {g g' : Nat → Nat}
theorem v4 {v : Nat} (h : v < 4) : v = 0 ∨ v = 1 ∨ v = 2 ∨ v = 3 := by omega
theorem hM_at {v : Nat} (hv : v < 4) : hM s g (3 + 3 * v + 1) = nI (mny s v + g v) := by
  rcases v4 hv with e | e | e | e <;> subst e <;> rfl
theorem hM_ne {k : Nat} (h1 : k ≠ 4) (h2 : k ≠ 7) (h3 : k ≠ 10) (h4 : k ≠ 13) : hM s g k = s k := by
  unfold hM
  rw [if_neg h1, if_neg h2, if_neg h3, if_neg h4]
theorem hM_heap (k : Nat) : (∃ v, v < 4 ∧ k = 3 + 3 * v + 1) ∨ (k ≠ 4 ∧ k ≠ 7 ∧ k ≠ 10 ∧ k ≠ 13) := by
  by_cases e0 : k = 4
  · exact Or.inl ⟨0, by omega, by omega⟩
  by_cases e1 : k = 7
  · exact Or.inl ⟨1, by omega, by omega⟩
  by_cases e2 : k = 10
  · exact Or.inl ⟨2, by omega, by omega⟩
  by_cases e3 : k = 13
  · exact Or.inl ⟨3, by omega, by omega⟩
  exact Or.inr ⟨e0, e1, e2, e3⟩
theorem rN_hM {k : Nat} (h1 : k ≠ 4) (h2 : k ≠ 7) (h3 : k ≠ 10) (h4 : k ≠ 13) : rN (hM s g) k = rN s k := by
  unfold rN
  rw [hM_ne h1 h2 h3 h4]
theorem hM_inch : inch (hM s g) = inch s := funext fun v => rN_hM (by omega) (by omega) (by omega) (by omega)
theorem hM_wor : wor (hM s g) = wor s := funext fun v => rN_hM (by omega) (by omega) (by omega) (by omega)
theorem hM_wide : wide (hM s g) = wide s := rN_hM (by omega) (by omega) (by omega) (by omega)
theorem hM_lapn : lapn (hM s g) = lapn s := rN_hM (by omega) (by omega) (by omega) (by omega)
theorem hM_len {r : Nat} : len (hM s g) r = len s r := rN_hM (by omega) (by omega) (by omega) (by omega)
theorem hM_ld {r : Nat} : ld (hM s g) r = ld s r := rN_hM (by omega) (by omega) (by omega) (by omega)
theorem hM_sl {r i : Nat} : sl (hM s g) r i = sl s r i := rN_hM (by omega) (by omega) (by omega) (by omega)
theorem hM_mny {v : Nat} (hv : v < 4) (hb : mny s v + g v < 2 ^ 31) : mny (hM s g) v = mny s v + g v := by
  show (hM s g (3 + 3 * v + 1)).toNatClampNeg = _
  rw [hM_at hv, nI_clamp hb]
theorem hM_sumIn {r : Nat} : ∀ j, sumIn (hM s g) r j = sumIn s r j
  | 0 => rfl
  | j + 1 => by
    show sumIn (hM s g) r j + inch (hM s g) (sl (hM s g) r j) = sumIn s r j + inch s (sl s r j)
    rw [hM_sumIn j, hM_inch, hM_sl]
theorem hM_cutI {r : Nat} : cutI (hM s g) r = cutI s r := by
  unfold cutI
  rw [hM_ld, hM_sumIn, hM_len]
theorem hM_Sm (h : Sm s) (hb : ∀ v, v < 4 → mny s v + g v ≤ 99) : Sm (hM s g) := by
  intro k hk
  rcases hM_heap k with ⟨v, hv, rfl⟩ | ⟨h1, h2, h3, h4⟩
  · have := hb v hv
    rw [show rN (hM s g) (3 + 3 * v + 1) = mny s v + g v from hM_mny hv (by omega), hM_at hv]
    exact ⟨rfl, this⟩
  · rw [rN_hM h1 h2 h3 h4, hM_ne h1 h2 h3 h4]
    exact h k hk
theorem hM_Wd (h : Wd s) (hb : ∀ v, v < 4 → mny s v + g v ≤ 99) : Wd (hM s g) := by
  obtain ⟨⟨h1, h2, h3, h4, h5⟩, h6, h7⟩ := h
  refine ⟨⟨hM_Sm h1 hb, by rw [hM_wide]; exact h2, fun v hv => ?_, fun q hq => ?_, fun q k hq hk => ?_⟩, fun v hv => ?_, fun v u hv hu he => ?_⟩
  · rw [hM_wide] at hv
    rw [hM_inch]
    exact h3 v hv
  · rw [hM_ld]
    exact h4 q hq
  · rw [hM_ld] at hk
    rw [hM_sl]
    exact h5 q k hq hk
  · rw [hM_wide] at hv
    rw [hM_inch]
    exact h6 v hv
  · rw [hM_wide] at hv hu
    rw [hM_inch] at he
    exact h7 v u hv hu he
theorem hM_cong {k : Nat} (h : ∀ v, v < 4 → k = 3 + 3 * v + 1 → g v = g' v) : hM s g k = hM s g' k := by
  rcases hM_heap k with ⟨v, hv, rfl⟩ | ⟨h1, h2, h3, h4⟩
  · rw [hM_at hv, hM_at hv, h v hv rfl]
  · rw [hM_ne h1 h2 h3 h4, hM_ne h1 h2 h3 h4]
theorem hM_more {N v : Nat} (h : Sm s) (hb : ∀ v, v < 4 → mny s v + g v ≤ 99) (hv : v < 4) : f_X8_leaves N (hM s g) (nI v) (-1) = some (hM s (inc g v)) := by
  have := hb v hv
  rw [setM_inc (hM_Sm h hb) (by omega), hM_mny hv (by omega)]
  congr 1
  funext k
  unfold setM
  by_cases e : k = 3 + 3 * v + 1
  · subst e
    rw [pk_us, hM_at hv]
    unfold inc
    rw [if_pos rfl, Nat.add_assoc]
  · rw [pk_un e]
    refine hM_cong (fun u hu he => ?_)
    unfold inc
    rw [if_neg (fun z => e (by rw [he, z]))]
theorem hM_less {N v : Nat} (h : Sm s) (hb : ∀ v, v < 4 → mny s v + g v ≤ 99) (hv : v < 4) (hg : g v ≠ 0) : f_X8_leaves N (hM s g) (nI v) 1 = some (hM s (dec g v)) := by
  have := hb v hv
  rw [e_leaves1 (hM_Sm h hb) (by omega) (by rw [hM_mny hv (by omega)]; omega)]
  congr 1
  funext k
  unfold decS
  rw [hM_mny hv (by omega)]
  by_cases e : k = 3 + 3 * v + 1
  · subst e
    rw [pk_us, hM_at hv]
    unfold dec
    rw [if_pos rfl, show mny s v + g v - 1 = mny s v + (g v - 1) by omega]
  · rw [pk_un e]
    refine hM_cong (fun u hu he => ?_)
    unfold dec
    rw [if_neg (fun z => e (by rw [he, z]))]
theorem hM_zero (h : Sm s) : hM s (fun _ => 0) = s := by
  funext k
  rcases hM_heap k with ⟨v, hv, rfl⟩ | ⟨h1, h2, h3, h4⟩
  · rw [hM_at hv, Nat.add_zero]
    exact (h.at (by omega)).symm
  · rw [hM_ne h1 h2 h3 h4]
theorem enc_hM {i m w l d t mj : Nat → Int32} {x y z : Int32} (E : Enc i m w l d t x y z s) (hm : ∀ v, v < 4 → mj v = nI (mny s v + g v)) : Enc i mj w l d t x y z (hM s g) := by
  obtain ⟨e1, e2, e3, e4, e5⟩ := E
  refine ⟨by rw [hM_ne (by omega) (by omega) (by omega) (by omega)]; exact e1, by rw [hM_ne (by omega) (by omega) (by omega) (by omega)]; exact e2, by rw [hM_ne (by omega) (by omega) (by omega) (by omega)]; exact e3, fun k hk => ?_, fun r hr => ?_⟩
  · rw [hM_ne (k := 3 + 3 * k) (by omega) (by omega) (by omega) (by omega), hM_ne (k := 3 + 3 * k + 2) (by omega) (by omega) (by omega) (by omega), hM_at hk]
    exact ⟨(e4 k hk).1, hm k hk, (e4 k hk).2.2⟩
  · rw [hM_ne (by omega) (by omega) (by omega) (by omega), hM_ne (by omega) (by omega) (by omega) (by omega)]
    refine ⟨(e5 r hr).1, (e5 r hr).2.1, fun j hj => ?_⟩
    rw [hM_ne (by omega) (by omega) (by omega) (by omega)]
    exact (e5 r hr).2.2 j hj
end HM
/-- a slate that comes back: not the broken one, not one that is cut -/
def cntd (s : Nat → Int32) (r i k : Nat) : Bool := decide (k ≠ i) && decide (k < wholeN s r)
def gc (s : Nat → Int32) (r i a : Nat) : Nat → Nat → Nat
  | 0 => fun _ => 0
  | j + 1 => if cntd s r i (a + j) = true then inc (gc s r i a j) (sl s r (a + j)) else gc s r i a j
theorem gc_t {s : Nat → Int32} {r i a j : Nat} (h : cntd s r i (a + j) = true) : gc s r i a (j + 1) = inc (gc s r i a j) (sl s r (a + j)) := if_pos h
theorem gc_f {s : Nat → Int32} {r i a j : Nat} (h : cntd s r i (a + j) = false) : gc s r i a (j + 1) = gc s r i a j := if_neg (by rw [h]; exact Bool.false_ne_true)
theorem gc_le {s : Nat → Int32} {r i a v : Nat} : ∀ j, gc s r i a j v ≤ j
  | 0 => Nat.le_refl _
  | j + 1 => by
    have := gc_le (s := s) (r := r) (i := i) (a := a) (v := v) j
    cases h : cntd s r i (a + j) with
    | false => rw [gc_f h]; omega
    | true =>
      rw [gc_t h]
      unfold inc
      split <;> omega
theorem gc_mono {s : Nat → Int32} {r i a v : Nat} : ∀ {n j : Nat}, j ≤ n → gc s r i a j v ≤ gc s r i a n v
  | 0, j, h => by rw [show j = 0 by omega]; exact Nat.le_refl _
  | n + 1, j, h => by
    by_cases e : j = n + 1
    · rw [e]; exact Nat.le_refl _
    · have := gc_mono (s := s) (r := r) (i := i) (a := a) (v := v) (n := n) (j := j) (by omega)
      cases h : cntd s r i (a + n) with
      | false => rw [gc_f h]; exact this
      | true =>
        rw [gc_t h]
        unfold inc
        split <;> omega
theorem sumIn_mono {s : Nat → Int32} {r : Nat} : ∀ {n j : Nat}, j ≤ n → sumIn s r j ≤ sumIn s r n
  | 0, j, h => by rw [show j = 0 by omega]; exact Nat.le_refl _
  | n + 1, j, h => by
    by_cases e : j = n + 1
    · rw [e]; exact Nat.le_refl _
    · have := sumIn_mono (s := s) (r := r) (n := n) (j := j) (by omega)
      show _ ≤ sumIn s r n + inch s (sl s r n)
      omega
theorem cntd_f {s : Nat → Int32} {r i k : Nat} (h : k = i ∨ wholeN s r ≤ k) : cntd s r i k = false := by
  unfold cntd
  rcases h with h | h
  · rw [decide_eq_false (fun z => z h)]
    rfl
  · rw [decide_eq_false (p := k < wholeN s r) (by omega)]
    exact Bool.and_false _
theorem cntd_t {s : Nat → Int32} {r i k : Nat} (h1 : k ≠ i) (h2 : k < wholeN s r) : cntd s r i k = true := by
  unfold cntd
  rw [decide_eq_true h1, decide_eq_true h2]
  rfl
theorem gc_stop {s : Nat → Int32} {r i a j : Nat} (h : wholeN s r ≤ a + j) : ∀ e, gc s r i a (j + e) = gc s r i a j
  | 0 => rfl
  | e + 1 => by
    rw [← Nat.add_assoc, gc_f (cntd_f (Or.inr (by omega))), gc_stop h e]
section BRK
variable {N : Nat} {i m w l d t : Nat → Int32} {x y z : Int32} {s : Nat → Int32}
theorem whole_cut (O : Ok s) {r : Nat} (hr : r < high s) (hl : ld s r ≠ 0) : (0 < cutI s r → wholeN s r = ld s r - 1) ∧ (¬ 0 < cutI s r → wholeN s r = ld s r) := by
  have h6 := O.h6
  have hlen := O.ln r hr
  have hl12 := O.l12 r (by omega)
  have hsb := sumIn_b O.S (r := r) (k := ld s r) (fun j hj => O.sl32 r j (by omega) hj) (ld s r) (Nat.le_refl _)
  have hcl := cutI_le (s := s) (r := r) (by omega) (by omega)
  have h0 : (0 < cutI s r) ↔ ¬ cutI s r ≤ 0 := by rw [fa_lt, fa_le]; omega
  unfold wholeN
  refine ⟨fun h => ?_, fun h => ?_⟩
  · have := h0.mp h
    rw [if_pos (Nat.lt_of_not_le fun q => this (hcl.mpr (Or.inr q)))]
  · have : cutI s r ≤ 0 := Classical.byContradiction fun q => h (h0.mpr q)
    rcases hcl.mp this with q | q
    · exact absurd q hl
    · rw [if_neg (by omega)]
variable {way found : Nat → Int32} {wrw wt ws eb fs fw : Int32}
theorem e_mend26 (hN : 5000 < N) (O : Ok s) {r b a size : Nat} (hr : r < high s) (hs : a + size ≤ ld s r) (hb : b < 2 ^ 20) {x6 : Int32} : ∀ (f j : Nat), j ≤ size → size < j + f → f_X8_isMended_L26 N way found wrw wt ws eb fs fw (nI r) (nI b) (nI a) (nI size) (nI (ld s r)) x6 f (nI (a + j)) (hM s (gc s r b a j)) = f_X8_isMended_L26 N way found wrw wt ws eb fs fw (nI r) (nI b) (nI a) (nI size) (nI (ld s r)) x6 1 (nI (a + size)) (hM s (gc s r b a size)) := by
  have h6 := O.h6
  have hl12 := O.l12 r (by omega)
  intro f
  induction f with
  | zero => intro j h1 h2; omega
  | succ f ih =>
    intro j h1 h2
    by_cases hj : j = size
    · subst hj
      rw [f_X8_isMended_L26, f_X8_isMended_L26, nI_add, if_pos (nI_le (Nat.le_refl _) (by omega)), if_pos (nI_le (Nat.le_refl _) (by omega))]
    · have hbd : ∀ v, v < 4 → mny s v + gc s r b a j v ≤ 99 := fun v hv => by
        have := O.m12 v hv
        have := gc_le (s := s) (r := r) (i := b) (a := a) (v := v) j
        omega
      have hS := hM_Sm O.S hbd
      have hs4 := O.sl4 r (a + j) (by omega) (by omega)
      have ihj := ih (j + 1) (by omega) (by omega)
      obtain ⟨wc1, wc2⟩ := whole_cut O hr (by omega)
      rw [f_X8_isMended_L26, nI_add, if_neg (nI_ge (by omega) (by omega)), nI_1]
      by_cases hi : a + j = b
      · rw [if_pos (by rw [hi])]
        rw [gc_f (cntd_f (Or.inl hi))] at ihj
        exact ihj
      · rw [if_neg (fun q => hi ((nI_eq (by omega) (by omega)).mp q)), l1, pk_sub (by omega)]
        have hadd : cntd s r b (a + j) = true → (f_X8_slateOf N (hM s (gc s r b a j)) (nI r) (nI (a + j))).bind (fun r_84 => (f_X8_leaves N (hM s (gc s r b a j)) r_84 (-nI 1)).bind fun r_85 => f_X8_isMended_L26 N way found wrw wt ws eb fs fw (nI r) (nI b) (nI a) (nI size) (nI (ld s r)) x6 f (nI (a + j + 1)) r_85) = f_X8_isMended_L26 N way found wrw wt ws eb fs fw (nI r) (nI b) (nI a) (nI size) (nI (ld s r)) x6 1 (nI (a + size)) (hM s (gc s r b a size)) := fun hc => by
          rw [e_slateOf hS (by omega) (by omega), bs, hM_sl, show (-nI 1 : Int32) = -1 from rfl, hM_more O.S hbd hs4, bs, ← gc_t hc]
          exact ihj
        by_cases hn : a + j = ld s r - 1
        · rw [if_pos (by rw [hn]), e_cutOf hS (by omega) (by rw [hM_ld]; exact hl12) (fun k hk => by rw [hM_ld] at hk; rw [hM_sl]; exact O.sl32 r k (by omega) hk) (by omega), bs, hM_cutI]
          by_cases hc : 0 < cutI s r
          · rw [if_pos hc]
            rw [gc_f (cntd_f (Or.inr (by rw [wc1 hc]; omega)))] at ihj
            exact ihj
          · rw [if_neg hc]
            exact hadd (cntd_t hi (by rw [wc2 hc]; omega))
        · rw [if_neg (fun q => hn ((nI_eq (by omega) (by omega)).mp q))]
          refine hadd (cntd_t hi ?_)
          by_cases hc : 0 < cutI s r
          · rw [wc1 hc]; omega
          · rw [wc2 hc]; omega
theorem e_mend131 (hN : 5000 < N) (O : Ok s) {r b a size : Nat} (hr : r < high s) (hs : a + size ≤ ld s r) (hb : b < 2 ^ 20) {x8 : Int32} : ∀ (f j : Nat), j ≤ size → size < j + f → f_X8_isMended_L131 N way found wrw wt ws eb fs fw (nI r) (nI b) (nI a) (nI size) (nI (ld s r)) x8 f (nI (a + j)) (hM s (fun v => gc s r b a size v - gc s r b a j v)) = if x8 ≤ 0 then some (false, s, way, found, wrw, wt, ws, fs, fw) else some (true, s, way, found, wrw, wt, ws, fs, fw) := by
  have h6 := O.h6
  have hl12 := O.l12 r (by omega)
  intro f
  induction f with
  | zero => intro j h1 h2; omega
  | succ f ih =>
    intro j h1 h2
    by_cases hj : j = size
    · subst hj
      rw [f_X8_isMended_L131, nI_add, if_pos (nI_le (Nat.le_refl _) (by omega)), show (fun v => gc s r b a j v - gc s r b a j v) = (fun _ => 0) from funext fun v => Nat.sub_self _, hM_zero O.S]
    · have hbd : ∀ v, v < 4 → mny s v + (fun v => gc s r b a size v - gc s r b a j v) v ≤ 99 := fun v hv => by
        have := O.m12 v hv
        have := gc_le (s := s) (r := r) (i := b) (a := a) (v := v) size
        show mny s v + (gc s r b a size v - gc s r b a j v) ≤ 99
        omega
      have hS := hM_Sm O.S hbd
      have hs4 := O.sl4 r (a + j) (by omega) (by omega)
      have ihj := ih (j + 1) (by omega) (by omega)
      obtain ⟨wc1, wc2⟩ := whole_cut O hr (by omega)
      rw [f_X8_isMended_L131, nI_add, if_neg (nI_ge (by omega) (by omega)), nI_1]
      by_cases hi : a + j = b
      · rw [if_pos (by rw [hi])]
        rw [gc_f (cntd_f (Or.inl hi))] at ihj
        exact ihj
      · rw [if_neg (fun q => hi ((nI_eq (by omega) (by omega)).mp q)), l1, pk_sub (by omega)]
        have hadd : cntd s r b (a + j) = true → (f_X8_slateOf N (hM s (fun v => gc s r b a size v - gc s r b a j v)) (nI r) (nI (a + j))).bind (fun r_84 => (f_X8_leaves N (hM s (fun v => gc s r b a size v - gc s r b a j v)) r_84 (nI 1)).bind fun r_85 => f_X8_isMended_L131 N way found wrw wt ws eb fs fw (nI r) (nI b) (nI a) (nI size) (nI (ld s r)) x8 f (nI (a + j + 1)) r_85) = if x8 ≤ 0 then some (false, s, way, found, wrw, wt, ws, fs, fw) else some (true, s, way, found, wrw, wt, ws, fs, fw) := fun hc => by
          have hmo := gc_mono (s := s) (r := r) (i := b) (a := a) (v := sl s r (a + j)) (n := size) (j := j + 1) (by omega)
          have hst : gc s r b a (j + 1) (sl s r (a + j)) = gc s r b a j (sl s r (a + j)) + 1 := by
            rw [gc_t hc]
            unfold inc
            rw [if_pos rfl]
          have hd : dec (fun v => gc s r b a size v - gc s r b a j v) (sl s r (a + j)) = fun v => gc s r b a size v - gc s r b a (j + 1) v := funext fun v => by
            unfold dec
            rw [gc_t hc]
            unfold inc
            by_cases e : v = sl s r (a + j)
            · rw [if_pos e, if_pos e]
              dsimp only
              omega
            · rw [if_neg e, if_neg e]
          rw [e_slateOf hS (by omega) (by omega), bs, hM_sl, show (nI 1 : Int32) = 1 from rfl, hM_less O.S hbd hs4 (show gc s r b a size (sl s r (a + j)) - gc s r b a j (sl s r (a + j)) ≠ 0 by omega), bs, hd]
          exact ihj
        by_cases hn : a + j = ld s r - 1
        · rw [if_pos (by rw [hn]), e_cutOf hS (by omega) (by rw [hM_ld]; exact hl12) (fun k hk => by rw [hM_ld] at hk; rw [hM_sl]; exact O.sl32 r k (by omega) hk) (by omega), bs, hM_cutI]
          by_cases hc : 0 < cutI s r
          · rw [if_pos hc]
            rw [gc_f (cntd_f (Or.inr (by rw [wc1 hc]; omega)))] at ihj
            exact ihj
          · rw [if_neg hc]
            exact hadd (cntd_t hi (by rw [wc2 hc]; omega))
        · rw [if_neg (fun q => hn ((nI_eq (by omega) (by omega)).mp q))]
          refine hadd (cntd_t hi ?_)
          by_cases hc : 0 < cutI s r
          · rw [wc1 hc]; omega
          · rw [wc2 hc]; omega
end BRK
