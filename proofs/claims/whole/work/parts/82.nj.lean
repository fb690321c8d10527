/-! ===== by: layings, slate by slate ===== -/
def encC : Option Nat → Int32
  | none => -1
  | some v => nI v
def encM : Option Nat → Int32
  | none => -4
  | some v => nI v
def fitB (s : Nat → Int32) (r P : Nat) (c : Bool) (v : Nat) : Bool := if P + inch s v < len s r then mayB s r (P + inch s v) else (decide (P + inch s v = len s r) || c)
theorem neg_leI {a b : Nat} (ha : a < 2 ^ 30) (hb : b < 2 ^ 30) : (-(nI a) ≤ -(nI b)) ↔ b ≤ a := by
  have e1 : -(nI a) = nI 0 - nI a := (Int32.zero_sub _).symm
  have e2 : -(nI b) = nI 0 - nI b := (Int32.zero_sub _).symm
  rw [e1, e2, fa_le, pk_sub_toInt (by omega) ha, pk_sub_toInt (by omega) hb]
  omega
theorem nI_eq4 {k : Nat} (hk : k < 2 ^ 20) : (nI k = 4) ↔ k = 4 := nI_eq (b := 4) (by omega) (by omega)
theorem Enc.ext {i m w l d t m' : Nat → Int32} {x y z : Int32} {s : Nat → Int32} (E : Enc i m w l d t x y z s) (h : ∀ v, v < 4 → m' v = m v) : Enc i m' w l d t x y z s :=
  ⟨E.1, E.2.1, E.2.2.1, fun k hk => ⟨(E.2.2.2.1 k hk).1, (h k hk).trans (E.2.2.2.1 k hk).2.1, (E.2.2.2.1 k hk).2.2⟩, E.2.2.2.2⟩
section CRS
variable {N : Nat} {i m w l d t : Nat → Int32} {x y z : Int32} {s : Nat → Int32}
theorem c_fits (hN : 5000 < N) (E : Enc i m w l d t x y z s) (O : Ok s) {r P v k : Nat} (hr : r < high s) (hP : P < 100) (hv : v < wide s) (hk : k ≤ 6) : f_X0_fits N (nI r) (nI (len s r)) (nI P) i d t z (nI k) (nI v) = some (fitB s r P (decide (k = 4)) v) := by
  have h6 := O.h6
  have hw4 := O.w4
  have hl := O.ln r hr
  have hi := O.i30 v hv
  unfold f_X0_fits fitB
  rw [ck_nI (by omega) (by omega), cl_nI (by omega), E.inch O.S (by omega), nI_add]
  by_cases hlt : P + inch s v < len s r
  · rw [if_neg (nI_ge hlt (by omega)), if_pos hlt, c_allowsJoint E O.S (by omega) (by omega) O.l12 O.sl4 (by omega), bs]
  · rw [if_pos (nI_le (by omega) (by omega)), if_neg hlt]
    by_cases he : P + inch s v = len s r
    · rw [if_pos (by rw [he]), decide_eq_true he]
      rfl
    · rw [if_neg (fun q => he ((nI_eq (by omega) (by omega)).mp q)), decide_eq_false he, Bool.false_or]
      by_cases h4 : k = 4
      · rw [if_pos ((nI_eq4 (by omega)).mpr h4), decide_eq_true h4]
      · rw [if_neg (fun q => h4 ((nI_eq4 (by omega)).mp q)), decide_eq_false h4]
theorem e_canLay (hN : 5000 < N) (O : Ok s) {r P v : Nat} (hr : r < high s) (hP : P < 100) (hv : v < wide s) {cI : Int32} {c : Bool} (hc : cI = 0 ↔ c = false) : f_X8_canLay N s (nI r) (nI P) (nI v) cI = some (decide (mny s v ≠ 0) && fitB s r P c v) := by
  have h6 := O.h6
  have hw4 := O.w4
  have hl := O.ln r hr
  have hi := O.i30 v hv
  have hm := O.m12 v (by omega)
  unfold f_X8_canLay fitB
  rw [e_inches O.S (by omega), bs, e_many O.S (by omega), bs]
  by_cases hz : mny s v = 0
  · rw [if_pos (by rw [hz]; rfl), decide_eq_false (fun q => q hz)]
    rfl
  · rw [if_neg (nI_ne0 (by omega) (by omega)), decide_eq_true hz, Bool.true_and, e_lengthOf O.S (by omega), bs, bs, nI_add]
    by_cases hlt : P + inch s v < len s r
    · rw [if_neg (nI_ge hlt (by omega)), if_pos hlt, e_mayBe O.S (by omega) (by omega) O.l12 O.sl32 (by omega), bs]
    · rw [if_pos (nI_le (by omega) (by omega)), if_neg hlt]
      by_cases he : P + inch s v = len s r
      · rw [if_pos (by rw [he]), decide_eq_true he]
        rfl
      · rw [if_neg (fun q => he ((nI_eq (by omega) (by omega)).mp q)), decide_eq_false he, Bool.false_or]
        cases c with
        | false => rw [if_pos (hc.mpr rfl)]
        | true => rw [if_neg (fun q => by have := hc.mp q; cases this)]
theorem e_can4 (hN : 5000 < N) (O : Ok s) {r P v k : Nat} (hr : r < high s) (hP : P < 100) (hv : v < wide s) (hk : k ≤ 6) {α : Type} (F : Bool → Option α) : (if nI k = 4 then (f_X8_canLay N s (nI r) (nI P) (nI v) 1).bind F else (f_X8_canLay N s (nI r) (nI P) (nI v) 0).bind F) = F (decide (mny s v ≠ 0) && fitB s r P (decide (k = 4)) v) := by
  rw [e_canLay (c := true) hN O hr hP hv ⟨fun q => absurd q (by decide), fun q => by cases q⟩, e_canLay (c := false) hN O hr hP hv ⟨fun _ => rfl, fun _ => rfl⟩, bs, bs]
  by_cases h4 : k = 4
  · rw [if_pos ((nI_eq4 (by omega)).mpr h4), decide_eq_true h4]
  · rw [if_neg (fun q => h4 ((nI_eq4 (by omega)).mp q)), decide_eq_false h4]
theorem r_better (E : Enc i m w l d t x y z s) (O : Ok s) {v c k fg : Nat} (hv : v < wide s) (hc : c < v) {α : Type} {A B : Option α} : ∃ b, ((f_X0_rank N i (nI k) (nI fg) (nI v)).bind fun r9 => (f_X0_rank N i (nI k) (nI fg) (nI c)).bind fun r10 => if r10 ≤ r9 then A else B) = (if b2i b = 0 then A else B) ∧ f_X8_isBetter N s (nI k) (nI fg) (nI v) (nI c) = some b := by
  have hw4 := O.w4
  have hi1 := O.i30 v hv
  have hi2 := O.i30 c (by omega)
  unfold f_X0_rank f_X1_rank f_X8_isBetter
  rw [ck_nI (by omega) (by omega), ck_nI (by omega) (by omega), cl_nI (by omega), cl_nI (by omega), E.inch O.S (by omega), E.inch O.S (by omega), if_pos (show (0 : Int32) ≤ nI c from nI_pos' (by omega)), e_inches O.S (by omega), e_inches O.S (by omega)]
  have keep : ∃ b, (if nI c ≤ nI v then A else B) = (if b2i b = 0 then A else B) ∧ some false = some b := ⟨false, by rw [if_pos (nI_le (by omega) (by omega)), if_pos (show b2i false = 0 from rfl)], rfl⟩
  have negc : ∃ b, (if -(nI (inch s c)) ≤ -(nI (inch s v)) then A else B) = (if b2i b = 0 then A else B) ∧ (if nI (inch s v) ≤ nI (inch s c) then some false else some true) = some b := by
    by_cases h : inch s v ≤ inch s c
    · exact ⟨false, by rw [if_pos ((neg_leI (by omega) (by omega)).mpr h), if_pos (show b2i false = 0 from rfl)], by rw [if_pos (nI_le h (by omega))]⟩
    · exact ⟨true, by rw [if_neg (fun q => h ((neg_leI (by omega) (by omega)).mp q)), if_neg (show ¬ b2i true = 0 by decide)], by rw [if_neg (nI_ge (by omega) (by omega))]⟩
  by_cases h1 : nI k = 1
  · simp only [if_pos h1, bs]
    exact negc
  simp only [if_neg h1]
  by_cases h2 : nI k = 2
  · simp only [if_pos h2, bs]
    exact keep
  simp only [if_neg h2]
  by_cases h3 : nI k = 3
  · simp only [if_pos h3, bs]
    by_cases h : inch s c ≤ inch s v
    · exact ⟨false, by rw [if_pos (nI_le h (by omega)), if_pos (show b2i false = 0 from rfl)], by rw [if_pos (nI_le h (by omega))]⟩
    · exact ⟨true, by rw [if_neg (nI_ge (by omega) (by omega)), if_neg (show ¬ b2i true = 0 by decide)], by rw [if_neg (nI_ge (by omega) (by omega))]⟩
  simp only [if_neg h3]
  by_cases h4 : nI k = 4
  · simp only [if_pos h4, bs]
    exact negc
  simp only [if_neg h4]
  by_cases h5 : nI k = 5
  · simp only [if_pos h5, bs]
    exact keep
  simp only [if_neg h5]
  by_cases h6 : nI k = 6
  · simp only [if_pos h6, bs]
    unfold ab
    by_cases a1 : (0 : Int32) ≤ nI v - (nI fg - nI fg / 4 * 4)
    · simp only [if_pos a1]
      by_cases a2 : (0 : Int32) ≤ nI c - (nI fg - nI fg / 4 * 4)
      · simp only [if_pos a2]
        split
        · exact ⟨false, rfl, rfl⟩
        · exact ⟨true, rfl, rfl⟩
      · simp only [if_neg a2, Int32.zero_sub]
        split
        · exact ⟨false, rfl, rfl⟩
        · exact ⟨true, rfl, rfl⟩
    · simp only [if_neg a1, Int32.zero_sub]
      by_cases a2 : (0 : Int32) ≤ nI c - (nI fg - nI fg / 4 * 4)
      · simp only [if_pos a2]
        split
        · exact ⟨false, rfl, rfl⟩
        · exact ⟨true, rfl, rfl⟩
      · simp only [if_neg a2, Int32.zero_sub]
        split
        · exact ⟨false, rfl, rfl⟩
        · exact ⟨true, rfl, rfl⟩
  simp only [if_neg h6, bs]
  exact keep
theorem r_chosen (hN : 5000 < N) (E : Enc i m w l d t x y z s) (O : Ok s) {r P k fg : Nat} (hr : r < high s) (hP : P < 100) (hk : k ≤ 6) : ∃ o, f_X0_chosenWidth N (nI r) (nI (len s r)) (nI P) i m d t x z (nI k) (nI fg) = some (encC o) ∧ f_X8_chosen N s (nI r) (nI P) (nI k) (nI fg) = some (encM o) ∧ ∀ v, o = some v → v < wide s ∧ mny s v ≠ 0 := by
  have hw4 := O.w4
  have hx := E.wide O.S
  have key : ∀ (f j : Nat) (o : Option Nat), j ≤ wide s → wide s < j + f → (∀ v, o = some v → v < j ∧ mny s v ≠ 0) → ∃ o', f_X0_chosenWidth_L4 N (nI r) (nI (len s r)) (nI P) i m d t x z (nI k) (nI fg) f (encC o) (nI j) = some (encC o') ∧ f_X8_chosen_L6 N s (nI r) (nI P) (nI k) (nI fg) f (encM o) (nI j) = some (encM o') ∧ ∀ v, o' = some v → v < wide s ∧ mny s v ≠ 0 := by
    intro f
    induction f with
    | zero => intro j o h1 h2; omega
    | succ f ih =>
      intro j o h1 h2 ho
      rw [f_X0_chosenWidth_L4, f_X8_chosen_L6, (ck1 O.S).1, (ck1 O.S (α := Nat) (k := none)).2, hx]
      by_cases hj : j = wide s
      · subst hj
        rw [if_pos (nI_le (Nat.le_refl _) (by omega)), if_pos (nI_le (Nat.le_refl _) (by omega))]
        exact ⟨o, rfl, rfl, ho⟩
      · have hm := O.m12 j (by omega)
        rw [if_neg (nI_ge (by omega) (by omega)), if_neg (nI_ge (by omega) (by omega)), e_can4 hN O hr hP (by omega) hk, ck_nI (by omega) (by omega), cl_nI (by omega), E.mny O.S (by omega), nI_1, c_fits hN E O hr hP (by omega) hk, bs, ← hx]
        have skip := ih (j + 1) o (by omega) (by omega) (fun v hv => ⟨by have := (ho v hv).1; omega, (ho v hv).2⟩)
        by_cases hz : mny s j = 0
        · rw [hz, if_pos (show nI 0 ≤ 0 by decide), decide_eq_false (fun q => q rfl), Bool.false_and, if_pos (show b2i false = 0 from rfl)]
          exact skip
        · rw [if_neg (nI_nle (Nat.pos_of_ne_zero hz) (by omega)), decide_eq_true hz, Bool.true_and]
          cases hf : fitB s r P (decide (k = 4)) j with
          | false =>
            rw [if_pos (show b2i false = 0 from rfl), if_pos (show b2i false = 0 from rfl)]
            exact skip
          | true =>
            rw [if_neg (show ¬ b2i true = 0 by decide), if_neg (show ¬ b2i true = 0 by decide)]
            have take := ih (j + 1) (some j) (by omega) (by omega) (fun v hv => by
              cases hv
              exact ⟨by omega, hz⟩)
            cases o with
            | none =>
              unfold f_X8_isBetter
              rw [if_pos (show encC none = -1 from rfl), if_neg (show ¬ (0 : Int32) ≤ encM none by decide), bs, if_neg (show ¬ b2i true = 0 by decide)]
              exact take
            | some c =>
              have hcj := ho c rfl
              rw [if_neg (show ¬ encC (some c) = -1 from fun q => by
                have h1 : nI c = -1 := q
                have h2 : ¬ nI c < 0 := nI_pos (by omega)
                rw [h1] at h2
                exact h2 (by decide))]
              obtain ⟨b, b1, b2⟩ := r_better (N := N) (k := k) (fg := fg) E O (v := j) (c := c) (by omega) hcj.1 (A := f_X0_chosenWidth_L4 N (nI r) (nI (len s r)) (nI P) i m d t x z (nI k) (nI fg) f (encC (some c)) (nI (j + 1))) (B := f_X0_chosenWidth_L4 N (nI r) (nI (len s r)) (nI P) i m d t x z (nI k) (nI fg) f (nI j) (nI (j + 1)))
              have b1' : ((f_X0_rank N i (nI k) (nI fg) (nI j)).bind fun r9 => (f_X0_rank N i (nI k) (nI fg) (encC (some c))).bind fun r10 => if r10 ≤ r9 then f_X0_chosenWidth_L4 N (nI r) (nI (len s r)) (nI P) i m d t x z (nI k) (nI fg) f (encC (some c)) (nI (j + 1)) else f_X0_chosenWidth_L4 N (nI r) (nI (len s r)) (nI P) i m d t x z (nI k) (nI fg) f (nI j) (nI (j + 1))) = _ := b1
              have b2' : f_X8_isBetter N s (nI k) (nI fg) (nI j) (encM (some c)) = some b := b2
              rw [b1', b2', bs]
              cases b with
              | false =>
                rw [if_pos (show b2i false = 0 from rfl), if_pos (show b2i false = 0 from rfl)]
                exact skip
              | true =>
                rw [if_neg (show ¬ b2i true = 0 by decide), if_neg (show ¬ b2i true = 0 by decide)]
                exact take
  exact key N 0 none (by omega) (by omega) (fun v hv => by cases hv)
theorem hpN_le (h : ∀ v, v < 4 → mny s v ≤ 99) : ∀ j, j ≤ 4 → hpN s j ≤ 99 * j
  | 0, _ => Nat.le_refl _
  | j + 1, hj => by
    have h1 := hpN_le h j (by omega)
    have h2 := h j (by omega)
    show hpN s j + mny s j ≤ _
    omega
theorem hpN_mono : ∀ {n j : Nat}, j ≤ n → hpN s j ≤ hpN s n
  | 0, j, h => by rw [show j = 0 by omega]; exact Nat.le_refl _
  | n + 1, j, h => by
    by_cases e : j = n + 1
    · rw [e]; exact Nat.le_refl _
    · have := hpN_mono (n := n) (j := j) (by omega)
      show _ ≤ hpN s n + mny s n
      omega
theorem hpN_pos {v n : Nat} (hv : v < n) (hm : mny s v ≠ 0) : 0 < hpN s n := by
  have h1 := hpN_mono (s := s) (n := n) (j := v + 1) hv
  have h2 : hpN s (v + 1) = hpN s v + mny s v := rfl
  omega
theorem hpN_dec (h : Sm s) {v : Nat} (hv4 : v < 4) (hm : mny s v ≠ 0) : ∀ n, hpN (decS s v) n = if v < n then hpN s n - 1 else hpN s n
  | 0 => by rw [if_neg (by omega)]; rfl
  | n + 1 => by
    show hpN (decS s v) n + mny (decS s v) n = _
    rw [hpN_dec h hv4 hm n, decS_mny h (by omega)]
    unfold dec
    have e : hpN s (n + 1) = hpN s n + mny s n := rfl
    by_cases h1 : v < n
    · have := hpN_pos h1 hm
      rw [if_pos h1, if_neg (by omega), if_pos (by omega), e]
      omega
    · by_cases h2 : v = n
      · subst h2
        rw [if_neg (by omega), if_pos rfl, if_pos (by omega), e]
        omega
      · rw [if_neg h1, if_neg (by omega), if_neg (by omega), e]
theorem r_drawn (hN : 5000 < N) (E : Enc i m w l d t x y z s) (h : Sm s) (hw4 : wide s ≤ 4) (hpos : 0 < hpN s (wide s)) (seed : Int32) : ∃ v sd, v < wide s ∧ mny s v ≠ 0 ∧ f_X0_drawn N seed m x = some (nI v, sd, upd m v (nI (mny s v - 1))) ∧ f_X8_handed N s seed = some (nI v, sd) := by
  have hm99 : ∀ v, v < 4 → mny s v ≤ 99 := fun v hv => mny_le h (by omega)
  have hb := hpN_le hm99 (wide s) hw4
  have hx := E.wide h
  unfold f_X0_drawn f_X8_handed
  rw [c_slatesInHeap (by omega) E h hw4, bs, e_heapSize (by omega) h hw4, bs, if_pos (show (0 : Int32) < nI (hpN s (wide s)) from nI_lt (a := 0) hpos (by omega)), show nz (nI (hpN s (wide s))) = true from decide_eq_true (nI_ne0 (by omega) (by omega)), ck_t, ck_t]
  obtain ⟨n, hn, he⟩ := pk_andE (seed * 1103515245 + 12345) (m := 2147483647) 31 (by decide)
  rw [he, show (65536 : Int32) = nI 65536 from rfl, pk_div (by omega) (by omega) (by omega), pk_rem (by have := Nat.div_le_self n 65536; omega) hpos (by omega)]
  have hk : n / 65536 % hpN s (wide s) < hpN s (wide s) := Nat.mod_lt _ hpos
  generalize n / 65536 % hpN s (wide s) = k at hk
  generalize seed * 1103515245 + 12345 = sd
  have key : ∀ (f j k : Nat), wide s < j + f → k + hpN s j < hpN s (wide s) → ∃ v, v < wide s ∧ mny s v ≠ 0 ∧ f_X0_drawn_L44 N sd m x f (nI k) (nI j) = some (nI v, sd, upd m v (nI (mny s v - 1))) ∧ f_X8_handed_L35 N s sd f (nI k) (nI j) = some (nI v, sd) := by
    intro f
    induction f with
    | zero =>
      intro j k q1 q2
      have := hpN_mono (s := s) (n := j) (j := wide s) (by omega)
      omega
    | succ f ih =>
      intro j k q1 q2
      have hj : j < wide s := Nat.lt_of_not_le fun q => by
        have := hpN_mono (s := s) (n := j) (j := wide s) q
        omega
      have hmj := hm99 j (by omega)
      rw [f_X0_drawn_L44, f_X8_handed_L35, hx, if_neg (nI_ge hj (by omega)), e_many h (by omega), bs, bs, ck_nI (by omega) (by omega), ck_nI (by omega) (by omega), ck_nI (by omega) (by omega), ck_nI (by omega) (by omega), cl_nI (by omega), E.mny h (by omega)]
      by_cases hlt : k < mny s j
      · rw [if_neg (nI_ge hlt (by omega)), if_pos (nI_lt hlt (by omega)), l1, pk_sub (by omega)]
        exact ⟨j, hj, by omega, rfl, rfl⟩
      · have hstep : hpN s (j + 1) = hpN s j + mny s j := rfl
        rw [if_pos (nI_le (by omega) (by omega)), if_neg (nI_nlt (by omega) (by omega)), pk_sub (by omega), nI_1, ← hx]
        exact ih (j + 1) (k - mny s j) (by omega) (by omega)
  obtain ⟨v, a1, a2, a3, a4⟩ := key N 0 k (by omega) (by show k + 0 < _; omega)
  exact ⟨v, sd, a1, a2, a3, a4⟩
end CRS
