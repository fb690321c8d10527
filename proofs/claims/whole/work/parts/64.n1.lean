/-! ===== the roof as it must be; rows, widths and shelves that are there ===== -/
def Ok (s : Nat → Int32) : Prop := Gd s ∧ (∀ v, v < wide s → inch s v ≤ 30) ∧ (∀ v u, v < wide s → u < wide s → inch s v = inch s u → v = u) ∧ (∀ v, v < 4 → mny s v ≤ 12) ∧ high s ≤ 6 ∧ (∀ r, r < high s → 10 ≤ len s r ∧ len s r ≤ 60) ∧ (∀ q k, q < 6 → k < ld s q → sl s q k < wide s) ∧ (∀ r, r < high s → 0 < ld s r → sumIn s r (ld s r - 1) < len s r ∧ len s r ≤ sumIn s r (ld s r))
theorem Ok.g {s : Nat → Int32} (h : Ok s) : Gd s := h.1
theorem Ok.i30 {s : Nat → Int32} (h : Ok s) : ∀ v, v < wide s → inch s v ≤ 30 := h.2.1
theorem Ok.dist {s : Nat → Int32} (h : Ok s) : ∀ v u, v < wide s → u < wide s → inch s v = inch s u → v = u := h.2.2.1
theorem Ok.m12 {s : Nat → Int32} (h : Ok s) : ∀ v, v < 4 → mny s v ≤ 12 := h.2.2.2.1
theorem Ok.h6 {s : Nat → Int32} (h : Ok s) : high s ≤ 6 := h.2.2.2.2.1
theorem Ok.ln {s : Nat → Int32} (h : Ok s) : ∀ r, r < high s → 10 ≤ len s r ∧ len s r ≤ 60 := h.2.2.2.2.2.1
theorem Ok.slw {s : Nat → Int32} (h : Ok s) : ∀ q k, q < 6 → k < ld s q → sl s q k < wide s := h.2.2.2.2.2.2.1
theorem Ok.sums {s : Nat → Int32} (h : Ok s) : ∀ r, r < high s → 0 < ld s r → sumIn s r (ld s r - 1) < len s r ∧ len s r ≤ sumIn s r (ld s r) := h.2.2.2.2.2.2.2
theorem Ok.S {s : Nat → Int32} (h : Ok s) : Sm s := h.g.1
theorem Ok.w4 {s : Nat → Int32} (h : Ok s) : wide s ≤ 4 := h.g.2.1
theorem Ok.i5 {s : Nat → Int32} (h : Ok s) : ∀ w, w < wide s → 5 ≤ inch s w := h.g.2.2.1
theorem Ok.l12 {s : Nat → Int32} (h : Ok s) : ∀ q, q < 6 → ld s q ≤ 12 := h.g.2.2.2.1
theorem Ok.sl4 {s : Nat → Int32} (h : Ok s) : ∀ q k, q < 6 → k < ld s q → sl s q k < 4 := h.g.2.2.2.2
theorem Ok.sl32 {s : Nat → Int32} (h : Ok s) : ∀ q k, q < 6 → k < ld s q → sl s q k < 32 := fun q k a b => Nat.lt_trans (h.sl4 q k a b) (by omega)
def inB (x : Int32) (h : Nat) : Bool := decide (¬ x < 0) && decide (x < nI h)
theorem inB_t {x : Int32} {h : Nat} (hh : h < 2 ^ 31) (hb : inB x h = true) : ∃ r, r < h ∧ x = nI r := by
  unfold inB at hb
  simp only [Bool.and_eq_true, decide_eq_true_eq] at hb
  rcases pk_ix x hh with g | g | g
  · exact absurd g hb.1
  · exact absurd g (fa_of_lt hb.2).2.1
  · exact g
theorem inB_i {r h : Nat} (hh : h < 2 ^ 31) (hr : r < h) : inB (nI r) h = true := by
  unfold inB
  rw [decide_eq_true (nI_pos (by omega)), decide_eq_true (nI_lt hr hh)]
  rfl
theorem c_inB {N h : Nat} {x : Int32} : f_X7_isRow N (nI h) x = some (inB x h) ∧ f_X7_isWidth N (nI h) x = some (inB x h) := by
  unfold f_X7_isRow f_X7_isWidth inB
  by_cases h1 : x < 0
  · simp [h1]
  · by_cases h2 : nI h ≤ x
    · have : ¬ x < nI h := fun z => (fa_of_lt z).2.1 h2
      simp [h1, h2, this]
    · have := fa_of_nle h2
      simp [h1, h2, this]
theorem isIn0 {N h : Nat} {x : Int32} (hh : h < 2 ^ 30) : f_X8_isIn N x.toInt64 0 ((nI h - 1).toInt64) = some (inB x h) := by
  have e := isIn_e N x 0 (nI h - 1)
  rw [show (0 : Int32).toInt64 = 0 from rfl] at e
  rw [e]
  have h1 : (nI h - nI 1).toInt = (h : Int) - 1 := pk_sub_toInt hh (by omega)
  have h2 : (nI h).toInt = (h : Int) := nI_toInt (by omega)
  have h0 : (0 : Int32).toInt = 0 := rfl
  unfold inB
  rw [l1]
  have a1 : (0 ≤ x) ↔ (¬ x < 0) := by rw [fa_le, fa_lt]; omega
  have a2 : (x ≤ nI h - nI 1) ↔ (x < nI h) := by rw [fa_le, fa_lt, h1, h2]; omega
  rw [decide_eq_decide.mpr a1, decide_eq_decide.mpr a2]
theorem e_isRow {N : Nat} {s : Nat → Int32} (h : Sm s) {x : Int32} : f_X8_isRow N s x = some (inB x (high s)) := by
  have hb := h.le (k := 2) (by omega)
  unfold f_X8_isRow
  rw [show gi 2 99 = true by decide, ck_t, show s (2 : Int32).toNatClampNeg = nI (high s) from h.at (k := 2) (by omega), isIn0 (by unfold high; omega)]
  rfl
theorem e_isWidth {N : Nat} {s : Nat → Int32} (h : Sm s) {x : Int32} : f_X8_isWidth N s x = some (inB x (wide s)) := by
  have hb := h.le (k := 1) (by omega)
  unfold f_X8_isWidth
  rw [show gi 1 99 = true by decide, ck_t, show s (1 : Int32).toNatClampNeg = nI (wide s) from h.at (k := 1) (by omega), isIn0 (by unfold wide; omega)]
  rfl
theorem e_isShelf {N : Nat} {x : Int32} : f_X8_isShelf N x = some (inB x 8) := by
  unfold f_X8_isShelf
  have e := isIn0 (N := N) (x := x) (h := 8) (by omega)
  rw [show (nI 8 - 1).toInt64 = (7 : Int64) from rfl] at e
  rw [e]
  rfl
theorem c_isShelf {N : Nat} {x : Int32} : f_X7_isShelf N x = some (inB x 8) := by
  unfold f_X7_isShelf inB
  rw [show (8 : Int32) = nI 8 from rfl]
  by_cases h1 : x < 0
  · simp [h1]
  · by_cases h2 : nI 8 ≤ x
    · have : ¬ x < nI 8 := fun z => (fa_of_lt z).2.1 h2
      simp [h1, h2, this]
    · have := fa_of_nle h2
      simp [h1, h2, this]
/-- between two small numbers -/
theorem isInC {N k : Nat} {x : Int32} (hk : k + 1 < 2 ^ 30) : f_X8_isIn N x.toInt64 0 ((nI k).toInt64) = some (inB x (k + 1)) := by
  have e := isIn0 (N := N) (x := x) (h := k + 1) hk
  rw [show nI (k + 1) - 1 = nI k from nI_pred k] at e
  exact e
section ENC3
variable {N : Nat} {i m w l d t : Nat → Int32} {x y z : Int32} {s : Nat → Int32}
/-- what refusalOfOpen answers -/
def refO (s : Nat → Int32) (x1 : Int32) (b : Bool) : Int32 := if inB x1 (high s) = true ∧ b = true then (if ld s x1.toNatClampNeg = 0 then 0 else -3) else -1
theorem c_refO (E : Enc i m w l d t x y z s) (O : Ok s) {x1 : Int32} {b : Bool} : f_X7_refusalOfOpen N d y x1 (b2i b) = some (refO s x1 b) := by
  unfold f_X7_refusalOfOpen refO
  have h6 := O.h6
  rw [E.high O.S, c_inB.1, bs]
  cases hb : inB x1 (high s) with
  | false => simp [b2i_f]
  | true =>
    obtain ⟨r, hr, rfl⟩ := inB_t (by omega) hb
    cases b with
    | false => simp [b2i_f, b2i_t]
    | true =>
      have hl := O.S.le (k := 15 + 14 * r + 1) (by omega)
      rw [if_neg (show ¬ b2i true = 0 by decide), if_neg (show ¬ b2i true = 0 by decide), ck_nI (by omega) (by omega), cl_nI (by omega), E.ld O.S (by omega), if_pos (show true = true ∧ true = true from ⟨rfl, rfl⟩)]
      by_cases hz : ld s r = 0
      · rw [hz, if_pos (show nI 0 ≤ 0 by decide), if_pos rfl]
      · rw [if_neg (nI_nle (Nat.pos_of_ne_zero hz) (by unfold ld; omega)), if_neg hz]
theorem refO_0 (O : Ok s) {x1 : Int32} {b : Bool} (h : refO s x1 b = 0) : ∃ r, r < high s ∧ x1 = nI r ∧ b = true ∧ ld s r = 0 := by
  have h6 := O.h6
  unfold refO at h
  by_cases hb : inB x1 (high s) = true ∧ b = true
  · rw [if_pos hb] at h
    obtain ⟨r, hr, rfl⟩ := inB_t (by omega) hb.1
    rw [cl_nI (by omega)] at h
    by_cases hz : ld s r = 0
    · exact ⟨r, hr, rfl, hb.2, hz⟩
    · rw [if_neg hz] at h
      exact absurd h (by decide)
  · rw [if_neg hb] at h
    exact absurd h (by decide)
theorem refO_lt {x1 : Int32} {b : Bool} (h : ¬ refO s x1 b = 0) : refO s x1 b < 0 := by
  unfold refO at h ⊢
  by_cases hb : inB x1 (high s) = true ∧ b = true
  · rw [if_pos hb] at h ⊢
    by_cases hz : ld s x1.toNatClampNeg = 0
    · rw [if_pos hz] at h
      exact absurd rfl h
    · rw [if_neg hz]
      decide
  · rw [if_neg hb]
    decide
theorem e_laid0 (O : Ok s) {r : Nat} (hr : r < high s) {α : Type} {A B : Option α} : (f_X8_isLaid N s (nI r)).bind (fun q => if b2i q = 0 then A else B) = if ld s r = 0 then A else B := by
  have h6 := O.h6
  rw [e_isLaid O.S (by omega), bs]
  by_cases hz : ld s r = 0
  · rw [if_pos (b2i_0.mpr (decide_eq_false (by omega))), if_pos hz]
  · rw [if_neg (b2i_n0.mpr (decide_eq_true (by omega))), if_neg hz]
theorem e_wrong (O : Ok s) {x1 : Int32} : f_X8_wrong N s x1 = some (refO s x1 true) := by
  unfold f_X8_wrong refO
  have h6 := O.h6
  rw [e_isRow O.S, bs]
  cases hb : inB x1 (high s) with
  | false => simp [b2i_f]
  | true =>
    obtain ⟨r, hr, rfl⟩ := inB_t (by omega) hb
    rw [if_neg (show ¬ b2i true = 0 by decide), e_laid0 O hr, if_pos (show true = true ∧ true = true from ⟨rfl, rfl⟩), cl_nI (by omega)]
    split <;> rfl
theorem e_wrongWidth (O : Ok s) {x1 x2 : Int32} : f_X8_wrongWidth N s x1 x2 = some (refO s x1 (inB x2 (wide s))) := by
  unfold f_X8_wrongWidth refO
  have h6 := O.h6
  rw [e_isRow O.S, bs, e_isWidth O.S, bs]
  cases hb : inB x1 (high s) with
  | false => simp [b2i_f]
  | true =>
    obtain ⟨r, hr, rfl⟩ := inB_t (by omega) hb
    rw [if_neg (show ¬ b2i true = 0 by decide)]
    cases hc : inB x2 (wide s) with
    | false => simp [b2i_f]
    | true =>
      rw [if_neg (show ¬ b2i true = 0 by decide), e_laid0 O hr, if_pos (show true = true ∧ true = true from ⟨rfl, rfl⟩), cl_nI (by omega)]
      split <;> rfl
theorem e_wrongJudge (O : Ok s) {x1 x2 : Int32} : f_X8_wrongJudge N s x1 x2 = some (refO s x1 (inB x2 8)) := by
  unfold f_X8_wrongJudge refO
  have h6 := O.h6
  rw [e_isRow O.S, bs, e_isShelf, bs]
  cases hb : inB x1 (high s) with
  | false => simp [b2i_f]
  | true =>
    obtain ⟨r, hr, rfl⟩ := inB_t (by omega) hb
    rw [if_neg (show ¬ b2i true = 0 by decide)]
    cases hc : inB x2 8 with
    | false => simp [b2i_f]
    | true =>
      rw [if_neg (show ¬ b2i true = 0 by decide), e_laid0 O hr, if_pos (show true = true ∧ true = true from ⟨rfl, rfl⟩), cl_nI (by omega)]
      split <;> rfl
end ENC3
