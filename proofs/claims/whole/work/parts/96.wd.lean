/-! ===== shelves that are written ===== -/
theorem gi_out {x : Int32} (h : ¬ gi x 8 = true) : inB x 8 = false := by
  cases hb : inB x 8 with
  | false => rfl
  | true =>
    obtain ⟨r, hr, rfl⟩ := inB_t (by decide) hb
    exact absurd (giT hr (by omega)) h
theorem sh_out {N : Nat} {x : Int32} (h : ¬ gi x 8 = true) : f_X7_isShelf N x = some false := by
  unfold f_X7_isShelf
  by_cases h1 : x < 0
  · rw [if_pos h1]
  · rw [if_neg h1]
    by_cases h2 : 8 ≤ x
    · rw [if_pos h2]
    · exfalso
      refine h ?_
      unfold gi
      refine decide_eq_true ?_
      rintro (q | q)
      · exact h1 q
      · refine h2 ?_
        rw [Int32.le_iff_toInt_le, show (8 : Int32).toInt = 8 from rfl]
        have : x.toInt.toNat = x.toNatClampNeg := rfl
        omega
theorem t_put {N : Nat} {Sh : Nat → Option Nat} {nums : Nat → Int32} {hold sort size x1 x2 x3 : Int32} {r} (h : ¬ gi x1 8 = true) (e : f_X7_put N Sh nums hold sort size x1 x2 x3 = some r) : r = (-1, nums) := by
  unfold f_X7_put at e
  rw [sh_out h, bs, if_pos (show b2i false = 0 from rfl)] at e
  cases e
  rfl
theorem t_row {N : Nat} {Sh : Nat → Option Nat} {nums : Nat → Int32} {hold sort size x1 x2 x3 : Int32} {lay : Option Nat} {r} (h : ¬ gi x1 8 = true) (e : f_X7_row N Sh nums hold lay sort size x1 x2 x3 = some r) : r = (-1, nums, hold, lay, sort, size) := by
  unfold f_X7_row at e
  rw [sh_out h, bs, if_pos (show b2i false = 0 from rfl)] at e
  cases e
  rfl
theorem relT {x1 : Int32} {T : Nat → T5} {Y : Nat → Option (Nat × Int32 × Int32)} {f f' : Nat → Nat → Int32} {dd : Nat} (hdu : ∀ e, e < 8 → x1 = nI e → e = dd) (hdx : gi x1 8 = true → x1 = nI dd) (hT : ∀ k, k < 8 → ShR (T k) (Y k) f k) (hF : SFr x1 (f 5) (f 6) (f 7) (f 8) (f' 5) (f' 6) (f' 7) (f' 8)) (h9 : ∀ k, k < 8 → x1 ≠ nI k → f' 9 k = f 9 k) (h10 : ∀ k, k < 8 → x1 ≠ nI k → f' 10 k = f 10 k) {q' : T5} {y' : Option (Nat × Int32 × Int32)} (hin : x1 = nI dd → ShR q' y' f' dd) (hout : ¬ gi x1 8 = true → q' = T dd ∧ y' = Y dd) : ∀ k, k < 8 → ShR (updT T dd q' k) (updY Y dd y' k) f' k := by
  intro k hk
  unfold updT updY
  by_cases e : k = dd
  · subst e
    rw [if_pos rfl, if_pos rfl]
    by_cases hg : gi x1 8 = true
    · exact hin (hdx hg)
    · obtain ⟨e1, e2⟩ := hout hg
      have hx : x1 ≠ nI k := fun q => hg (by rw [q]; exact giT hk (by omega))
      rw [e1, e2]
      exact shF hF hk hx (h9 k hk hx) (h10 k hk hx) (hT k hk)
  · have hx : x1 ≠ nI k := fun q => e (hdu k hk q)
    rw [if_neg e, if_neg e]
    exact shF hF hk hx (h9 k hk hx) (h10 k hk hx) (hT k hk)
