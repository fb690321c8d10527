/-! ===== the reference finds fills ===== -/
theorem flw_cong {g h : Nat → List (List Nat)} : ∀ {k j : Nat}, (∀ v, j ≤ v → v < j + k → g v = h v) → flw g j k = flw h j k
  | 0, _, _ => rfl
  | k + 1, j, e => by
    rw [flw, flw, e j (Nat.le_refl _) (by omega), flw_cong (k := k) (j := j + 1) (fun v h1 h2 => e v (by omega) (by omega))]
theorem fl_fuel {W : Nat} {ic : Nat → Nat} {my : Nat → Bool} {to : Nat} (hic : ∀ w, w < W → 5 ≤ ic w) : ∀ (d e : Nat) (m : Nat → Nat) (p : Nat), p ≤ to → (to - p) / 5 < d → (to - p) / 5 < e → fl W ic my to d m p = fl W ic my to e m p := by
  intro d
  induction d with
  | zero => intro e m p h1 h2; omega
  | succ d ih =>
    intro e m p h1 h2 h3
    obtain ⟨e, rfl⟩ : ∃ g, e = g + 1 := ⟨e - 1, by omega⟩
    rw [fl, fl]
    by_cases hp : p = to
    · rw [if_pos hp, if_pos hp]
    · rw [if_neg hp, if_neg hp]
      refine flw_cong (fun w _ hw => ?_)
      by_cases hs : stp ic my to m p w = true
      · rw [if_pos hs, if_pos hs]
        have h5 := hic w (by omega)
        have hle : p + ic w ≤ to := by
          unfold stp at hs
          simp only [Bool.and_eq_true, decide_eq_true_eq] at hs
          exact hs.2.1
        rw [ih e (dec m w) (p + ic w) hle (by omega) (by omega)]
      · rw [if_neg hs, if_neg hs]
/-- all fills of a stretch of a row -/
def flS (s : Nat → Int32) (r src to : Nat) : List (List Nat) := fl (wide s) (inch s) (mayB s r) to 61 (mny s) src
def selS (t : Bool) (s : Nat → Int32) (L : List (List Nat)) : Option (List Nat × Nat) := L.foldl (fun o q => vsel t o q (wsum (wor s) q)) none
theorem e_findFills {N : Nat} (hN : 20 < N) {s : Nat → Int32} (hG : Gd s) {r src to : Nat} (hr : r < 6) (hto : to ≤ 60) (hsrc : src < to) {ebI : Int32} {eb : Option Nat} (heb : (ebI < 0 ∧ eb = none) ∨ ∃ e, eb = some e ∧ ebI = nI e ∧ e < 100) {tk : Int32} {t : Bool} (htk : tk = 1 ↔ t = true) {way found : Nat → Int32} {wr wt ws fs fw : Int32} :
    ∃ way' found' fs' fw', f_X8_findFills N s way found wr wt ws ebI fs fw (nI r) (nI src) (nI to) tk = some (nI (cnt eb (flS s r src to)), s, way', found', nI r, nI to, nI (cnt eb (flS s r src to)), fs', fw') ∧ FG (selS t s (flS s r src to)) found' fs' fw' := by
  unfold f_X8_findFills
  obtain ⟨w', f', y', s', x', e1, _, e3⟩ := e_fillsFrom (N := N) hN hr (show to ≤ 99 by omega) heb htk 16 s way found 0 (-1) fw src [] 0 (0, none) hG (by omega) (by omega) (by simp; omega) (fun h => by omega) (fun j hj => by cases hj) (by omega) ⟨rfl, show (-1 : Int32) < 0 by decide⟩
  rw [fold_cnt] at e3
  have hfl : fl (wide s) (inch s) (mayB s r) to 16 (mny s) src = flS s r src to := fl_fuel hG.2.2.1 16 61 _ _ (by omega) (by omega) (by omega)
  rw [hfl, Nat.zero_add] at e3
  obtain ⟨g1, g2⟩ := e3
  have e1' : f_X8_fillsFrom N (nI r) (nI to) ebI 16 s way found 0 (-1) fw (nI src) 0 0 tk = some (s, w', f', y', s', x') := e1
  rw [e1', bs]
  refine ⟨w', f', s', x', ?_, g2⟩
  have g1 : y' = nI (cnt eb (flS s r src to)) := g1
  rw [g1]
