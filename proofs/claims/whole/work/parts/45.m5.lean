/-! ===== the reference's way through all fills ===== -/
/-- what a way through the fills wants of the roof -/
def Gd (s : Nat → Int32) : Prop := Sm s ∧ wide s ≤ 4 ∧ (∀ w, w < wide s → 5 ≤ inch s w) ∧ (∀ q, q < 6 → ld s q ≤ 12) ∧ (∀ q k, q < 6 → k < ld s q → sl s q k < 4)
theorem Gd.dec {s : Nat → Int32} (h : Gd s) {w : Nat} (hw : w < wide s) : Gd (decS s w) := by
  obtain ⟨h1, h2, h3, h4, h5⟩ := h
  refine ⟨decS_Sm h1 (by omega), by rw [decS_wide]; exact h2, fun v hv => ?_, fun q hq => ?_, fun q k hq hk => ?_⟩
  · rw [decS_wide] at hv
    rw [decS_inch]
    exact h3 v hv
  · rw [decS_ld (by omega)]
    exact h4 q hq
  · rw [decS_ld (by omega)] at hk
    rw [decS_sl (by omega)]
    exact h5 q k hq hk
theorem e_leaf {N : Nat} (hN : 20 < N) {s way found : Nat → Int32} {wr wt ws eb fs fw tk : Int32} {REC : (Nat → Int32) → (Nat → Int32) → (Nat → Int32) → Int32 → Int32 → Int32 → Int32 → Int32 → Int32 → Int32 → Option ((Nat → Int32) × (Nat → Int32) × (Nat → Int32) × Int32 × Int32 × Int32)}
    {t : Bool} (htk : tk = 1 ↔ t = true) {pre : List Nat} {v : Nat} (hk : pre.length ≤ 16) (hv : v < 2 ^ 30) (hp : ∀ j, j < pre.length → way j = nI (pre.getD j 0)) {o : Option (List Nat × Nat)} (hF : FG o found fs fw) :
    ∃ found' fs' fw', (if fs < 0 then f_X8_fillsFrom_L74 N s way wr wt ws eb (nI pre.length) (nI v) REC (nI pre.length) N 0 found else (if tk = 1 then (if fw ≤ nI v then some (s, way, found, ws, fs, fw) else f_X8_fillsFrom_L74 N s way wr wt ws eb (nI pre.length) (nI v) REC (nI pre.length) N 0 found) else some (s, way, found, ws, fs, fw))) = some (s, way, found', ws, fs', fw')
      ∧ FG (vsel t o pre v) found' fs' fw' := by
  have hL := e_L74 (N := N) (s := s) (way := way) (wr := wr) (wt := wt) (ws := ws) (eb := eb) (fs := nI pre.length) (fw := nI v) (REC := REC) hk N 0 found (Nat.zero_le _) (by omega)
  have hnew : FG (some (pre, v)) (fun i => if 0 ≤ i ∧ i < pre.length then way i else found i) (nI pre.length) (nI v) := by
    refine ⟨hk, rfl, rfl, hv, fun j hj => ?_⟩
    show (if 0 ≤ j ∧ j < pre.length then way j else found j) = _
    rw [if_pos ⟨Nat.zero_le _, hj⟩]
    exact hp j hj
  cases o with
  | none =>
    refine ⟨_, _, _, ?_, hnew⟩
    rw [if_pos (show fs < 0 from hF)]
    exact hL
  | some q =>
    obtain ⟨h1, h2, h3, h4, h5⟩ := hF
    have hpos : ¬ fs < 0 := by rw [h2]; exact nI_pos (by omega)
    rw [if_neg hpos]
    by_cases ht : t = true
    · rw [if_pos (htk.mpr ht)]
      by_cases hlt : v < q.2
      · refine ⟨fun i => if 0 ≤ i ∧ i < pre.length then way i else found i, nI pre.length, nI v, ?_, ?_⟩
        · rw [if_neg (by rw [h3]; exact nI_ge hlt (by omega))]
          exact hL
        · show FG (if t = true ∧ v < q.2 then some (pre, v) else some q) _ _ _
          rw [if_pos ⟨ht, hlt⟩]
          exact hnew
      · refine ⟨found, fs, fw, ?_, ?_⟩
        · rw [if_pos (by rw [h3]; exact nI_le (by omega) (by omega))]
        · show FG (if t = true ∧ v < q.2 then some (pre, v) else some q) _ _ _
          rw [if_neg (fun z => hlt z.2)]
          exact ⟨h1, h2, h3, h4, h5⟩
    · refine ⟨found, fs, fw, ?_, ?_⟩
      · rw [if_neg (fun z => ht (htk.mp z))]
      · show FG (if t = true ∧ v < q.2 then some (pre, v) else some q) _ _ _
        rw [if_neg (fun z => ht z.1)]
        exact ⟨h1, h2, h3, h4, h5⟩
theorem getD_last : ∀ (p : List Nat), p ≠ [] → p.getLast? = some (p.getD (p.length - 1) 0)
  | [], h => absurd rfl h
  | [a], _ => rfl
  | a :: b :: p, _ => by
    rw [List.getLast?_cons_cons, getD_last (b :: p) (by simp)]
    rfl
theorem getD_app (p : List Nat) (w j : Nat) (h : j < p.length) : (p ++ [w]).getD j 0 = p.getD j 0 := by
  rw [List.getD_eq_getElem?_getD, List.getD_eq_getElem?_getD, List.getElem?_append_left h]
theorem getD_end (p : List Nat) (w : Nat) : (p ++ [w]).getD p.length 0 = w := by
  rw [List.getD_eq_getElem?_getD, List.getElem?_append_right (Nat.le_refl _)]
  simp
theorem foldl_map_w {β : Type} (f : β → List Nat → β) (w : Nat) (L : List (List Nat)) (b : β) : (L.map (fun q => w :: q)).foldl f b = L.foldl (fun b q => f b (w :: q)) b := List.foldl_map
