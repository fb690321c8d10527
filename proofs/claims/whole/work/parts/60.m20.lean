/-! ===== the first fill, the best fill ===== -/
theorem fold_cnt (eb : Option Nat) (t : Bool) (wr : Nat → Nat) : ∀ (L : List (List Nat)) (τ : Nat × Option (List Nat × Nat)), (L.foldl (fun τ q => vis eb t τ ([] ++ q) (0 + wsum wr q)) τ) = (τ.1 + cnt eb L, L.foldl (fun o q => vsel t o q (wsum wr q)) τ.2)
  | [], τ => rfl
  | q :: L, τ => by
    rw [List.foldl_cons, fold_cnt eb t wr L, List.foldl_cons, List.nil_append, Nat.zero_add]
    show (τ.1 + (if eb = none ∨ q.getLast? = eb then 1 else 0) + cnt eb L, _) = (τ.1 + ((if eb = none ∨ q.getLast? = eb then 1 else 0) + cnt eb L), _)
    rw [Nat.add_assoc]
    rfl
theorem sel_false_some (wr : Nat → Nat) : ∀ (L : List (List Nat)) (a : List Nat × Nat), L.foldl (fun o q => vsel false o q (wsum wr q)) (some a) = some a
  | [], _ => rfl
  | q :: L, a => by
    rw [List.foldl_cons]
    have e : vsel false (some a) q (wsum wr q) = some a := by
      show (if false = true ∧ wsum wr q < a.2 then some (q, wsum wr q) else some a) = some a
      exact if_neg (fun z => Bool.false_ne_true z.1)
    rw [e]
    exact sel_false_some wr L a
theorem sel_false (wr : Nat → Nat) (L : List (List Nat)) : L.foldl (fun o q => vsel false o q (wsum wr q)) none = L.head?.map (fun q => (q, wsum wr q)) := by
  cases L with
  | nil => rfl
  | cons q L =>
    rw [List.foldl_cons]
    exact sel_false_some wr L (q, wsum wr q)
def fnd (wr : Nat → Nat) (v : Nat) (L : List (List Nat)) : Option (List Nat) := L.find? (fun q => decide (wsum wr q = v))
theorem fnd_cons_eq {wr : Nat → Nat} {v : Nat} {q : List Nat} {L : List (List Nat)} (h : wsum wr q = v) : fnd wr v (q :: L) = some q := by
  unfold fnd
  rw [List.find?_cons_of_pos (by simpa using h)]
theorem fnd_cons_ne {wr : Nat → Nat} {v : Nat} {q : List Nat} {L : List (List Nat)} (h : wsum wr q ≠ v) : fnd wr v (q :: L) = fnd wr v L := by
  unfold fnd
  rw [List.find?_cons_of_neg (by simpa using h)]
theorem sel_true_some (wr : Nat → Nat) : ∀ (L : List (List Nat)) (q0 : List Nat) (u0 : Nat), u0 < 1000000 → L.foldl (fun o q => vsel true o q (wsum wr q)) (some (q0, u0)) = if mw wr L < u0 then (fnd wr (mw wr L) L).map (fun q => (q, wsum wr q)) else some (q0, u0)
  | [], q0, u0, h => by
    rw [if_neg (show ¬ mw wr [] < u0 by show ¬ 1000000 < u0; omega)]
    rfl
  | q :: L, q0, u0, h => by
    rw [List.foldl_cons]
    have hm : mw wr (q :: L) = min (wsum wr q) (mw wr L) := rfl
    by_cases hq : wsum wr q < u0
    · have e : vsel true (some (q0, u0)) q (wsum wr q) = some (q, wsum wr q) := if_pos ⟨rfl, hq⟩
      rw [e, sel_true_some wr L q (wsum wr q) (by omega)]
      by_cases hl : mw wr L < wsum wr q
      · have e2 : mw wr (q :: L) = mw wr L := by omega
        rw [if_pos hl, e2, if_pos (by omega), fnd_cons_ne (by omega)]
      · have e2 : mw wr (q :: L) = wsum wr q := by omega
        rw [if_neg hl, e2, if_pos hq, fnd_cons_eq rfl]
        rfl
    · have e : vsel true (some (q0, u0)) q (wsum wr q) = some (q0, u0) := if_neg (fun z => hq z.2)
      rw [e, sel_true_some wr L q0 u0 h]
      by_cases hl : mw wr L < u0
      · have e2 : mw wr (q :: L) = mw wr L := by omega
        rw [if_pos hl, e2, if_pos hl, fnd_cons_ne (by omega)]
      · rw [if_neg hl, if_neg (by omega)]
theorem sel_true (wr : Nat → Nat) (L : List (List Nat)) (hb : ∀ q, q ∈ L → wsum wr q < 1000000) : L.foldl (fun o q => vsel true o q (wsum wr q)) none = (fnd wr (mw wr L) L).map (fun q => (q, wsum wr q)) := by
  cases L with
  | nil => rfl
  | cons q L =>
    rw [List.foldl_cons]
    have hq := hb q List.mem_cons_self
    have e : vsel true none q (wsum wr q) = some (q, wsum wr q) := rfl
    rw [e, sel_true_some wr L q (wsum wr q) hq]
    have hm : mw wr (q :: L) = min (wsum wr q) (mw wr L) := rfl
    by_cases hl : mw wr L < wsum wr q
    · have e2 : mw wr (q :: L) = mw wr L := by omega
      rw [if_pos hl, e2, fnd_cons_ne (by omega)]
    · have e2 : mw wr (q :: L) = wsum wr q := by omega
      rw [if_neg hl, e2, fnd_cons_eq rfl]
      rfl
theorem fnd_app (wr : Nat → Nat) (v : Nat) (A B : List (List Nat)) : fnd wr v (A ++ B) = (fnd wr v A).or (fnd wr v B) := by
  unfold fnd
  rw [List.find?_append]
theorem fnd_flw (wr : Nat → Nat) (v : Nat) (g : Nat → List (List Nat)) : ∀ {k j w : Nat}, j ≤ w → w < j + k → (∀ u, j ≤ u → u < w → fnd wr v (g u) = none) → fnd wr v (g w) ≠ none → fnd wr v (flw g j k) = fnd wr v (g w)
  | 0, j, w, h1, h2, _, _ => by omega
  | k + 1, j, w, h1, h2, h3, h4 => by
    rw [flw, fnd_app]
    by_cases e : j = w
    · subst e
      cases hq : fnd wr v (g j) with
      | none => exact absurd hq h4
      | some q => rfl
    · rw [h3 j (Nat.le_refl _) (by omega), Option.none_or]
      exact fnd_flw wr v g (by omega) (by omega) (fun u a b => h3 u (by omega) b) h4
theorem head_flw (g : Nat → List (List Nat)) : ∀ {k j w : Nat}, j ≤ w → w < j + k → (∀ u, j ≤ u → u < w → g u = []) → g w ≠ [] → (flw g j k).head? = (g w).head?
  | 0, j, w, h1, h2, _, _ => by omega
  | k + 1, j, w, h1, h2, h3, h4 => by
    rw [flw]
    by_cases e : j = w
    · subst e
      cases hq : g j with
      | nil => exact absurd hq h4
      | cons q L => rfl
    · rw [h3 j (Nat.le_refl _) (by omega), List.nil_append]
      exact head_flw g (by omega) (by omega) (fun u a b => h3 u (by omega) b) h4
theorem cnt_none_pos : ∀ L : List (List Nat), 0 < cnt none L ↔ L ≠ []
  | [] => ⟨fun h => absurd h (Nat.lt_irrefl 0), fun h => absurd rfl h⟩
  | q :: L => ⟨fun _ => List.cons_ne_nil _ _, fun _ => by
    show 0 < (if none = none ∨ q.getLast? = none then 1 else 0) + cnt none L
    rw [if_pos (Or.inl rfl)]
    omega⟩
/-- the least is there -/
theorem mw_mem (wr : Nat → Nat) : ∀ L : List (List Nat), mw wr L < 1000000 → fnd wr (mw wr L) L ≠ none
  | [], h => absurd h (Nat.lt_irrefl _)
  | q :: L, h => by
    have hm : mw wr (q :: L) = min (wsum wr q) (mw wr L) := rfl
    by_cases e : wsum wr q = mw wr (q :: L)
    · rw [fnd_cons_eq e]
      exact Option.some_ne_none _
    · have e2 : mw wr (q :: L) = mw wr L := by omega
      rw [fnd_cons_ne e, e2]
      exact mw_mem wr L (by omega)
theorem fnd_none_lt (wr : Nat → Nat) (v : Nat) : ∀ L : List (List Nat), v < mw wr L → fnd wr v L = none
  | [], _ => rfl
  | q :: L, h => by
    have hm : mw wr (q :: L) = min (wsum wr q) (mw wr L) := rfl
    rw [fnd_cons_ne (by omega)]
    exact fnd_none_lt wr v L (by omega)
theorem fnd_map (wr : Nat → Nat) (v w : Nat) : ∀ L : List (List Nat), fnd wr (wr w + v) (L.map (fun q => w :: q)) = (fnd wr v L).map (fun q => w :: q)
  | [] => rfl
  | q :: L => by
    rw [List.map_cons]
    by_cases e : wsum wr q = v
    · rw [fnd_cons_eq e, fnd_cons_eq (show wsum wr (w :: q) = wr w + v by show wr w + wsum wr q = _; omega)]
      rfl
    · rw [fnd_cons_ne e, fnd_cons_ne (show wsum wr (w :: q) ≠ wr w + v by show wr w + wsum wr q ≠ _; omega)]
      exact fnd_map wr v w L
