/-! ===== the fills of a stretch, as a list in the order of widths ===== -/
def dec (m : Nat → Nat) (w : Nat) : Nat → Nat := fun v => if v = w then m v - 1 else m v
def flw (g : Nat → List (List Nat)) (j : Nat) : Nat → List (List Nat)
  | 0 => []
  | k + 1 => g j ++ flw g (j + 1) k
def stp (ic : Nat → Nat) (my : Nat → Bool) (to : Nat) (m : Nat → Nat) (pl w : Nat) : Bool := decide (m w ≠ 0) && (decide (pl + ic w ≤ to) && (decide (pl + ic w = to) || my (pl + ic w)))
def fl (W : Nat) (ic : Nat → Nat) (my : Nat → Bool) (to : Nat) : Nat → (Nat → Nat) → Nat → List (List Nat)
  | 0, _, _ => []
  | d + 1, m, pl => if pl = to then [[]] else flw (fun w => if stp ic my to m pl w = true then (fl W ic my to d (dec m w) (pl + ic w)).map (fun q => w :: q) else []) 0 W
def wsum (wr : Nat → Nat) : List Nat → Nat
  | [] => 0
  | w :: q => wr w + wsum wr q
/-- a fill is met: it is counted, if it ends as it must; it is kept, if it is the first one, or (t) worth less -/
def vsel (t : Bool) (o : Option (List Nat × Nat)) (p : List Nat) (v : Nat) : Option (List Nat × Nat) := match o with
  | none => some (p, v)
  | some q => if t = true ∧ v < q.2 then some (p, v) else some q
def vis (eb : Option Nat) (t : Bool) (τ : Nat × Option (List Nat × Nat)) (p : List Nat) (v : Nat) : Nat × Option (List Nat × Nat) := (τ.1 + (if eb = none ∨ p.getLast? = eb then 1 else 0), vsel t τ.2 p v)
/-- the kept fill in the reference's numbers -/
def FG (o : Option (List Nat × Nat)) (found : Nat → Int32) (fs fw : Int32) : Prop := match o with
  | none => fs < 0
  | some q => q.1.length ≤ 16 ∧ fs = nI q.1.length ∧ fw = nI q.2 ∧ q.2 < 2 ^ 30 ∧ ∀ j, j < q.1.length → found j = nI (q.1.getD j 0)
/-- the reference's numbers and what they stand for -/
def FSt (τ : Nat × Option (List Nat × Nat)) (found : Nat → Int32) (ways fs fw : Int32) : Prop := ways = nI τ.1 ∧ FG τ.2 found fs fw
theorem e_L74 {N : Nat} {s way : Nat → Int32} {wr wt ws eb fs fw : Int32} {REC : (Nat → Int32) → (Nat → Int32) → (Nat → Int32) → Int32 → Int32 → Int32 → Int32 → Int32 → Int32 → Int32 → Option ((Nat → Int32) × (Nat → Int32) × (Nat → Int32) × Int32 × Int32 × Int32)} {k : Nat} (hk : k ≤ 16) : ∀ (n j : Nat) (found : Nat → Int32), j ≤ k → k < j + n →
    f_X8_fillsFrom_L74 N s way wr wt ws eb fs fw REC (nI k) n (nI j) found = some (s, way, fun i => if j ≤ i ∧ i < k then way i else found i, ws, fs, fw) := by
  intro n
  induction n with
  | zero => intro j found h1 h2; omega
  | succ n ih =>
    intro j found h1 h2
    rw [f_X8_fillsFrom_L74]
    by_cases hj : j = k
    · rw [hj, if_pos (nI_le (Nat.le_refl _) (by omega))]
      congr 4
      funext i
      rw [if_neg (by omega)]
    · rw [if_neg (nI_ge (by omega) (by omega)), ck_nI (by omega) (by omega), ck_nI (by omega) (by omega), cl_nI (by omega), nI_1, ih (j + 1) _ (by omega) (by omega)]
      congr 4
      funext i
      by_cases hi : i = j
      · subst hi
        rw [if_neg (by omega), if_pos (by omega), pk_us]
      · rw [pk_un hi]
        by_cases h3 : j + 1 ≤ i ∧ i < k
        · rw [if_pos h3, if_pos (by omega)]
        · rw [if_neg h3, if_neg (by omega)]
/-- one slate of a width fewer in the heap -/
def decS (s : Nat → Int32) (w : Nat) : Nat → Int32 := upd s (3 + 3 * w + 1) (nI (mny s w - 1))
theorem rN_ne {s : Nat → Int32} {k j : Nat} {v : Int32} (h : j ≠ k) : rN (upd s k v) j = rN s j := by
  unfold rN
  rw [pk_un h]
theorem rN_eq {s : Nat → Int32} {k n : Nat} (h : n < 2 ^ 31) : rN (upd s k (nI n)) k = n := by
  unfold rN
  rw [pk_us, nI_clamp h]
theorem Sm.upd {s : Nat → Int32} (h : Sm s) {k n : Nat} (hn : n ≤ 99) : Sm (upd s k (nI n)) := by
  intro j hj
  by_cases e : j = k
  · subst e
    rw [rN_eq (by omega), pk_us]
    exact ⟨rfl, hn⟩
  · rw [rN_ne e, pk_un e]
    exact h j hj
theorem mny_le {s : Nat → Int32} (h : Sm s) {w : Nat} (hw : w < 31) : mny s w ≤ 99 := h.le (by omega)
theorem decS_Sm {s : Nat → Int32} (h : Sm s) {w : Nat} (hw : w < 31) : Sm (decS s w) := h.upd (by have := mny_le h hw; omega)
theorem decS_inch {s : Nat → Int32} {w : Nat} : inch (decS s w) = inch s := by
  funext v
  exact rN_ne (by omega)
theorem decS_wor {s : Nat → Int32} {w : Nat} : wor (decS s w) = wor s := by
  funext v
  exact rN_ne (by omega)
theorem decS_mny {s : Nat → Int32} (h : Sm s) {w : Nat} (hw : w < 31) : mny (decS s w) = dec (mny s) w := by
  funext v
  unfold dec
  by_cases e : v = w
  · subst e
    rw [if_pos rfl]
    exact rN_eq (by have := mny_le h hw; omega)
  · rw [if_neg e]
    exact rN_ne (by omega)
theorem decS_wide {s : Nat → Int32} {w : Nat} : wide (decS s w) = wide s := rN_ne (by omega)
theorem decS_lapn {s : Nat → Int32} {w : Nat} : lapn (decS s w) = lapn s := rN_ne (by omega)
theorem decS_len {s : Nat → Int32} {w r : Nat} (hw : w < 4) : len (decS s w) r = len s r := rN_ne (by omega)
theorem decS_ld {s : Nat → Int32} {w r : Nat} (hw : w < 4) : ld (decS s w) r = ld s r := rN_ne (by omega)
theorem decS_sl {s : Nat → Int32} {w r i : Nat} (hw : w < 4) : sl (decS s w) r i = sl s r i := rN_ne (by omega)
theorem decS_sumIn {s : Nat → Int32} {w r : Nat} (hw : w < 4) : ∀ j, sumIn (decS s w) r j = sumIn s r j
  | 0 => rfl
  | j + 1 => by
    show sumIn (decS s w) r j + inch (decS s w) (sl (decS s w) r j) = sumIn s r j + inch s (sl s r j)
    rw [decS_sumIn hw j, decS_inch, decS_sl hw]
theorem decS_mayB {s : Nat → Int32} {w r : Nat} (hw : w < 4) : mayB (decS s w) r = mayB s r := by
  funext x
  unfold mayB
  have e : okJ (decS s w) (r - 1) x = okJ s (r - 1) x := by
    funext i
    unfold okJ
    rw [decS_lapn, decS_sumIn hw]
  rw [e, decS_ld hw]
theorem e_leaves1 {N : Nat} {s : Nat → Int32} (h : Sm s) {w : Nat} (hw : w < 31) (hm : mny s w ≠ 0) : f_X8_leaves N s (nI w) 1 = some (decS s w) := by
  unfold f_X8_leaves decS
  rw [l3, l1, pk_mul, nI_add, nI_add, ck_nI (by omega) (by omega), ck_nI (by omega) (by omega), cl_nI (by omega), h.at (by omega)]
  show some (upd s _ (nI (mny s w) - nI 1)) = _
  rw [pk_sub (by omega)]
theorem e_leavesm {N : Nat} {s : Nat → Int32} (h : Sm s) {w : Nat} (hw : w < 31) (hm : mny s w ≠ 0) : f_X8_leaves N (decS s w) (nI w) (-1) = some s := by
  unfold f_X8_leaves
  have hb := mny_le h hw
  rw [l3, l1, pk_mul, nI_add, nI_add, ck_nI (by omega) (by omega), ck_nI (by omega) (by omega), cl_nI (by omega)]
  have e1 : decS s w (3 + 3 * w + 1) = nI (mny s w - 1) := pk_us
  have e2 : nI (mny s w - 1) - (-nI 1) = nI (mny s w) := by
    rw [Int32.sub_neg, nI_add, show mny s w - 1 + 1 = mny s w by omega]
  rw [e1, e2]
  unfold decS
  rw [fa_upd_twice, fa_upd_same]
  exact h.at (by omega)
