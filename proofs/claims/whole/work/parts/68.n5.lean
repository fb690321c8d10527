/-! ===== slates laid down one behind another: what a row of widths does to the roof ===== -/
/-- how often each width is among the first j -/
def usd (c : Nat → Nat) : Nat → Nat → Nat
  | 0 => fun _ => 0
  | j + 1 => inc (usd c j) (c j)
def csum (ic c : Nat → Nat) : Nat → Nat
  | 0 => 0
  | j + 1 => csum ic c j + ic (c j)
def LA (s : Nat → Int32) (r : Nat) (c : Nat → Nat) (n : Nat) : Prop := 0 < n ∧ n ≤ 12 ∧ (∀ k, k < n → c k < wide s) ∧ (∀ v, v < 4 → usd c n v ≤ mny s v) ∧ csum (inch s) c (n - 1) < len s r ∧ len s r ≤ csum (inch s) c n
theorem usd_mono {c : Nat → Nat} {v : Nat} : ∀ {n j : Nat}, j ≤ n → usd c j v ≤ usd c n v
  | 0, j, h => by rw [show j = 0 by omega]; exact Nat.le_refl _
  | n + 1, j, h => by
    by_cases e : j = n + 1
    · rw [e]; exact Nat.le_refl _
    · have := usd_mono (c := c) (v := v) (n := n) (j := j) (by omega)
      have h2 : usd c (n + 1) v = if v = c n then usd c n v + 1 else usd c n v := rfl
      rw [h2]
      split <;> omega
theorem usd_lt {c : Nat → Nat} {n j : Nat} (h : j < n) : usd c j (c j) < usd c n (c j) := by
  have h1 := usd_mono (c := c) (v := c j) (n := n) (j := j + 1) h
  have h2 : usd c (j + 1) (c j) = if c j = c j then usd c j (c j) + 1 else usd c j (c j) := rfl
  rw [if_pos rfl] at h2
  omega
theorem csum5 {ic c : Nat → Nat} {n : Nat} : ∀ j, (∀ k, k < j → 5 ≤ ic (c k)) → 5 * j ≤ csum ic c j
  | 0, _ => Nat.zero_le _
  | j + 1, h => by
    have h1 := csum5 (n := n) j (fun k hk => h k (by omega))
    have h2 := h j (by omega)
    show 5 * (j + 1) ≤ csum ic c j + ic (c j)
    omega
def layJ (s : Nat → Int32) (r : Nat) (c : Nat → Nat) : Nat → (Nat → Int32)
  | 0 => s
  | j + 1 => decS (upd (layJ s r c j) (15 + 14 * r + 2 + j) (nI (c j))) (c j)
def layS (s : Nat → Int32) (r : Nat) (c : Nat → Nat) (n : Nat) : Nat → Int32 := upd (layJ s r c n) (15 + 14 * r + 1) (nI n)
/-- what the roof is after j slates -/
theorem layJ_all {s : Nat → Int32} {r : Nat} {c : Nat → Nat} (h : Sm s) (hr : r < 6) {n : Nat} (hn : n ≤ 12) (hc : ∀ k, k < n → c k < 4) (hu : ∀ v, v < 4 → usd c n v ≤ mny s v) : ∀ j, j ≤ n →
    Sm (layJ s r c j) ∧ (∀ k, k < 99 → (∀ v, v < 4 → k ≠ 3 + 3 * v + 1) → (∀ e, e < j → k ≠ 15 + 14 * r + 2 + e) → layJ s r c j k = s k) ∧ (∀ v, v < 4 → mny (layJ s r c j) v = mny s v - usd c j v) ∧ (∀ e, e < j → layJ s r c j (15 + 14 * r + 2 + e) = nI (c e)) := by
  intro j
  induction j with
  | zero => intro _; exact ⟨h, fun k _ _ _ => rfl, fun v _ => rfl, fun e he => by omega⟩
  | succ j ih =>
    intro hj
    obtain ⟨i1, i2, i3, i4⟩ := ih (by omega)
    have hcj := hc j (by omega)
    have hub := usd_lt (c := c) (n := n) (j := j) (by omega)
    have huc := hu (c j) hcj
    have S1 : Sm (upd (layJ s r c j) (15 + 14 * r + 2 + j) (nI (c j))) := i1.upd (by omega)
    have hm1 : ∀ v, v < 4 → mny (upd (layJ s r c j) (15 + 14 * r + 2 + j) (nI (c j))) v = mny s v - usd c j v := fun v hv => by
      rw [← i3 v hv]
      exact rN_ne (by omega)
    refine ⟨decS_Sm S1 (by omega), fun k hk h1 h2 => ?_, fun v hv => ?_, fun e he => ?_⟩
    · show decS _ (c j) k = _
      unfold decS
      rw [pk_un (h1 (c j) hcj), pk_un (h2 j (by omega))]
      exact i2 k hk h1 (fun e he => h2 e (by omega))
    · show mny (decS _ (c j)) v = _
      rw [decS_mny S1 (by omega)]
      unfold dec
      have h2 : usd c (j + 1) v = if v = c j then usd c j v + 1 else usd c j v := rfl
      rw [h2, hm1 v hv]
      split <;> omega
    · show decS _ (c j) _ = _
      unfold decS
      rw [pk_un (by omega)]
      by_cases e2 : e = j
      · subst e2
        rw [pk_us]
      · rw [pk_un (by omega)]
        exact i4 e (by omega)
theorem layS_at {s : Nat → Int32} {r : Nat} {c : Nat → Nat} (h : Sm s) (hr : r < 6) {n : Nat} (hn : n ≤ 12) (hc : ∀ k, k < n → c k < 4) (hu : ∀ v, v < 4 → usd c n v ≤ mny s v) {k : Nat} (hk : k < 99) (h1 : ∀ v, v < 4 → k ≠ 3 + 3 * v + 1) (h2 : ∀ e, e < n → k ≠ 15 + 14 * r + 2 + e) (h3 : k ≠ 15 + 14 * r + 1) : rN (layS s r c n) k = rN s k := by
  unfold rN layS
  rw [pk_un h3, (layJ_all h hr hn hc hu n (Nat.le_refl _)).2.1 k hk h1 h2]
theorem layS_all {s : Nat → Int32} {r : Nat} {c : Nat → Nat} (h : Sm s) (hr : r < 6) {n : Nat} (hn : n ≤ 12) (hc : ∀ k, k < n → c k < 4) (hu : ∀ v, v < 4 → usd c n v ≤ mny s v) :
    Sm (layS s r c n) ∧ (∀ v, v < 4 → inch (layS s r c n) v = inch s v) ∧ (∀ v, v < 4 → wor (layS s r c n) v = wor s v) ∧ wide (layS s r c n) = wide s ∧ high (layS s r c n) = high s ∧ lapn (layS s r c n) = lapn s ∧ (∀ q, q < 6 → len (layS s r c n) q = len s q) ∧ (∀ q, q < 6 → ld (layS s r c n) q = if q = r then n else ld s q) ∧ (∀ v, v < 4 → mny (layS s r c n) v = mny s v - usd c n v) ∧ (∀ q e, q < 6 → e < 12 → sl (layS s r c n) q e = if q = r ∧ e < n then c e else sl s q e) := by
  obtain ⟨i1, i2, i3, i4⟩ := layJ_all h hr hn hc hu n (Nat.le_refl _)
  refine ⟨i1.upd (by omega), fun v hv => layS_at h hr hn hc hu (by omega) (by omega) (by omega) (by omega), fun v hv => layS_at h hr hn hc hu (by omega) (by omega) (by omega) (by omega), layS_at h hr hn hc hu (by omega) (by omega) (by omega) (by omega), layS_at h hr hn hc hu (by omega) (by omega) (by omega) (by omega), layS_at h hr hn hc hu (by omega) (by omega) (by omega) (by omega), fun q hq => layS_at h hr hn hc hu (by omega) (by omega) (by omega) (by omega), fun q hq => ?_, fun v hv => ?_, fun q e hq he => ?_⟩
  · by_cases e : q = r
    · subst e
      rw [if_pos rfl]
      exact rN_eq (by omega)
    · rw [if_neg e]
      exact layS_at h hr hn hc hu (by omega) (by omega) (by omega) (by omega)
  · rw [← i3 v hv]
    exact rN_ne (by omega)
  · by_cases e2 : q = r ∧ e < n
    · rw [if_pos e2]
      obtain ⟨e3, e4⟩ := e2
      subst e3
      have hc4 := hc e e4
      show rN (layS s q c n) (15 + 14 * q + 2 + e) = c e
      unfold rN layS
      rw [pk_un (by omega), i4 e e4, nI_clamp (by omega)]
    · rw [if_neg e2]
      exact layS_at h hr hn hc hu (by omega) (by omega) (by omega) (by omega)
theorem sumIn_cong {s s' : Nat → Int32} {q q' : Nat} : ∀ j, (∀ k, k < j → inch s' (sl s' q' k) = inch s (sl s q k)) → sumIn s' q' j = sumIn s q j
  | 0, _ => rfl
  | j + 1, h => by
    show sumIn s' q' j + inch s' (sl s' q' j) = sumIn s q j + inch s (sl s q j)
    rw [sumIn_cong j (fun k hk => h k (by omega)), h j (by omega)]
theorem sumIn_csum {s s' : Nat → Int32} {q : Nat} {c : Nat → Nat} : ∀ j, (∀ k, k < j → inch s' (sl s' q k) = inch s (c k)) → sumIn s' q j = csum (inch s) c j
  | 0, _ => rfl
  | j + 1, h => by
    show sumIn s' q j + inch s' (sl s' q j) = csum (inch s) c j + inch s (c j)
    rw [sumIn_csum j (fun k hk => h k (by omega)), h j (by omega)]
theorem Ok.lay {s : Nat → Int32} (O : Ok s) {r : Nat} {c : Nat → Nat} {n : Nat} (hr : r < high s) (L : LA s r c n) : Ok (layS s r c n) ∧ (∀ v, v < 4 → inch (layS s r c n) v = inch s v) ∧ wide (layS s r c n) = wide s ∧ high (layS s r c n) = high s := by
  have h6 := O.h6
  have hw := O.w4
  obtain ⟨L0, L1, L2, L3, L4, L5⟩ := L
  have hc4 : ∀ k, k < n → c k < 4 := fun k hk => Nat.lt_of_lt_of_le (L2 k hk) hw
  obtain ⟨a1, a2, a3, a4, a5, a6, a7, a8, a9, a10⟩ := layS_all O.S (show r < 6 by omega) L1 hc4 L3
  refine ⟨⟨⟨a1, by rw [a4]; exact hw, fun v hv => ?_, fun q hq => ?_, fun q k hq hk => ?_⟩, fun v hv => ?_, fun v u hv hu he => ?_, fun v hv => ?_, by rw [a5]; exact h6, fun q hq => ?_, fun q k hq hk => ?_, fun q hq hl => ?_⟩, a2, a4, a5⟩
  · rw [a4] at hv
    rw [a2 v (by omega)]
    exact O.i5 v hv
  · rw [a8 q hq]
    have := O.l12 q hq
    split <;> omega
  · have hl := O.l12 q hq
    rw [a8 q hq] at hk
    by_cases e : q = r
    · rw [if_pos e] at hk
      rw [a10 q k hq (by omega), if_pos ⟨e, hk⟩]
      exact hc4 k hk
    · rw [if_neg e] at hk
      rw [a10 q k hq (by omega), if_neg (fun z => e z.1)]
      exact O.sl4 q k hq hk
  · rw [a4] at hv
    rw [a2 v (by omega)]
    exact O.i30 v hv
  · rw [a4] at hv hu
    rw [a2 v (by omega), a2 u (by omega)] at he
    exact O.dist v u hv hu he
  · rw [a9 v hv]
    have := O.m12 v hv
    omega
  · rw [a5] at hq
    rw [a7 q (by omega)]
    exact O.ln q hq
  · have hl := O.l12 q hq
    rw [a8 q hq] at hk
    rw [a4]
    by_cases e : q = r
    · rw [if_pos e] at hk
      rw [a10 q k hq (by omega), if_pos ⟨e, hk⟩]
      exact L2 k hk
    · rw [if_neg e] at hk
      rw [a10 q k hq (by omega), if_neg (fun z => e z.1)]
      exact O.slw q k hq hk
  · rw [a5] at hq
    have hl12 := O.l12 q (by omega)
    rw [a8 q (by omega)] at hl ⊢
    rw [a7 q (by omega)]
    by_cases e : q = r
    · subst e
      rw [if_pos rfl]
      have hs : ∀ j, j ≤ n → sumIn (layS s q c n) q j = csum (inch s) c j := fun j hj => sumIn_csum j (fun k hk => by
        rw [a10 q k (by omega) (by omega), if_pos ⟨rfl, by omega⟩, a2 _ (hc4 k (by omega))])
      rw [hs (n - 1) (by omega), hs n (Nat.le_refl _)]
      exact ⟨L4, L5⟩
    · rw [if_neg e] at hl ⊢
      have hs : ∀ j, j ≤ ld s q → sumIn (layS s r c n) q j = sumIn s q j := fun j hj => sumIn_cong j (fun k hk => by
        have := O.sl4 q k (by omega) (by omega)
        rw [a10 q k (by omega) (by omega), if_neg (fun z => e z.1), a2 _ this])
      rw [hs _ (by omega), hs _ (Nat.le_refl _)]
      exact O.sums q hq hl
