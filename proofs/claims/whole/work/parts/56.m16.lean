/-! ===== settle gives the recursion's values ===== -/
def remT (m τ : Nat → Nat) : Nat → Nat := fun v => m v - τ v
theorem rem_inc {m τ : Nat → Nat} {w : Nat} : remT m (inc τ w) = dec (remT m τ) w := by
  funext v
  unfold remT inc dec
  by_cases h : v = w
  · rw [if_pos h, if_pos h]
    show m v - (τ v + 1) = m v - τ v - 1
    omega
  · rw [if_neg h, if_neg h]
section SET2
variable {N W : Nat} {ic m wr : Nat → Nat} {fr : Nat → Bool} {src to aim : Nat} {inches many worth : Nat → Int32} {T : Nat → Nat → Nat} {n : Nat} {sos slots takes places steps values : Nat → Int32} {last : Int32} {ve : Nat → Nat}
/-- the value of a take -/
def gT (W : Nat) (ic m wr : Nat → Nat) (fr : Nat → Bool) (src to aim : Nat) (ve : Nat → Nat) (τ : Nat → Nat) : Nat := gv W ic wr fr to aim ve 61 (remT m τ) (plc ic src τ)
theorem vth_eq (hw : WI W ic src to) {τ : Nat → Nat} (hV : VT W ic m src to τ) {w : Nat} (hwW : w < W) : vthT ic m wr fr src to aim ve (gT W ic m wr fr src to aim ve) τ w = vthM ic wr fr to aim ve (remT m τ) (plc ic src τ) (fun w => gv W ic wr fr to aim ve 60 (dec (remT m τ) w) (plc ic src τ + ic w)) w := by
  unfold vthT vthM
  have hto := hw.2.1
  have hW := hw.1
  have h5 := hw.2.2.2.1 w hwW
  have e : remT m τ w = m w - τ w := rfl
  by_cases q1 : τ w < m w
  · rw [if_neg (fun z => z q1), if_neg (show ¬ remT m τ w = 0 by omega)]
    by_cases q2 : to < plc ic src τ + ic w
    · rw [if_pos q2, if_pos q2]
    · rw [if_neg q2, if_neg q2]
      by_cases q3 : plc ic src τ + ic w = to
      · rw [if_pos q3, if_pos q3]
      · rw [if_neg q3, if_neg q3]
        have eg : gT W ic m wr fr src to aim ve (inc τ w) = gv W ic wr fr to aim ve 60 (dec (remT m τ) w) (plc ic src τ + ic w) := by
          unfold gT
          rw [rem_inc, plc_inc (by omega)]
          exact gv_fuel (fun v hv => by have := hw.2.2.2.1 v hv; omega) 61 60 _ _ (by omega) (by omega) (by omega)
        rw [eg]
  · rw [if_pos q1, if_pos (show remT m τ w = 0 by omega)]
theorem gT_rec (hw : WI W ic src to) {τ : Nat → Nat} (hV : VT W ic m src to τ) : gT W ic m wr fr src to aim ve τ = acc aim (vthT ic m wr fr src to aim ve (gT W ic m wr fr src to aim ve) τ) W := by
  conv => lhs; unfold gT
  rw [gv]
  exact acc_cong W (fun w hwW => (vth_eq hw hV hwW).symm)
theorem gT_eq4 (hW : W ≤ 4) {τ υ : Nat → Nat} (h : eq4 τ υ) : gT W ic m wr fr src to aim ve τ = gT W ic m wr fr src to aim ve υ := by
  unfold gT
  rw [eq4_plc h]
  exact gv_cong 61 _ _ _ (fun w hw => by
    unfold remT
    rw [h w (by omega)])
theorem vth_bd (hw : WI W ic src to) (ha : aim < 3) (hve : ∀ w, w < W → ve w ≤ 1000000 ∧ (aim = 0 → ve w ≤ 1)) (hwr : ∀ w, w < W → wr w ≤ 99) {τ : Nat → Nat} (hV : VT W ic m src to τ) {w : Nat} (hwW : w < W) : vthT ic m wr fr src to aim ve (gT W ic m wr fr src to aim ve) τ w ≤ 200000000 := by
  have h5 := hw.2.2.2.1 w hwW
  have hp := hV.2.2
  have hto := hw.2.1
  have hgt : gT W ic m wr fr src to aim ve (inc τ w) ≤ 100000000 := by
    by_cases h0 : aim = 0
    · have := gv_count (wr := wr) (fr := fr) (to := to) (ve := ve) h0 (fun v hv => (hve v hv).2 h0) hw.1 (fun v hv => (hw.2.2.2.1 v hv).1) 61 12 (remT m (inc τ w)) (plc ic src (inc τ w)) (by omega)
      have e : (4 : Nat) ^ 12 = 16777216 := by decide
      unfold gT
      omega
    · unfold gT
      have hacc : ∀ (f : Nat → Nat) (j : Nat), acc aim f j ≤ 1000000 := by
        intro f j
        induction j with
        | zero =>
          show noV aim ≤ _
          unfold noV
          rw [if_neg h0]
          exact Nat.le_refl _
        | succ j ih =>
          show (if aim = 0 then acc aim f j + f j else min (acc aim f j) (f j)) ≤ _
          rw [if_neg h0]
          exact Nat.le_trans (Nat.min_le_left _ _) ih
      have := hacc (vthM ic wr fr to aim ve (remT m (inc τ w)) (plc ic src (inc τ w)) (fun v => gv W ic wr fr to aim ve 60 (dec (remT m (inc τ w)) v) (plc ic src (inc τ w) + ic v))) W
      rw [gv]
      omega
  have hn : noV aim ≤ 1000000 := by
    unfold noV
    split <;> omega
  have h1 := (hve w hwW).1
  have h2 := hwr w hwW
  unfold vthT
  split
  · omega
  · split
    · split <;> omega
    · split
      · omega
      · split
        · split <;> omega
        · omega
theorem c_settle_g (hN : 5000 < N) (hw : WI W ic src to) (h : TI W ic m fr src to T n sos slots takes places) (hC : CLO W ic m fr src to T n n 0) (hm : ∀ v, v < 4 → m v ≤ 99) (hi : ∀ v, v < 4 → inches v = nI (ic v)) (hma : ∀ v, v < 4 → many v = nI (m v)) (hwo : ∀ v, v < 4 → worth v = nI (wr v)) (hwr : ∀ w, w < W → wr w ≤ 99) (hsteps : ∀ v, v < 4 → steps v = nI (stepsN (rdx W ic m) v)) (ha : aim < 3)
    (hve : ∀ w, w < W → f_X6_valueAtEnd N (nI aim) last worth (nI w) = some (nI (ve w))) (hve2 : ∀ w, w < W → ve w ≤ 1000000 ∧ (aim = 0 → ve w ≤ 1)) {aim0 last0 : Int32} :
    ∃ values', f_X6_settle N steps sos slots takes places values (nI n) (nI to) aim0 last0 inches many worth (nI W) (nI aim) last = some (nI (gv W ic wr fr to aim ve 61 m src), values', nI aim, last) ∧ ∀ j, j < n → values' j = nI (gT W ic m wr fr src to aim ve (T j)) := by
  obtain ⟨v', e1, e2⟩ := c_settle (N := N) (wr := wr) (values := values) (Gt := gT W ic m wr fr src to aim ve) hN hw h hC hm hi hma hwo hsteps ha hve (fun τ υ he => gT_eq4 hw.1 he) (fun k hk => gT_rec hw (h.1 k hk).1) (fun k w hk hwW => vth_bd hw ha hve2 hwr (h.1 k hk).1 hwW) (aim0 := aim0) (last0 := last0)
  refine ⟨v', ?_, e2⟩
  rw [e1]
  have e0 : gT W ic m wr fr src to aim ve (T 0) = gv W ic wr fr to aim ve 61 m src := by
    rw [gT_eq4 hw.1 h.2.2.2.1.2]
    unfold gT
    have p0 : plc ic src (fun _ => 0) = src := by simp [plc]
    rw [p0]
    exact gv_cong 61 _ _ _ (fun w _ => by show m w - 0 = m w; omega)
  rw [e0]
end SET2
