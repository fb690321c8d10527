/-! ===== settling: each state gets the value of what can follow ===== -/
def noV (aim : Nat) : Nat := if aim = 0 then 0 else 1000000
def acc (aim : Nat) (f : Nat → Nat) : Nat → Nat
  | 0 => noV aim
  | j + 1 => if aim = 0 then acc aim f j + f j else min (acc aim f j) (f j)
/-- what is taken, in one step more: its value; Gt: the value of a take -/
def vthT (ic m wr : Nat → Nat) (fr : Nat → Bool) (src to aim : Nat) (ve : Nat → Nat) (Gt : (Nat → Nat) → Nat) (τ : Nat → Nat) (w : Nat) : Nat :=
  if ¬ τ w < m w then noV aim else if to < plc ic src τ + ic w then (if aim = 2 then plc ic src τ + ic w - to else noV aim) else if plc ic src τ + ic w = to then ve w else if fr (plc ic src τ + ic w) = true then Gt (inc τ w) + (if aim = 1 then wr w else 0) else noV aim
section SET
variable {N W : Nat} {ic m wr : Nat → Nat} {fr : Nat → Bool} {src to aim : Nat} {inches many worth : Nat → Int32} {T : Nat → Nat → Nat} {n : Nat} {sos slots takes places steps values : Nat → Int32} {last : Int32} {ve : Nat → Nat} {Gt : (Nat → Nat) → Nat}
theorem c_nothing (ha : aim < 3) : f_X6_nothing N (nI aim) = some (nI (noV aim)) := by
  unfold f_X6_nothing noV
  by_cases h : aim = 0
  · rw [if_pos (by rw [h]; rfl), if_pos h]
    rfl
  · rw [if_neg (nI_ne0 (by omega) (by omega)), if_neg h]
    rfl
theorem aim_eq (ha : aim < 3) {k : Nat} (hk : k < 3) : (nI aim = nI k) ↔ aim = k := nI_eq (by omega) (by omega)
theorem c_valueThrough (hw : WI W ic src to) (h : TI W ic m fr src to T n sos slots takes places) (hC : CLO W ic m fr src to T n n 0) (hm : ∀ v, v < 4 → m v ≤ 99) (hi : ∀ v, v < 4 → inches v = nI (ic v)) (hma : ∀ v, v < 4 → many v = nI (m v)) (hwo : ∀ v, v < 4 → worth v = nI (wr v)) (hsteps : ∀ v, v < 4 → steps v = nI (stepsN (rdx W ic m) v)) (ha : aim < 3)
    (hve : ∀ w, w < W → f_X6_valueAtEnd N (nI aim) last worth (nI w) = some (nI (ve w))) (hGe : ∀ τ υ, eq4 τ υ → Gt τ = Gt υ) {k w : Nat} (hk : k < n) (hwW : w < W) (hval : ∀ j, k < j → j < n → values j = nI (Gt (T j))) :
    f_X6_valueThrough N steps sos slots takes places values (nI n) (nI to) (nI aim) last inches many worth (nI k) (nI w) = some (nI (vthT ic m wr fr src to aim ve Gt (T k) w)) := by
  have hW4 := hw.1
  have hto := hw.2.1
  have h6 := h.2.2.2.2.2.1
  have hVk := (h.1 k hk).1
  have hpk := hVk.2.2
  have hicw := hw.2.2.2.1 w hwW
  obtain ⟨q1, q2, q3, q4⟩ := h.2.1 k hk
  unfold f_X6_valueThrough vthT
  rw [ck_nI (by omega) (by omega), ck_nI (by omega) (by omega), c_hasLeft hw h hm hma hk (by omega), bs]
  by_cases hl : T k w < m w
  · rw [if_neg (b2i_n0.mpr (decide_eq_true hl)), if_neg (show ¬ ¬ T k w < m w from fun z => z hl), cl_nI (by omega), cl_nI (by omega), q3, hi w (by omega), nI_add]
    by_cases hov : to < plc ic src (T k) + ic w
    · rw [if_neg (nI_ge hov (by omega)), if_pos hov, l2]
      by_cases h2 : aim = 2
      · rw [if_pos ((aim_eq ha (by omega)).mpr h2), if_pos h2, pk_sub (by omega)]
      · rw [if_neg (fun z => h2 ((aim_eq ha (by omega)).mp z)), if_neg h2, c_nothing ha, bs]
    · rw [if_pos (nI_le (by omega) (by omega)), if_neg hov]
      by_cases he : plc ic src (T k) + ic w = to
      · rw [if_pos (by rw [he]), if_pos he, hve w hwW, bs]
      · rw [if_neg (fun z => he ((nI_eq (by omega) (by omega)).mp z)), if_neg he, ck_nI (by omega) (by omega), ck_nI (by omega) (by omega), q1, hsteps w (by omega), nI_add, ← slo_inc (by omega)]
        by_cases hf : fr (plc ic src (T k) + ic w) = true
        · obtain ⟨i, i1, i2, i3⟩ := hC k w hk hwW (Or.inl hk) ⟨hl, by omega, hf⟩
          have hst := c_stateAt_in (N := N) hw h i1
          rw [eq4_slo i3] at hst
          rw [hst, bs, if_pos (nI_pos' (by omega)), if_pos hf, l1]
          by_cases h1 : aim = 1
          · rw [if_pos ((aim_eq ha (by omega)).mpr h1), if_pos h1, ck_nI (by omega) (by omega), ck_nI (by omega) (by omega), cl_nI (by omega), hval i i2 i1, hwo w (by omega), nI_add, hGe _ _ i3]
          · rw [if_neg (fun z => h1 ((aim_eq ha (by omega)).mp z)), if_neg h1, ck_nI (by omega) (by omega), cl_nI (by omega), hval i i2 i1, hGe _ _ i3, Nat.add_zero]
        · have hV2 := hVk.inc hw hwW hl (by omega)
          have hout : ∀ i, i < n → ¬ eq4 (T i) (inc (T k) w) := by
            intro i hin he4
            rcases (h.1 i hin).2 with g | ⟨g, _⟩
            · subst g
              have g1 := eq4_sm he4
              have g2 := eq4_sm h.2.2.2.1.2
              rw [sm4_inc (by omega)] at g1
              have g3 : sm4 (fun _ => 0) = 0 := rfl
              omega
            · rw [eq4_plc he4, plc_inc (by omega)] at g
              exact hf g
          rw [c_stateAt_out hw h hV2 hout, bs, if_neg (by decide), if_neg hf, c_nothing ha, bs]
  · rw [if_pos (b2i_0.mpr (decide_eq_false hl)), if_pos hl, c_nothing ha, bs]
theorem mn_nI {a b : Nat} (ha : a < 2 ^ 31) (hb : b < 2 ^ 31) : mn (nI a) (nI b) = nI (min a b) := by
  unfold mn
  by_cases h : b < a
  · rw [if_pos (nI_lt h ha), Nat.min_eq_right (by omega)]
  · rw [if_neg (nI_nlt (by omega) hb), Nat.min_eq_left (by omega)]
theorem acc_lt {f : Nat → Nat} {B : Nat} (hB : 1000000 ≤ B) : ∀ j, (∀ w, w < j → f w ≤ B) → acc aim f j ≤ B * (j + 1)
  | 0, _ => by
    show noV aim ≤ _
    unfold noV
    split <;> omega
  | j + 1, hf => by
    have h1 := acc_lt hB j (fun w hw => hf w (by omega))
    have h2 := hf j (by omega)
    show (if aim = 0 then acc aim f j + f j else min (acc aim f j) (f j)) ≤ _
    have e : B * (j + 1 + 1) = B * (j + 1) + B := by rw [Nat.mul_add]; omega
    split
    · omega
    · have := Nat.min_le_right (acc aim f j) (f j)
      omega
theorem c_L30 (hN : 20 < N) (hW : W ≤ 4) (ha : aim < 3) {vt : Nat → Nat} {k : Nat} (hk : k < 1820) (hvt : ∀ w, w < W → f_X6_valueThrough N steps sos slots takes places values (nI n) (nI to) (nI aim) last inches many worth (nI k) (nI w) = some (nI (vt w)) ∧ vt w ≤ 200000000) {K : Int32 → (Nat → Int32) → Option (Int32 × (Nat → Int32) × Int32 × Int32)} :
    ∀ (f j : Nat), j ≤ W → W < j + f → f_X6_settle_L30 N steps sos slots takes places values (nI n) (nI to) (nI aim) last inches many worth (nI W) K (nI k) f (nI (acc aim vt j)) (nI j) = K (nI k + (-1)) (upd values k (nI (acc aim vt W))) := by
  intro f
  induction f with
  | zero => intro j h1 h2; omega
  | succ f ih =>
    intro j h1 h2
    rw [f_X6_settle_L30]
    by_cases hj : j = W
    · rw [hj, if_pos (nI_le (Nat.le_refl _) (by omega)), ck_nI hk (by omega), cl_nI (by omega)]
    · obtain ⟨e1, e2⟩ := hvt j (by omega)
      have hb := acc_lt (aim := aim) (f := vt) (B := 200000000) (by omega) j (fun w hw => (hvt w (by omega)).2)
      have hb2 : 200000000 * (j + 1) ≤ 200000000 * 5 := Nat.mul_le_mul_left _ (by omega)
      rw [if_neg (nI_ge (by omega) (by omega)), e1, bs]
      by_cases h0 : aim = 0
      · rw [if_pos (by rw [h0]; rfl), nI_add, nI_1]
        have e : acc aim vt (j + 1) = acc aim vt j + vt j := if_pos h0
        rw [← e]
        exact ih (j + 1) (by omega) (by omega)
      · rw [if_neg (nI_ne0 (by omega) (by omega)), mn_nI (by omega) (by omega), nI_1]
        have e : acc aim vt (j + 1) = min (acc aim vt j) (vt j) := if_neg h0
        rw [← e]
        exact ih (j + 1) (by omega) (by omega)
theorem c_settle (hN : 5000 < N) (hw : WI W ic src to) (h : TI W ic m fr src to T n sos slots takes places) (hC : CLO W ic m fr src to T n n 0) (hm : ∀ v, v < 4 → m v ≤ 99) (hi : ∀ v, v < 4 → inches v = nI (ic v)) (hma : ∀ v, v < 4 → many v = nI (m v)) (hwo : ∀ v, v < 4 → worth v = nI (wr v)) (hsteps : ∀ v, v < 4 → steps v = nI (stepsN (rdx W ic m) v)) (ha : aim < 3)
    (hve : ∀ w, w < W → f_X6_valueAtEnd N (nI aim) last worth (nI w) = some (nI (ve w))) (hGe : ∀ τ υ, eq4 τ υ → Gt τ = Gt υ) (hG : ∀ k, k < n → Gt (T k) = acc aim (vthT ic m wr fr src to aim ve Gt (T k)) W) (hbd : ∀ k w, k < n → w < W → vthT ic m wr fr src to aim ve Gt (T k) w ≤ 200000000) {aim0 last0 : Int32} :
    ∃ values', f_X6_settle N steps sos slots takes places values (nI n) (nI to) aim0 last0 inches many worth (nI W) (nI aim) last = some (nI (Gt (T 0)), values', nI aim, last) ∧ ∀ j, j < n → values' j = nI (Gt (T j)) := by
  have h6 := h.2.2.2.2.2.1
  have hn1 := h.2.2.2.1.1
  have key : ∀ (f k : Nat) (vals : Nat → Int32), k < n → k + 2 ≤ f → (∀ j, k < j → j < n → vals j = nI (Gt (T j))) →
      ∃ values', f_X6_settle_L17 N steps sos slots takes places (nI n) (nI to) (nI aim) last inches many worth (nI W) f (nI k) vals = some (nI (Gt (T 0)), values', nI aim, last) ∧ ∀ j, j < n → values' j = nI (Gt (T j)) := by
    intro f
    induction f with
    | zero => intro k vals h1 h2; omega
    | succ f ih =>
      intro k vals hk hf hv
      rw [f_X6_settle_L17, if_neg (nI_pos (by omega)), c_nothing ha, bs]
      have hL := c_L30 (N := N) (steps := steps) (sos := sos) (slots := slots) (takes := takes) (places := places) (values := vals) (n := n) (to := to) (last := last) (inches := inches) (many := many) (worth := worth) (K := fun z0 z1 => f_X6_settle_L17 N steps sos slots takes places (nI n) (nI to) (nI aim) last inches many worth (nI W) f z0 z1) (by omega) hw.1 ha (vt := vthT ic m wr fr src to aim ve Gt (T k)) (k := k) (by omega) (fun w hwW => ⟨c_valueThrough hw h hC hm hi hma hwo hsteps ha hve hGe hk hwW hv, hbd k w hk hwW⟩) N 0 (by omega) (by have := hw.1; omega)
      refine Eq.substr (p := fun z => ∃ values', z = some (nI (Gt (T 0)), values', nI aim, last) ∧ ∀ j, j < n → values' j = nI (Gt (T j))) hL ?_
      rw [← hG k hk]
      have hnew : ∀ j, k ≤ j → j < n → (upd vals k (nI (Gt (T k)))) j = nI (Gt (T j)) := by
        intro j h1 h2
        by_cases e : j = k
        · subst e
          rw [pk_us]
        · rw [pk_un e]
          exact hv j (by omega) h2
      show ∃ values', f_X6_settle_L17 N steps sos slots takes places (nI n) (nI to) (nI aim) last inches many worth (nI W) f (nI k + (-1)) (upd vals k (nI (Gt (T k)))) = some (nI (Gt (T 0)), values', nI aim, last) ∧ ∀ j, j < n → values' j = nI (Gt (T j))
      by_cases hk0 : k = 0
      · subst hk0
        obtain ⟨f, rfl⟩ : ∃ g, f = g + 1 := ⟨f - 1, by omega⟩
        rw [f_X6_settle_L17, if_pos (by decide), show gi 0 1820 = true by decide, ck_t, show ((0 : Int32).toNatClampNeg) = 0 by decide, hnew 0 (Nat.le_refl _) (by omega)]
        exact ⟨_, rfl, fun j hj => hnew j (Nat.zero_le _) hj⟩
      · obtain ⟨k', rfl⟩ : ∃ k', k = k' + 1 := ⟨k - 1, by omega⟩
        rw [pk_m1]
        exact ih k' _ (by omega) (by omega) (fun j h1 h2 => hnew j (by omega) h2)
  unfold f_X6_settle
  rw [l1, pk_sub hn1]
  exact key N (n - 1) values (by omega) (by omega) (fun j h1 h2 => by omega)
end SET
