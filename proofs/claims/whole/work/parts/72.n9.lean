/-! ===== ways of a stretch: the class's tables say what the list of fills says ===== -/
def Wd (s : Nat → Int32) : Prop := Gd s ∧ (∀ v, v < wide s → inch s v ≤ 30) ∧ (∀ v u, v < wide s → u < wide s → inch s v = inch s u → v = u)
theorem Ok.wd {s : Nat → Int32} (O : Ok s) : Wd s := ⟨O.g, O.i30, O.dist⟩
theorem Wd.set {s : Nat → Int32} (h : Wd s) {w n : Nat} (hw : w < 4) (hn : n ≤ 99) : Wd (setM s w n) := by
  refine ⟨h.1.set hw hn, fun v hv => ?_, fun v u hv hu he => ?_⟩
  · rw [setM_wide] at hv
    rw [setM_inch]
    exact h.2.1 v hv
  · rw [setM_wide] at hv hu
    rw [setM_inch] at he
    exact h.2.2 v u hv hu he
def SO (sos : Nat → Int32) : Prop := ∀ q, q < 10296 → ∃ k, k < 1820 ∧ sos q = nI k
/-- the tables of a stretch, with all takes that can be reached -/
def WT (s : Nat → Int32) (row src to : Nat) (steps sos slots takes places : Nat → Int32) (T : Nat → Nat → Nat) (n : Nat) : Prop := (∀ v, v < 4 → steps v = nI (stepsN (rdx (wide s) (inch s) (mny s)) v)) ∧ TI (wide s) (inch s) (mny s) (frB s row src to) src to T n sos slots takes places ∧ CLO (wide s) (inch s) (mny s) (frB s row src to) src to T n n 0
theorem WT.so {s : Nat → Int32} {row src to : Nat} {steps sos slots takes places : Nat → Int32} {T : Nat → Nat → Nat} {n : Nat} (h : WT s row src to steps sos slots takes places T n) : SO sos := h.2.1.2.2.2.2.2.2
theorem Wd.WI {s : Nat → Int32} (h : Wd s) {src to : Nat} (hto : to ≤ 60) (hs : src ≤ to) : WI (wide s) (inch s) src to := ⟨h.1.2.1, hto, hs, fun v hv => ⟨h.1.2.2.1 v hv, h.2.1 v hv⟩, h.2.2⟩
theorem frB_mid {s : Nat → Int32} {row src to x : Nat} (h1 : src < x) (h2 : x < to) : frB s row src to x = mayB s row x := by
  unfold frB
  rw [decide_eq_false (by omega), decide_eq_true h1]
  simp
section WAY
variable {N : Nat} {i m w l d t : Nat → Int32} {x y z : Int32} {s : Nat → Int32}
theorem c_waysB (E : Enc i m w l d t x y z s) (hW : Wd s) (hN : 5000 < N) {row src to : Nat} (hr : row < 6) (hto : to ≤ 60) (hsrc : src ≤ to) {free steps sos slots takes places : Nat → Int32} {states wto : Int32} (hso : SO sos) :
    ∃ (T : Nat → Nat → Nat) (n : Nat) (free' steps' sos' slots' takes' places' : Nat → Int32), f_X7_waysBetween N i m d t x z free steps sos slots takes places states wto (nI row) (nI src) (nI to) = some (free', steps', sos', slots', takes', places', nI n, nI to) ∧ WT s row src to steps' sos' slots' takes' places' T n := by
  obtain ⟨T, n, a1, a2, a3, a4, a5, a6, e1, e2, e3, e4⟩ := c_spread (N := N) E hW.1 hW.2.1 hW.2.2 hN hr hto hsrc (free := free) (steps := steps) (slots := slots) (takes := takes) (places := places) (states := states) (wto := wto) hso
  refine ⟨T, n, a1, a2, a3, a4, a5, a6, ?_, e2, e3, e4⟩
  unfold f_X7_waysBetween
  rw [e1]
  rfl
theorem c_waysOf (E : Enc i m w l d t x y z s) (hW : Wd s) (hN : 5000 < N) {row : Nat} (hr : row < 6) (hto : len s row ≤ 60) {free steps sos slots takes places : Nat → Int32} {states wto : Int32} (hso : SO sos) :
    ∃ (T : Nat → Nat → Nat) (n : Nat) (free' steps' sos' slots' takes' places' : Nat → Int32), f_X7_waysOf N i m l d t x z free steps sos slots takes places states wto (nI row) = some (free', steps', sos', slots', takes', places', nI n, nI (len s row)) ∧ WT s row 0 (len s row) steps' sos' slots' takes' places' T n := by
  obtain ⟨T, n, a1, a2, a3, a4, a5, a6, e1, e2⟩ := c_waysB (N := N) E hW hN hr hto (Nat.zero_le _) (free := free) (steps := steps) (slots := slots) (takes := takes) (places := places) (states := states) (wto := wto) hso
  refine ⟨T, n, a1, a2, a3, a4, a5, a6, ?_, e2⟩
  unfold f_X7_waysOf
  rw [ck_nI (by omega) (by omega), cl_nI (by omega), E.len hW.1.1 hr]
  have e1' : f_X7_waysBetween N i m d t x z free steps sos slots takes places states wto (nI row) 0 (nI (len s row)) = _ := e1
  rw [e1']
  rfl
variable {row src to : Nat} {steps sos slots takes places values : Nat → Int32} {T : Nat → Nat → Nat} {n aim : Nat} {last : Int32} {ve : Nat → Nat}
theorem w_find (E : Enc i m w l d t x y z s) (hW : Wd s) (hN : 5000 < N) (hto : to ≤ 60) (hsrc : src < to) (h : WT s row src to steps sos slots takes places T n) (ha : aim < 3)
    (hve : ∀ v, v < wide s → f_X6_valueAtEnd N (nI aim) last w (nI v) = some (nI (ve v))) (hve2 : ∀ v, v < wide s → ve v ≤ 1000000 ∧ (aim = 0 → ve v ≤ 1)) {aim0 last0 : Int32} :
    ∃ values', f_X6_settle N steps sos slots takes places values (nI n) (nI to) aim0 last0 i m w x (nI aim) last = some (nI (gv (wide s) (inch s) (wor s) (frB s row src to) to aim ve 61 (mny s) src), values', nI aim, last) ∧ values' 0 = nI (gv (wide s) (inch s) (wor s) (frB s row src to) to aim ve 61 (mny s) src) ∧
      (live aim (gv (wide s) (inch s) (wor s) (frB s row src to) to aim ve 61 (mny s) src) → ∀ (order : Nat → Int32) (sl0 : Int32), ∃ order', f_X6_follow N steps sos slots takes places values' (nI n) (nI to) (nI aim) last order sl0 i m w x = some (true, order', nI (fpath (wide s) (inch s) (wor s) (frB s row src to) to aim ve 61 (mny s) src).length) ∧ ∀ j, j < (fpath (wide s) (inch s) (wor s) (frB s row src to) to aim ve 61 (mny s) src).length → order' j = nI ((fpath (wide s) (inch s) (wor s) (frB s row src to) to aim ve 61 (mny s) src).getD j 0)) := by
  have hS := hW.1.1
  have hw := hW.WI hto (Nat.le_of_lt hsrc)
  have hm : ∀ v, v < 4 → mny s v ≤ 99 := fun v hv => mny_le hS (by omega)
  have hwr : ∀ v, v < wide s → wor s v ≤ 99 := fun v hv => hS.le (by have := hw.1; omega)
  obtain ⟨v', e1, e2⟩ := c_settle_g (N := N) (wr := wor s) (values := values) hN hw h.2.1 h.2.2 hm (fun v hv => E.inch hS hv) (fun v hv => E.mny hS hv) (fun v hv => E.wor hS hv) hwr h.1 ha hve hve2 (aim0 := aim0) (last0 := last0)
  have hT0 := h.2.1.2.2.2.1
  have hg0 : gT (wide s) (inch s) (mny s) (wor s) (frB s row src to) src to aim ve (T 0) = gv (wide s) (inch s) (wor s) (frB s row src to) to aim ve 61 (mny s) src := by
    rw [gT_eq4 hw.1 hT0.2]
    unfold gT
    rw [show plc (inch s) src (fun _ => 0) = src by simp [plc]]
    exact gv_cong 61 _ _ _ (fun w _ => by show mny s w - 0 = mny s w; omega)
  have hv0 := e2 0 (by omega)
  rw [hg0] at hv0
  rw [E.wide hS]
  refine ⟨v', e1, hv0, fun hl order sl0 => ?_⟩
  have hp0 : plc (inch s) src (T 0) = src := by
    rw [eq4_plc hT0.2]
    simp [plc]
  have hgb : ∀ j, j < n → gT (wide s) (inch s) (mny s) (wor s) (frB s row src to) src to aim ve (T j) ≤ 200000000 := by
    intro j hj
    by_cases h0 : aim = 0
    · have := gv_count (wr := wor s) (fr := frB s row src to) (to := to) (ve := ve) h0 (fun v hv => (hve2 v hv).2 h0) hw.1 (fun v hv => (hw.2.2.2.1 v hv).1) 61 12 (remT (mny s) (T j)) (plc (inch s) src (T j)) (by omega)
      have e : (4 : Nat) ^ 12 = 16777216 := by decide
      unfold gT
      omega
    · unfold gT
      have hacc : ∀ (f : Nat → Nat) (j : Nat), acc aim f j ≤ 1000000 := by
        intro f j
        induction j with
        | zero =>
          show noV aim ≤ _
          unfold noV
          rw [if_neg h0]
          exact Nat.le_refl _
        | succ j ih =>
          show (if aim = 0 then acc aim f j + f j else min (acc aim f j) (f j)) ≤ _
          rw [if_neg h0]
          exact Nat.le_trans (Nat.min_le_left _ _) ih
      rw [gv]
      exact Nat.le_trans (hacc _ _) (by omega)
  obtain ⟨o', f1, f2, f3⟩ := c_follow_L (N := N) (wr := wor s) hN hw h.2.1 h.2.2 hm (fun v hv => E.inch hS hv) (fun v hv => E.mny hS hv) (fun v hv => E.wor hS hv) hwr h.1 ha hve hve2 e2 hgb N 0 0 order (by omega) (by rw [hp0]; omega) (by rw [hp0]; exact hsrc) (by rw [hg0]; exact hl) (by omega)
  have hfp : fpath (wide s) (inch s) (wor s) (frB s row src to) to aim ve 61 (remT (mny s) (T 0)) (plc (inch s) src (T 0)) = fpath (wide s) (inch s) (wor s) (frB s row src to) to aim ve 61 (mny s) src := by
    rw [hp0]
    refine fpath_cong 61 _ _ _ (fun w hw2 => ?_)
    show mny s w - T 0 w = mny s w
    have := hT0.2 w (by have := hw.1; omega)
    rw [this]
    rfl
  rw [hfp, Nat.zero_add] at f1
  rw [hfp] at f3
  refine ⟨o', f1, fun j hj => ?_⟩
  have := f3 j hj
  rw [Nat.zero_add] at this
  exact this
end WAY
