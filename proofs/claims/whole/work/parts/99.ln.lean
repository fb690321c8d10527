/-! ===== what the throws want, at the law's start ===== -/
theorem st_false {l : Launch} (h : l.flags = flags0) : l.stackTraces = false := by
  unfold Launch.stackTraces
  rw [h]
  decide +kernel
theorem ngW_in : ∀ w ∈ ngW, w ∈ lw_tbl := by decide +kernel
theorem vk_ex {own tx : String} {k : Nat} {A : Array Value} {U : State} (h : (Cond.stringRef own k tx).before A U = true) : ∃ a, vk_R own k tx a U := by
  have hcur : ∃ cur, U.vm.findClass own = some cur := by
    have h1 := h
    simp only [Cond.before, Cond.holds, Cond.value] at h1
    cases hc : U.vm.findClass own with
    | none => simp [hc] at h1
    | some cur => exact ⟨cur, rfl⟩
  obtain ⟨cur, hcur⟩ := hcur
  obtain ⟨k9, cf, i, a, h1, h2, h3, h4, h5, h6⟩ := Cond.stringRef_spec (args := A) (first := U) (o := none) (idx := []) hcur h
  exact ⟨a, vk_R.of h h6⟩
theorem thr00 {s : State} {b : Nat} (hts : ∀ w ∈ lw_tbl, w.before #[Value.ref b] s = true) (hgv : (Jvm.Cond.and given_1 narrow_1).before #[Value.ref b] s = true) : thrS (fun q : Nat => s.heap.size ≤ q) s := by
  have hs := flat_of_before _ hgv
  have hA : ∀ a : Nat, a < s.heap.size → ¬ s.heap.size ≤ a := fun a h => by omega
  exact ⟨⟨vx_Zqof (hts (.laysStatic Bundle.tN "UNASSIGNED_STACK" Bundle.steD) (by decide +kernel)) (hts (.initialized Bundle.tN) (by decide +kernel)) (hs _ (by decide +kernel)) hA, vx_Zqof (hts (.laysStatic Bundle.tN "SUPPRESSED_SENTINEL" Bundle.listD) (by decide +kernel)) (hts (.initialized Bundle.tN) (by decide +kernel)) (hs _ (by decide +kernel)) hA⟩, fun w hw => va_Nw.of (ngW_ot w hw) (hts w (ngW_in w hw))⟩
theorem toss00 {s : State} {b : Nat} (hts : ∀ w ∈ lw_tbl, w.before #[Value.ref b] s = true) (hgv : (Jvm.Cond.and given_1 narrow_1).before #[Value.ref b] s = true) : ∃ sa1 sa2 sa3, tossS (fun q : Nat => s.heap.size ≤ q) sa1 sa2 sa3 s := by
  have hs := flat_of_before _ hgv
  obtain ⟨a1, h1⟩ := vk_ex (hts (.stringRef RX1 26 "told") (by decide +kernel))
  obtain ⟨a2, h2⟩ := vk_ex (hts (.stringRef RX1 37 "handed") (by decide +kernel))
  obtain ⟨a3, h3⟩ := vk_ex (hts (.stringRef RX1 42 "laying") (by decide +kernel))
  exact ⟨a1, a2, a3, thr00 hts hgv, h1, h2, h3, va_Nc.of (hs (.not (.castable "java/lang/IllegalArgumentException" "java/lang/UnsupportedOperationException")) (by decide +kernel)), va_Nc.of (hs (.not (.castable "java/lang/IllegalStateException" "java/lang/UnsupportedOperationException")) (by decide +kernel)), va_Nc.of (hs (.not (.castable "java/lang/IllegalStateException" "java/lang/IllegalArgumentException")) (by decide +kernel))⟩
theorem el00 {s : State} {b : Nat} (hts : ∀ w ∈ lw_tbl, w.before #[Value.ref b] s = true) (hgv : (Jvm.Cond.and given_1 narrow_1).before #[Value.ref b] s = true) : ∃ sa1 sa2, ∀ (D : va_G) (cI cZ cS cL : ClassId), va_K D vwCl (tyL cI cZ cS ++ [(cL, .long)]) s → elS D cI cZ cS cL (fun q : Nat => s.heap.size ≤ q) sa1 sa2 s := by
  have hs := flat_of_before _ hgv
  obtain ⟨a1, h1⟩ := vk_ex (hts (.stringRef RX7 248 "no such shelf") (by decide +kernel))
  obtain ⟨a2, h2⟩ := vk_ex (hts (.stringRef RX7 255 "no such element") (by decide +kernel))
  exact ⟨a1, a2, fun D cI cZ cS cL hK => ⟨thr00 hts hgv, h1, h2, va_Nc.of (hs (.not (.castable "java/lang/IllegalStateException" "java/lang/IllegalArgumentException")) (by decide +kernel)), hK⟩⟩
