/-! ===== the classes of the arrays ===== -/
theorem arr_of {A : Array Value} {s : State} {ty : FieldType} (h : (Cond.arrayClass ty).before A s = true) : ∃ cA, ArrOfT s cA ty ∧ s.vm.findClass ("[" ++ ty.toString) = some cA := by
  obtain ⟨cA, kA, comp, h1, h2, h3⟩ := Cond.arrayClass_spec h
  exact ⟨cA, fun n z => ⟨fun k h => (by cases h), kA, h2, comp, h3⟩, h1⟩
theorem arr_obj {s : State} {C : String} (h : va_AO C s) : ∃ cA, ArrOfT s cA (.object C) ∧ va_RA s cA (.object C) := by
  obtain ⟨comp, cA, kA, h1, h2, h3, h4, h5⟩ := Cond.arrayOver_spec h
  exact ⟨cA, fun n z => ⟨fun k h => (by cases h), kA, h3, comp, h4⟩, kA, comp, h3, h4, h1, h5⟩
theorem all00 {s : State} {b : Nat} (hts : ∀ w ∈ lw_tbl, w.before #[Value.ref b] s = true) : ∃ (dC : Nat → ClassId) (dI : Nat → Nat → Nat) (cI cZ cS : ClassId), va_K (dC, dI) vwCl (tyL cI cZ cS) s := by
  obtain ⟨c0, i0, h0⟩ := u_known (C := RX0) (T := TX0) (N := 8) (n := 8) hts inX0 (hts (.instantiable RX0 8) (by decide +kernel))
  obtain ⟨c1, i1, h1⟩ := u_known (C := RX1) (T := TX1) (N := 2) (n := 2) hts inX1 (hts (.instantiable RX1 2) (by decide +kernel))
  obtain ⟨c2, i2, h2⟩ := u_known (C := RX2) (T := TX2) (N := 5) (n := 5) hts inX2 (hts (.instantiable RX2 5) (by decide +kernel))
  obtain ⟨c3, i3, h3⟩ := u_known (C := RX3) (T := TX3) (N := 9) (n := 9) hts inX3 (hts (.instantiable RX3 9) (by decide +kernel))
  obtain ⟨c4, i4, h4⟩ := u_known (C := RX4) (T := TX4) (N := 5) (n := 5) hts inX4 (hts (.instantiable RX4 5) (by decide +kernel))
  obtain ⟨c5, i5, h5⟩ := u_known (C := RX6) (T := TX6) (N := 14) (n := 14) hts inX6 (hts (.instantiable RX6 14) (by decide +kernel))
  obtain ⟨c6, i6, h6⟩ := u_known (C := RX7) (T := TX7) (N := 6) (n := 6) hts inX7 (hts (.instantiable RX7 6) (by decide +kernel))
  obtain ⟨c7, i7, h7⟩ := u_known (C := RX8) (T := TX8) (N := 37) (n := 37) hts inX8 (hts (.instantiable RX8 37) (by decide +kernel))
  obtain ⟨cI, a1, a2⟩ := arr_of (hts (.arrayClass .int) (by decide +kernel))
  obtain ⟨cZ, a3, a4⟩ := arr_of (hts (.arrayClass .boolean) (by decide +kernel))
  obtain ⟨cS, a5, a6⟩ := arr_obj (va_AO.of (hts (.arrayOver (.object "SlateRows$Shelf")) (by decide +kernel)))
  refine ⟨fun k => match k with | 0 => c0 | 1 => c1 | 2 => c2 | 3 => c3 | 4 => c4 | 5 => c5 | 6 => c6 | _ => c7, fun k => match k with | 0 => i0 | 1 => i1 | 2 => i2 | 3 => i3 | 4 => i4 | 5 => i5 | 6 => i6 | _ => i7, cI, cZ, cS, fun k q hq => ?_, fun k q hq => ?_⟩
  · match k, hq with
    | 0, hq => cases hq; exact h0
    | 1, hq => cases hq; exact h1
    | 2, hq => cases hq; exact h2
    | 3, hq => cases hq; exact h3
    | 4, hq => cases hq; exact h4
    | 5, hq => cases hq; exact h5
    | 6, hq => cases hq; exact h6
    | 7, hq => cases hq; exact h7
    | k + 8, hq => cases hq
  · match k, hq with
    | 0, hq => cases hq; exact ⟨a1, a2⟩
    | 1, hq => cases hq; exact ⟨a3, a4⟩
    | 2, hq => cases hq; exact ⟨a5, a6⟩
    | k + 3, hq => cases hq
theorem n700 {s : State} {b : Nat} (hts : ∀ w ∈ lw_tbl, w.before #[Value.ref b] s = true) : n7 s := ⟨va_Nw.of rfl (hts (.methodLinkNest RX7 9 yX3_init "SlateRows") (by decide +kernel)), va_Nw.of rfl (hts (.methodLinkNest RX7 36 yX4_init "SlateRows") (by decide +kernel)), va_AO.of (hts (.arrayOver (.object "SlateRows$Shelf")) (by decide +kernel))⟩
