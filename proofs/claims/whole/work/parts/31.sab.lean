theorem cd_X7_may : yX7_may.cls = RX7 ∧ yX7_may.cls ≠ "java/lang/invoke/MethodHandle" ∧ yX7_may.cls ≠ "java/lang/invoke/VarHandle" ∧ (parseMethodDescriptor yX7_may.desc).map (fun d => d.parameters.length) = some 2 := by decide +kernel
theorem cd_X7_takeUp : yX7_takeUp.cls = RX7 ∧ yX7_takeUp.cls ≠ "java/lang/invoke/MethodHandle" ∧ yX7_takeUp.cls ≠ "java/lang/invoke/VarHandle" ∧ (parseMethodDescriptor yX7_takeUp.desc).map (fun d => d.parameters.length) = some 1 := by decide +kernel
theorem cd_X7_gaps : yX7_gaps.cls = RX7 ∧ yX7_gaps.cls ≠ "java/lang/invoke/MethodHandle" ∧ yX7_gaps.cls ≠ "java/lang/invoke/VarHandle" ∧ (parseMethodDescriptor yX7_gaps.desc).map (fun d => d.parameters.length) = some 1 := by decide +kernel
theorem cd_X7_count : yX7_count.cls = RX7 ∧ yX7_count.cls ≠ "java/lang/invoke/MethodHandle" ∧ yX7_count.cls ≠ "java/lang/invoke/VarHandle" ∧ (parseMethodDescriptor yX7_count.desc).map (fun d => d.parameters.length) = some 1 := by decide +kernel
theorem cd_X7_refusalOfNumbers : yX7_refusalOfNumbers.cls = RX7 ∧ yX7_refusalOfNumbers.cls ≠ "java/lang/invoke/MethodHandle" ∧ yX7_refusalOfNumbers.cls ≠ "java/lang/invoke/VarHandle" ∧ (parseMethodDescriptor yX7_refusalOfNumbers.desc).map (fun d => d.parameters.length) = some 1 := by decide +kernel
theorem cd_X7_refusalOfTold : yX7_refusalOfTold.cls = RX7 ∧ yX7_refusalOfTold.cls ≠ "java/lang/invoke/MethodHandle" ∧ yX7_refusalOfTold.cls ≠ "java/lang/invoke/VarHandle" ∧ (parseMethodDescriptor yX7_refusalOfTold.desc).map (fun d => d.parameters.length) = some 2 := by decide +kernel
theorem cd_X7_judge : yX7_judge.cls = RX7 ∧ yX7_judge.cls ≠ "java/lang/invoke/MethodHandle" ∧ yX7_judge.cls ≠ "java/lang/invoke/VarHandle" ∧ (parseMethodDescriptor yX7_judge.desc).map (fun d => d.parameters.length) = some 2 := by decide +kernel
theorem cd_X7_lay : yX7_lay.cls = RX7 ∧ yX7_lay.cls ≠ "java/lang/invoke/MethodHandle" ∧ yX7_lay.cls ≠ "java/lang/invoke/VarHandle" ∧ (parseMethodDescriptor yX7_lay.desc).map (fun d => d.parameters.length) = some 2 := by decide +kernel
def f_X7_may (N : Nat) (Rn_inches : Nat → Int32) (Rn_lengths : Nat → Int32) (Rn_laid : Nat → Int32) (Rn_slates : Nat → Int32) (Rn_rows : Int32) (Rn_lap : Int32) (x1 : Int32) (x2 : Int32) : Option (Int32) :=
  (f_X7_isRow N Rn_rows x1).bind fun r_1 => if (b2i r_1) = 0 then (some ((-1))) else (if x2 < 1 then (some ((-1))) else (ck (gi x1 6) (if x2 < (Rn_lengths x1.toNatClampNeg) then ((f_X3_allowsJoint N Rn_inches Rn_laid Rn_slates Rn_lap x1 x2).bind fun r_5 => if (b2i r_5) = 0 then (some (0)) else (some (1))) else (some ((-1))))))
set_option maxHeartbeats 4000000 in
set_option maxRecDepth 100000 in
theorem k_X7_may (l : Launch) (dC : Nat → ClassId) (dI : Nat → Nat → Nat) (cI cZ cS : ClassId) (N : Nat) (aS aRn aRn_inches aRn_many aRn_worth aRn_lengths aRn_laid aRn_slates aKept aMind aShv : Nat) (S_isKept : Int32) (S_ways : Option Nat) (Rn_inches : Nat → Int32) (Rn_many : Nat → Int32) (Rn_worth : Nat → Int32) (Rn_lengths : Nat → Int32) (Rn_laid : Nat → Int32) (Rn_slates : Nat → Int32) (Rn_widths : Int32) (Rn_rows : Int32) (Rn_lap : Int32) (x1 : Int32) (x2 : Int32) (res : Int32) (h : f_X7_may N Rn_inches Rn_lengths Rn_laid Rn_slates Rn_rows Rn_lap x1 x2 = some res) : Met l yX7_may wsX7_may ({ frames := 2, cells := 0, slots := 0, locals := 46 }) (va_Pc [.ref aS, .int x1, .int x2] (wd (dC, dI) cI cZ cS [(aS, .inr (6, [.ref aRn, .ref aKept, .ref aMind, .ref aShv, .int S_isKept, va_rf S_ways])), (aRn, .inr (3, [.ref aRn_inches, .ref aRn_many, .ref aRn_worth, .ref aRn_lengths, .ref aRn_laid, .ref aRn_slates, .int Rn_widths, .int Rn_rows, .int Rn_lap])), (aRn_inches, .inl (cI, 4, .inl Rn_inches)), (aRn_many, .inl (cI, 4, .inl Rn_many)), (aRn_worth, .inl (cI, 4, .inl Rn_worth)), (aRn_lengths, .inl (cI, 6, .inl Rn_lengths)), (aRn_laid, .inl (cI, 6, .inl Rn_laid)), (aRn_slates, .inl (cI, 72, .inl Rn_slates))])) (vp_Si (fun r => r = res)) 0 0 (fun _ => False) := by
  refine Met.ofW (cc := cX7_may) (maxL := 3) (ret := (some .int)) (by decide) rfl ?_
  intro p e s m args below meth c s₁ B hml hv
  obtain ⟨rfl, hP, hK, hD⟩ := hv
  have hx := B.exec
  have hb := B.bytes
  have hr := B.returns
  have hts := atoms_spec (ws := wsX7_may) B.pre
  have hown : s.vm.findClass RX7 = some m.cls := findClass_of_methodNamed B.named
  have hlocks := B.notSynchronized
  have hl := lv_entry ([.ref aS, .int x1, .int x2]) (n := 3) (Nat.le_of_ble_eq_true rfl)
  rw [lg_entry_eq]
  generalize (lg_sl ([.ref aS, .int x1, .int x2]) ++ List.replicate (3 - (lg_sl ([.ref aS, .int x1, .int x2])).length) Slot.unset).toArray = ls at hl ⊢
  have hl : lv_has ls 3 [(0, .ref aS), (1, .int x1), (2, .int x2)] := hl
  unfold f_X7_may at h
  refine lv_aload_n hx hb dX7_may_0 rfl (lv_at hl 0 rfl) ?_
  refine lv_iload_n hx hb dX7_may_1 rfl (lv_at hl 1 rfl) ?_
  obtain ⟨r_1, hg, h⟩ := bd_some h
  refine rdV (As := [.int x1]) (rest := []) (ci := 6) ⟨hx, hb, hml, hown, hts⟩ (k_X7_isRow l dC dI cI cZ cS N aS aRn aRn_inches aRn_many aRn_worth aRn_lengths aRn_laid aRn_slates aKept aMind aShv S_isKept S_ways Rn_inches Rn_many Rn_worth Rn_lengths Rn_laid Rn_slates Rn_widths Rn_rows Rn_lap x1 r_1 hg) (cwV 1 hts gX7_may_X7_isRow rfl rfl rfl cd_X7_isRow ⟨Nat.le_of_ble_eq_true rfl, Nat.le_of_ble_eq_true rfl⟩) hP hD hK [0, 1, 2, 3, 4, 5, 6, 7] (by decide) rfl rfl rfl rfl hl.1 rfl (Nat.le_of_ble_eq_true rfl) dX7_may_2 ⟨Nat.zero_le _, Nat.zero_le _⟩ ?_
  refine lv_if_eq (tgt := 26) hx hb dX7_may_5 (by decide) (fun c_2 => ?_) (fun c_2 => ?_)
  · have h := it_p c_2 h
    refine lv_iconst (v := (-1)) hx hb dX7_may_26 (by decide) ?_
    exact W.iret hx hb hr (fun t ht hW => ⟨_, rfl, Option.some.inj h, ht⟩) (fun q hq => by cases hq) dX7_may_27
  · have h := it_n c_2 h
    refine lv_iload_n hx hb dX7_may_8 rfl (lv_at hl 2 rfl) ?_
    refine lv_iconst (v := 1) hx hb dX7_may_9 (by decide) ?_
    refine lv_icmp_lt (tgt := 26) hx hb dX7_may_10 (by decide) (fun c_3 => ?_) (fun c_3 => ?_)
    · have h := it_p c_3 h
      refine lv_iconst (v := (-1)) hx hb dX7_may_26 (by decide) ?_
      exact W.iret hx hb hr (fun t ht hW => ⟨_, rfl, Option.some.inj h, ht⟩) (fun q hq => by cases hq) dX7_may_27
    · have h := it_n c_3 h
      refine lv_iload_n hx hb dX7_may_13 rfl (lv_at hl 2 rfl) ?_
      refine lv_aload_n hx hb dX7_may_14 rfl (lv_at hl 0 rfl) ?_
      refine va_get (D := (dC, dI)) (ci := 6) (v := .ref aRn) (C := RX7) (T := TX7) (N := 6) hx hb hts (fun _ h => List.mem_cons_of_mem _ (List.mem_append_left _ (List.mem_append_right _ h))) hown hK hP 0 rfl rfl 0 (by decide) (hts (.fieldLink RX7 10 "SlateRows" "now" "LSlateRows$Roof;") (by decide +kernel)) (fun _ h9 => h9) rfl dX7_may_15 ?_
      refine va_get (D := (dC, dI)) (ci := 3) (v := .ref aRn_lengths) (C := RX3) (T := TX3) (N := 9) hx hb hts (fun _ h => List.mem_cons_of_mem _ (List.mem_append_right _ h)) hown hK hP 1 rfl rfl 3 (by decide) (hts (.fieldLink RX7 80 "SlateRows$Roof" "lengths" "[I") (by decide +kernel)) (fun _ h9 => h9) rfl dX7_may_18 ?_
      refine lv_iload_n hx hb dX7_may_21 rfl (lv_at hl 1 rfl) ?_
      obtain ⟨hi, h⟩ := ck_some h
      refine va_iald hx hb hK hP 5 0 rfl rfl (gi_in hi) dX7_may_22 ?_
      refine lv_icmp_lt (tgt := 28) hx hb dX7_may_23 (by decide) (fun c_4 => ?_) (fun c_4 => ?_)
      · have h := it_p c_4 h
        refine lv_aload_n hx hb dX7_may_28 rfl (lv_at hl 0 rfl) ?_
        refine va_get (D := (dC, dI)) (ci := 6) (v := .ref aRn) (C := RX7) (T := TX7) (N := 6) hx hb hts (fun _ h => List.mem_cons_of_mem _ (List.mem_append_left _ (List.mem_append_right _ h))) hown hK hP 0 rfl rfl 0 (by decide) (hts (.fieldLink RX7 10 "SlateRows" "now" "LSlateRows$Roof;") (by decide +kernel)) (fun _ h9 => h9) rfl dX7_may_29 ?_
        refine lv_iload_n hx hb dX7_may_32 rfl (lv_at hl 1 rfl) ?_
        refine lv_iload_n hx hb dX7_may_33 rfl (lv_at hl 2 rfl) ?_
        obtain ⟨r_5, hg, h⟩ := bd_some h
        refine rdV (As := [.int x1, .int x2]) (rest := []) (ci := 3) ⟨hx, hb, hml, hown, hts⟩ (k_X3_allowsJoint l dC dI cI cZ cS N aRn aRn_inches aRn_many aRn_worth aRn_lengths aRn_laid aRn_slates Rn_inches Rn_many Rn_worth Rn_lengths Rn_laid Rn_slates Rn_widths Rn_rows Rn_lap x1 x2 r_5 hg) (cwV 2 hts gX7_may_X3_allowsJoint rfl rfl rfl cd_X3_allowsJoint ⟨Nat.le_of_ble_eq_true rfl, Nat.le_of_ble_eq_true rfl⟩) hP hD hK [1, 2, 3, 4, 5, 6, 7] (by decide) rfl rfl rfl rfl hl.1 rfl (Nat.le_of_ble_eq_true rfl) dX7_may_34 ⟨Nat.zero_le _, Nat.zero_le _⟩ ?_
        refine lv_if_eq (tgt := 44) hx hb dX7_may_37 (by decide) (fun c_6 => ?_) (fun c_6 => ?_)
        · have h := it_p c_6 h
          refine lv_iconst (v := 0) hx hb dX7_may_44 (by decide) ?_
          exact W.iret hx hb hr (fun t ht hW => ⟨_, rfl, Option.some.inj h, ht⟩) (fun q hq => by cases hq) dX7_may_45
        · have h := it_n c_6 h
          refine lv_iconst (v := 1) hx hb dX7_may_40 (by decide) ?_
          refine lv_goto (tgt := 45) hx hb dX7_may_41 (by decide) ?_
          exact W.iret hx hb hr (fun t ht hW => ⟨_, rfl, Option.some.inj h, ht⟩) (fun q hq => by cases hq) dX7_may_45
      · have h := it_n c_4 h
        refine lv_iconst (v := (-1)) hx hb dX7_may_26 (by decide) ?_
        exact W.iret hx hb hr (fun t ht hW => ⟨_, rfl, Option.some.inj h, ht⟩) (fun q hq => by cases hq) dX7_may_27
def f_X7_takeUp (N : Nat) (Rn_inches : Nat → Int32) (Rn_many : Nat → Int32) (Rn_lengths : Nat → Int32) (Rn_laid : Nat → Int32) (Rn_slates : Nat → Int32) (Rn_rows : Int32) (x1 : Int32) : Option (Int32 × (Nat → Int32) × (Nat → Int32)) :=
  (f_X7_isRow N Rn_rows x1).bind fun r_1 => if (b2i r_1) = 0 then (some ((-1), Rn_many, Rn_laid)) else (ck (gi x1 6) (if (Rn_laid x1.toNatClampNeg) = 0 then (some ((-3), Rn_many, Rn_laid)) else ((f_X3_bringBack N Rn_inches Rn_many Rn_lengths Rn_laid Rn_slates x1).bind fun r_4 => some (r_4.1, r_4.2.1, r_4.2.2))))
set_option maxHeartbeats 4000000 in
set_option maxRecDepth 100000 in
theorem k_X7_takeUp (l : Launch) (dC : Nat → ClassId) (dI : Nat → Nat → Nat) (cI cZ cS : ClassId) (N : Nat) (aS aRn aRn_inches aRn_many aRn_worth aRn_lengths aRn_laid aRn_slates aKept aMind aShv : Nat) (sz : Nat) (S_isKept : Int32) (S_ways : Option Nat) (Rn_inches : Nat → Int32) (Rn_many : Nat → Int32) (Rn_worth : Nat → Int32) (Rn_lengths : Nat → Int32) (Rn_laid : Nat → Int32) (Rn_slates : Nat → Int32) (Rn_widths : Int32) (Rn_rows : Int32) (Rn_lap : Int32) (x1 : Int32) (res : Int32 × (Nat → Int32) × (Nat → Int32)) (h : f_X7_takeUp N Rn_inches Rn_many Rn_lengths Rn_laid Rn_slates Rn_rows x1 = some res) : Met l yX7_takeUp wsX7_takeUp ({ frames := 5, cells := 0, slots := 0, locals := 113 }) (va_Pc [.ref aS, .int x1] (preW (dC, dI) cI cZ cS [(aS, .inr (6, [.ref aRn, .ref aKept, .ref aMind, .ref aShv, .int S_isKept, va_rf S_ways])), (aRn, .inr (3, [.ref aRn_inches, .ref aRn_many, .ref aRn_worth, .ref aRn_lengths, .ref aRn_laid, .ref aRn_slates, .int Rn_widths, .int Rn_rows, .int Rn_lap])), (aRn_inches, .inl (cI, 4, .inl Rn_inches)), (aRn_many, .inl (cI, 4, .inl Rn_many)), (aRn_worth, .inl (cI, 4, .inl Rn_worth)), (aRn_lengths, .inl (cI, 6, .inl Rn_lengths)), (aRn_laid, .inl (cI, 6, .inl Rn_laid)), (aRn_slates, .inl (cI, 72, .inl Rn_slates))] sz)) (va_Qi (fun (r : Int32) (_ : Unit) => r = res.1) (fun _ => qW (dC, dI) cI cZ cS (va_A [(aS, .inr (6, [.ref aRn, .ref aKept, .ref aMind, .ref aShv, .int S_isKept, va_rf S_ways])), (aRn, .inr (3, [.ref aRn_inches, .ref aRn_many, .ref aRn_worth, .ref aRn_lengths, .ref aRn_laid, .ref aRn_slates, .int Rn_widths, .int Rn_rows, .int Rn_lap])), (aRn_inches, .inl (cI, 4, .inl Rn_inches)), (aRn_many, .inl (cI, 4, .inl Rn_many)), (aRn_worth, .inl (cI, 4, .inl Rn_worth)), (aRn_lengths, .inl (cI, 6, .inl Rn_lengths)), (aRn_laid, .inl (cI, 6, .inl Rn_laid)), (aRn_slates, .inl (cI, 72, .inl Rn_slates))] sz) [(aS, .inr (6, [.ref aRn, .ref aKept, .ref aMind, .ref aShv, .int S_isKept, va_rf S_ways])), (aRn, .inr (3, [.ref aRn_inches, .ref aRn_many, .ref aRn_worth, .ref aRn_lengths, .ref aRn_laid, .ref aRn_slates, .int Rn_widths, .int Rn_rows, .int Rn_lap])), (aRn_inches, .inl (cI, 4, .inl Rn_inches)), (aRn_many, .inl (cI, 4, .inl res.2.1)), (aRn_worth, .inl (cI, 4, .inl Rn_worth)), (aRn_lengths, .inl (cI, 6, .inl Rn_lengths)), (aRn_laid, .inl (cI, 6, .inl res.2.2)), (aRn_slates, .inl (cI, 72, .inl Rn_slates))]) (va_A [(aS, .inr (6, [.ref aRn, .ref aKept, .ref aMind, .ref aShv, .int S_isKept, va_rf S_ways])), (aRn, .inr (3, [.ref aRn_inches, .ref aRn_many, .ref aRn_worth, .ref aRn_lengths, .ref aRn_laid, .ref aRn_slates, .int Rn_widths, .int Rn_rows, .int Rn_lap])), (aRn_inches, .inl (cI, 4, .inl Rn_inches)), (aRn_many, .inl (cI, 4, .inl Rn_many)), (aRn_worth, .inl (cI, 4, .inl Rn_worth)), (aRn_lengths, .inl (cI, 6, .inl Rn_lengths)), (aRn_laid, .inl (cI, 6, .inl Rn_laid)), (aRn_slates, .inl (cI, 72, .inl Rn_slates))] sz)) 0 0 (va_A [(aS, .inr (6, [.ref aRn, .ref aKept, .ref aMind, .ref aShv, .int S_isKept, va_rf S_ways])), (aRn, .inr (3, [.ref aRn_inches, .ref aRn_many, .ref aRn_worth, .ref aRn_lengths, .ref aRn_laid, .ref aRn_slates, .int Rn_widths, .int Rn_rows, .int Rn_lap])), (aRn_inches, .inl (cI, 4, .inl Rn_inches)), (aRn_many, .inl (cI, 4, .inl Rn_many)), (aRn_worth, .inl (cI, 4, .inl Rn_worth)), (aRn_lengths, .inl (cI, 6, .inl Rn_lengths)), (aRn_laid, .inl (cI, 6, .inl Rn_laid)), (aRn_slates, .inl (cI, 72, .inl Rn_slates))] sz) := by
  refine Met.ofW (cc := cX7_takeUp) (maxL := 2) (ret := (some .int)) (by decide) rfl ?_
  intro p e s m args below meth c s₁ B hml hv
  obtain ⟨rfl, hsz, hP, hK, hD0⟩ := hv
  have hx := B.exec
  have hb := B.bytes
  have hr := B.returns
  have hts := atoms_spec (ws := wsX7_takeUp) B.pre
  have hown : s.vm.findClass RX7 = some m.cls := findClass_of_methodNamed B.named
  have hlocks := B.notSynchronized
  subst hsz
  have hD := hD0.self (sz := s.heap.size)
  generalize hAe : va_A [(aS, .inr (6, [.ref aRn, .ref aKept, .ref aMind, .ref aShv, .int S_isKept, va_rf S_ways])), (aRn, .inr (3, [.ref aRn_inches, .ref aRn_many, .ref aRn_worth, .ref aRn_lengths, .ref aRn_laid, .ref aRn_slates, .int Rn_widths, .int Rn_rows, .int Rn_lap])), (aRn_inches, .inl (cI, 4, .inl Rn_inches)), (aRn_many, .inl (cI, 4, .inl Rn_many)), (aRn_worth, .inl (cI, 4, .inl Rn_worth)), (aRn_lengths, .inl (cI, 6, .inl Rn_lengths)), (aRn_laid, .inl (cI, 6, .inl Rn_laid)), (aRn_slates, .inl (cI, 72, .inl Rn_slates))] s.heap.size = A at hD ⊢
  have hA : ∀ q : Nat, s.heap.size ≤ q → A q := fun q h => by rw [← hAe]; exact Or.inr h
  have hS : va_S A s.heap s.heap [] := va_S.rf
  have hl := lv_entry ([.ref aS, .int x1]) (n := 2) (Nat.le_of_ble_eq_true rfl)
  rw [lg_entry_eq]
  generalize (lg_sl ([.ref aS, .int x1]) ++ List.replicate (2 - (lg_sl ([.ref aS, .int x1])).length) Slot.unset).toArray = ls at hl ⊢
  have hl : lv_has ls 2 [(0, .ref aS), (1, .int x1)] := hl
  unfold f_X7_takeUp at h
  refine lv_aload_n hx hb dX7_takeUp_0 rfl (lv_at hl 0 rfl) ?_
  refine lv_iload_n hx hb dX7_takeUp_1 rfl (lv_at hl 1 rfl) ?_
  obtain ⟨r_1, hg, h⟩ := bd_some h
  refine rdV (As := [.int x1]) (rest := []) (ci := 6) ⟨hx, hb, hml, hown, hts⟩ (k_X7_isRow l dC dI cI cZ cS N aS aRn aRn_inches aRn_many aRn_worth aRn_lengths aRn_laid aRn_slates aKept aMind aShv S_isKept S_ways Rn_inches Rn_many Rn_worth Rn_lengths Rn_laid Rn_slates Rn_widths Rn_rows Rn_lap x1 r_1 hg) (cwV 1 hts gX7_takeUp_X7_isRow rfl rfl rfl cd_X7_isRow ⟨Nat.le_of_ble_eq_true rfl, Nat.le_of_ble_eq_true rfl⟩) hP hD hK [0, 1, 2, 3, 4, 5, 6, 7] (by decide) rfl rfl rfl rfl hl.1 rfl (Nat.le_of_ble_eq_true rfl) dX7_takeUp_2 ⟨Nat.zero_le _, Nat.zero_le _⟩ ?_
  refine lv_if_ne (tgt := 10) hx hb dX7_takeUp_5 (by decide) (fun c_2 => ?_) (fun c_2 => ?_)
  · have h := it_n c_2 h
    refine lv_aload_n hx hb dX7_takeUp_10 rfl (lv_at hl 0 rfl) ?_
    refine va_get (D := (dC, dI)) (ci := 6) (v := .ref aRn) (C := RX7) (T := TX7) (N := 6) hx hb hts (fun _ h => List.mem_cons_of_mem _ (List.mem_append_left _ (List.mem_append_right _ h))) hown hK hP 0 rfl rfl 0 (by decide) (hts (.fieldLink RX7 10 "SlateRows" "now" "LSlateRows$Roof;") (by decide +kernel)) (fun _ h9 => h9) rfl dX7_takeUp_11 ?_
    refine va_get (D := (dC, dI)) (ci := 3) (v := .ref aRn_laid) (C := RX3) (T := TX3) (N := 9) hx hb hts (fun _ h => List.mem_cons_of_mem _ (List.mem_append_right _ h)) hown hK hP 1 rfl rfl 4 (by decide) (hts (.fieldLink RX7 83 "SlateRows$Roof" "laid" "[I") (by decide +kernel)) (fun _ h9 => h9) rfl dX7_takeUp_14 ?_
    refine lv_iload_n hx hb dX7_takeUp_17 rfl (lv_at hl 1 rfl) ?_
    obtain ⟨hi, h⟩ := ck_some h
    refine va_iald hx hb hK hP 6 0 rfl rfl (gi_in hi) dX7_takeUp_18 ?_
    refine lv_if_ne (tgt := 27) hx hb dX7_takeUp_19 (by decide) (fun c_3 => ?_) (fun c_3 => ?_)
    · have h := it_n c_3 h
      refine lv_aload_n hx hb dX7_takeUp_27 rfl (lv_at hl 0 rfl) ?_
      refine va_get (D := (dC, dI)) (ci := 6) (v := .ref aRn) (C := RX7) (T := TX7) (N := 6) hx hb hts (fun _ h => List.mem_cons_of_mem _ (List.mem_append_left _ (List.mem_append_right _ h))) hown hK hP 0 rfl rfl 0 (by decide) (hts (.fieldLink RX7 10 "SlateRows" "now" "LSlateRows$Roof;") (by decide +kernel)) (fun _ h9 => h9) rfl dX7_takeUp_28 ?_
      refine lv_iload_n hx hb dX7_takeUp_31 rfl (lv_at hl 1 rfl) ?_
      obtain ⟨r_4, hg, h⟩ := bd_some h
      refine mtVi (As := [.int x1]) (rest := []) (ci := 3) (wr := [(aS, .inr (6, [.ref aRn, .ref aKept, .ref aMind, .ref aShv, .int S_isKept, va_rf S_ways]))]) (w2 := [(aS, .inr (6, [.ref aRn, .ref aKept, .ref aMind, .ref aShv, .int S_isKept, va_rf S_ways])), (aRn, .inr (3, [.ref aRn_inches, .ref aRn_many, .ref aRn_worth, .ref aRn_lengths, .ref aRn_laid, .ref aRn_slates, .int Rn_widths, .int Rn_rows, .int Rn_lap])), (aRn_inches, .inl (cI, 4, .inl Rn_inches)), (aRn_many, .inl (cI, 4, .inl r_4.2.1)), (aRn_worth, .inl (cI, 4, .inl Rn_worth)), (aRn_lengths, .inl (cI, 6, .inl Rn_lengths)), (aRn_laid, .inl (cI, 6, .inl r_4.2.2)), (aRn_slates, .inl (cI, 72, .inl Rn_slates))]) ⟨hx, hb, hml, hown, hts⟩ (k_X3_bringBack l dC dI cI cZ cS N aRn aRn_inches aRn_many aRn_worth aRn_lengths aRn_laid aRn_slates _ Rn_inches Rn_many Rn_worth Rn_lengths Rn_laid Rn_slates Rn_widths Rn_rows Rn_lap x1 r_4 hg) (cwV 1 hts gX7_takeUp_X3_bringBack rfl rfl rfl cd_X3_bringBack ⟨Nat.le_of_ble_eq_true rfl, Nat.le_of_ble_eq_true rfl⟩) hP hD hK hS hA [1, 2, 3, 4, 5, 6, 7] [0] [0, 1, 2, 3, 4, 5, 6, 7] (by decide) (by decide) (by decide) (by decide) rfl rfl rfl rfl rfl rfl hl.1 rfl (Nat.le_of_ble_eq_true rfl) dX7_takeUp_32 ⟨Nat.zero_le _, Nat.zero_le _⟩ (fun H locs hP hD hS => ?_)
      have h := Option.some.inj h
      exact W.iret hx hb hr (fun t ht hW => ⟨⟨_, (), rfl, by rw [← h], by (try rw [← h]); rw [ht]; exact hP, va_K.moved hW.alike hK, by (try rw [← h]); exact hD⟩, hS.F ht⟩) hS.2.2 dX7_takeUp_35
    · have h := it_p c_3 h
      refine lv_bipush (v := (-3)) hx hb dX7_takeUp_22 (by decide) ?_
      refine lv_goto (tgt := 35) hx hb dX7_takeUp_24 (by decide) ?_
      have h := Option.some.inj h
      exact W.iret hx hb hr (fun t ht hW => ⟨⟨_, (), rfl, by rw [← h], by (try rw [← h]); rw [ht]; exact hP, va_K.moved hW.alike hK, by (try rw [← h]); exact hD⟩, hS.F ht⟩) hS.2.2 dX7_takeUp_35
  · have h := it_p c_2 h
    refine lv_iconst (v := (-1)) hx hb dX7_takeUp_8 (by decide) ?_
    have h := Option.some.inj h
    exact W.iret hx hb hr (fun t ht hW => ⟨⟨_, (), rfl, by rw [← h], by (try rw [← h]); rw [ht]; exact hP, va_K.moved hW.alike hK, by (try rw [← h]); exact hD⟩, hS.F ht⟩) hS.2.2 dX7_takeUp_9
def f_X7_gaps_L14 (N : Nat) (Rn_inches : Nat → Int32) (Rn_lengths : Nat → Int32) (Rn_laid : Nat → Int32) (Rn_slates : Nat → Int32) (Rn_rows : Int32) (Rn_lap : Int32) (x1 : Int32) : Nat → Int32 → Int32 → Option (Int32)
  | 0, _, _ => none
  | n + 1, v2, v3 =>
    ck (gi x1 6) (if (Rn_lengths x1.toNatClampNeg) ≤ v3 then (some (v2)) else ((f_X3_allowsJoint N Rn_inches Rn_laid Rn_slates Rn_lap x1 v3).bind fun r_4 => if (b2i r_4) = 0 then (f_X7_gaps_L14 N Rn_inches Rn_lengths Rn_laid Rn_slates Rn_rows Rn_lap x1 n v2 (v3 + 1)) else (f_X7_gaps_L14 N Rn_inches Rn_lengths Rn_laid Rn_slates Rn_rows Rn_lap x1 n (v2 + 1) (v3 + 1))))
def f_X7_gaps (N : Nat) (Rn_inches : Nat → Int32) (Rn_lengths : Nat → Int32) (Rn_laid : Nat → Int32) (Rn_slates : Nat → Int32) (Rn_rows : Int32) (Rn_lap : Int32) (x1 : Int32) : Option (Int32) :=
  (f_X7_isRow N Rn_rows x1).bind fun r_1 => if (b2i r_1) = 0 then (some ((-1))) else (f_X7_gaps_L14 N Rn_inches Rn_lengths Rn_laid Rn_slates Rn_rows Rn_lap x1 N 0 1)
set_option maxHeartbeats 4000000 in
set_option maxRecDepth 100000 in
theorem k_X7_gaps (l : Launch) (dC : Nat → ClassId) (dI : Nat → Nat → Nat) (cI cZ cS : ClassId) (N : Nat) (aS aRn aRn_inches aRn_many aRn_worth aRn_lengths aRn_laid aRn_slates aKept aMind aShv : Nat) (S_isKept : Int32) (S_ways : Option Nat) (Rn_inches : Nat → Int32) (Rn_many : Nat → Int32) (Rn_worth : Nat → Int32) (Rn_lengths : Nat → Int32) (Rn_laid : Nat → Int32) (Rn_slates : Nat → Int32) (Rn_widths : Int32) (Rn_rows : Int32) (Rn_lap : Int32) (x1 : Int32) (res : Int32) (h : f_X7_gaps N Rn_inches Rn_lengths Rn_laid Rn_slates Rn_rows Rn_lap x1 = some res) : Met l yX7_gaps wsX7_gaps ({ frames := 2, cells := 0, slots := 0, locals := 46 }) (va_Pc [.ref aS, .int x1] (wd (dC, dI) cI cZ cS [(aS, .inr (6, [.ref aRn, .ref aKept, .ref aMind, .ref aShv, .int S_isKept, va_rf S_ways])), (aRn, .inr (3, [.ref aRn_inches, .ref aRn_many, .ref aRn_worth, .ref aRn_lengths, .ref aRn_laid, .ref aRn_slates, .int Rn_widths, .int Rn_rows, .int Rn_lap])), (aRn_inches, .inl (cI, 4, .inl Rn_inches)), (aRn_many, .inl (cI, 4, .inl Rn_many)), (aRn_worth, .inl (cI, 4, .inl Rn_worth)), (aRn_lengths, .inl (cI, 6, .inl Rn_lengths)), (aRn_laid, .inl (cI, 6, .inl Rn_laid)), (aRn_slates, .inl (cI, 72, .inl Rn_slates))])) (vp_Si (fun r => r = res)) 0 0 (fun _ => False) := by
  refine Met.ofW (cc := cX7_gaps) (maxL := 4) (ret := (some .int)) (by decide) rfl ?_
  intro p e s m args below meth c s₁ B hml hv
  obtain ⟨rfl, hP, hK, hD⟩ := hv
  have hx := B.exec
  have hb := B.bytes
  have hr := B.returns
  have hts := atoms_spec (ws := wsX7_gaps) B.pre
  have hown : s.vm.findClass RX7 = some m.cls := findClass_of_methodNamed B.named
  have hlocks := B.notSynchronized
  have hl := lv_entry ([.ref aS, .int x1]) (n := 4) (Nat.le_of_ble_eq_true rfl)
  rw [lg_entry_eq]
  generalize (lg_sl ([.ref aS, .int x1]) ++ List.replicate (4 - (lg_sl ([.ref aS, .int x1])).length) Slot.unset).toArray = ls at hl ⊢
  have hl : lv_has ls 4 [(0, .ref aS), (1, .int x1)] := hl
  unfold f_X7_gaps at h
  refine lv_aload_n hx hb dX7_gaps_0 rfl (lv_at hl 0 rfl) ?_
  refine lv_iload_n hx hb dX7_gaps_1 rfl (lv_at hl 1 rfl) ?_
  obtain ⟨r_1, hg, h⟩ := bd_some h
  refine rdV (As := [.int x1]) (rest := []) (ci := 6) ⟨hx, hb, hml, hown, hts⟩ (k_X7_isRow l dC dI cI cZ cS N aS aRn aRn_inches aRn_many aRn_worth aRn_lengths aRn_laid aRn_slates aKept aMind aShv S_isKept S_ways Rn_inches Rn_many Rn_worth Rn_lengths Rn_laid Rn_slates Rn_widths Rn_rows Rn_lap x1 r_1 hg) (cwV 1 hts gX7_gaps_X7_isRow rfl rfl rfl cd_X7_isRow ⟨Nat.le_of_ble_eq_true rfl, Nat.le_of_ble_eq_true rfl⟩) hP hD hK [0, 1, 2, 3, 4, 5, 6, 7] (by decide) rfl rfl rfl rfl hl.1 rfl (Nat.le_of_ble_eq_true rfl) dX7_gaps_2 ⟨Nat.zero_le _, Nat.zero_le _⟩ ?_
  refine lv_if_ne (tgt := 10) hx hb dX7_gaps_5 (by decide) (fun c_2 => ?_) (fun c_2 => ?_)
  · have h := it_n c_2 h
    refine lv_iconst (v := 0) hx hb dX7_gaps_10 (by decide) ?_
    refine lv_istore_n (lv' := [(2, .int 0), (0, .ref aS), (1, .int x1)]) hx hb dX7_gaps_11 rfl hl (by decide) rfl (fun ls hl => ?_)
    refine lv_iconst (v := 1) hx hb dX7_gaps_12 (by decide) ?_
    refine lv_istore_n (lv' := [(3, .int 1), (2, .int 0), (0, .ref aS), (1, .int x1)]) hx hb dX7_gaps_13 rfl hl (by decide) rfl (fun ls hl => ?_)
    have L14_5 : ∀ (n_6 : Nat) (v2_7 : Int32) (v3_8 : Int32)  (ls : Array Slot), f_X7_gaps_L14 N Rn_inches Rn_lengths Rn_laid Rn_slates Rn_rows Rn_lap x1 n_6 v2_7 v3_8 = some res → lv_has ls 4 [(0, .ref aS), (1, .int x1), (2, .int v2_7), (3, .int v3_8)] → W p l e (headSpec wsX7_gaps ({ frames := 2, cells := 0, slots := 0, locals := 46 })).room s m ([.ref aS, .int x1] : List Value).toArray below meth c s.heap [] 0 0 (MQ below (vp_Si (fun r => r = res)) ([.ref aS, .int x1] : List Value).toArray s 0 0 (fun _ => False)) (F0 m 14 ls []) := by
      intro n_6
      induction n_6 with
      | zero =>
        intro v2_7 v3_8 ls h
        simp only [f_X7_gaps_L14] at h
        try exact absurd h (by simp)
      | succ n_6 ihn_6 =>
        intro v2_7 v3_8 ls h hl
        rw [f_X7_gaps_L14] at h
        refine lv_iload_n hx hb dX7_gaps_14 rfl (lv_at hl 3 rfl) ?_
        refine lv_aload_n hx hb dX7_gaps_15 rfl (lv_at hl 0 rfl) ?_
        refine va_get (D := (dC, dI)) (ci := 6) (v := .ref aRn) (C := RX7) (T := TX7) (N := 6) hx hb hts (fun _ h => List.mem_cons_of_mem _ (List.mem_append_left _ (List.mem_append_right _ h))) hown hK hP 0 rfl rfl 0 (by decide) (hts (.fieldLink RX7 10 "SlateRows" "now" "LSlateRows$Roof;") (by decide +kernel)) (fun _ h9 => h9) rfl dX7_gaps_16 ?_
        refine va_get (D := (dC, dI)) (ci := 3) (v := .ref aRn_lengths) (C := RX3) (T := TX3) (N := 9) hx hb hts (fun _ h => List.mem_cons_of_mem _ (List.mem_append_right _ h)) hown hK hP 1 rfl rfl 3 (by decide) (hts (.fieldLink RX7 80 "SlateRows$Roof" "lengths" "[I") (by decide +kernel)) (fun _ h9 => h9) rfl dX7_gaps_19 ?_
        refine lv_iload_n hx hb dX7_gaps_22 rfl (lv_at hl 1 rfl) ?_
        obtain ⟨hi, h⟩ := ck_some h
        refine va_iald hx hb hK hP 5 0 rfl rfl (gi_in hi) dX7_gaps_23 ?_
        refine lv_icmp_ge (tgt := 48) hx hb dX7_gaps_24 (by decide) (fun c_9 => ?_) (fun c_9 => ?_)
        · have h := it_p c_9 h
          refine lv_iload_n hx hb dX7_gaps_48 rfl (lv_at hl 2 rfl) ?_
          exact W.iret hx hb hr (fun t ht hW => ⟨_, rfl, Option.some.inj h, ht⟩) (fun q hq => by cases hq) dX7_gaps_49
        · have h := it_n c_9 h
          refine lv_aload_n hx hb dX7_gaps_27 rfl (lv_at hl 0 rfl) ?_
          refine va_get (D := (dC, dI)) (ci := 6) (v := .ref aRn) (C := RX7) (T := TX7) (N := 6) hx hb hts (fun _ h => List.mem_cons_of_mem _ (List.mem_append_left _ (List.mem_append_right _ h))) hown hK hP 0 rfl rfl 0 (by decide) (hts (.fieldLink RX7 10 "SlateRows" "now" "LSlateRows$Roof;") (by decide +kernel)) (fun _ h9 => h9) rfl dX7_gaps_28 ?_
          refine lv_iload_n hx hb dX7_gaps_31 rfl (lv_at hl 1 rfl) ?_
          refine lv_iload_n hx hb dX7_gaps_32 rfl (lv_at hl 3 rfl) ?_
          obtain ⟨r_10, hg, h⟩ := bd_some h
          refine rdV (As := [.int x1, .int v3_8]) (rest := []) (ci := 3) ⟨hx, hb, hml, hown, hts⟩ (k_X3_allowsJoint l dC dI cI cZ cS N aRn aRn_inches aRn_many aRn_worth aRn_lengths aRn_laid aRn_slates Rn_inches Rn_many Rn_worth Rn_lengths Rn_laid Rn_slates Rn_widths Rn_rows Rn_lap x1 v3_8 r_10 hg) (cwV 2 hts gX7_gaps_X3_allowsJoint rfl rfl rfl cd_X3_allowsJoint ⟨Nat.le_of_ble_eq_true rfl, Nat.le_of_ble_eq_true rfl⟩) hP hD hK [1, 2, 3, 4, 5, 6, 7] (by decide) rfl rfl rfl rfl hl.1 rfl (Nat.le_of_ble_eq_true rfl) dX7_gaps_33 ⟨Nat.zero_le _, Nat.zero_le _⟩ ?_
          refine lv_if_eq (tgt := 42) hx hb dX7_gaps_36 (by decide) (fun c_11 => ?_) (fun c_11 => ?_)
          · have h := it_p c_11 h
            refine lv_iinc (v := (v3_8 + 1)) (lv' := [(3, .int (v3_8 + 1)), (0, .ref aS), (1, .int x1), (2, .int v2_7)]) hx hb dX7_gaps_42 hl (k := 3) rfl rfl (by decide) rfl (fun ls hl => ?_)
            refine lv_goto (tgt := 14) hx hb dX7_gaps_45 (by decide) ?_
            exact ihn_6 v2_7 (v3_8 + 1) ls h (lv_sub hl [1, 2, 3, 0] rfl)
          · have h := it_n c_11 h
            refine lv_iinc (v := (v2_7 + 1)) (lv' := [(2, .int (v2_7 + 1)), (0, .ref aS), (1, .int x1), (3, .int v3_8)]) hx hb dX7_gaps_39 hl (k := 2) rfl rfl (by decide) rfl (fun ls hl => ?_)
            refine lv_iinc (v := (v3_8 + 1)) (lv' := [(3, .int (v3_8 + 1)), (2, .int (v2_7 + 1)), (0, .ref aS), (1, .int x1)]) hx hb dX7_gaps_42 hl (k := 3) rfl rfl (by decide) rfl (fun ls hl => ?_)
            refine lv_goto (tgt := 14) hx hb dX7_gaps_45 (by decide) ?_
            exact ihn_6 (v2_7 + 1) (v3_8 + 1) ls h (lv_sub hl [2, 3, 1, 0] rfl)
    exact L14_5 N 0 1 ls h (lv_sub hl [2, 3, 1, 0] rfl)
  · have h := it_p c_2 h
    refine lv_iconst (v := (-1)) hx hb dX7_gaps_8 (by decide) ?_
    exact W.iret hx hb hr (fun t ht hW => ⟨_, rfl, Option.some.inj h, ht⟩) (fun q hq => by cases hq) dX7_gaps_9
def f_X7_count (N : Nat) (Rn_many : Nat → Int32) (Rn_worth : Nat → Int32) (Rn_laid : Nat → Int32) (Rn_widths : Int32) (Rn_rows : Int32) (Rn_lap : Int32) (x1 : Int32) : Option (Int32) :=
  if x1 = 0 then (some (Rn_widths)) else (if x1 = 1 then (some (Rn_rows)) else (if x1 = 2 then (some (Rn_lap)) else (if x1 = 3 then ((f_X3_slatesInHeap N Rn_many Rn_widths).bind fun r_5 => some (r_5)) else (if x1 = 4 then ((f_X3_rowsLaid N Rn_laid Rn_rows).bind fun r_7 => some (r_7)) else (if x1 = 5 then ((f_X3_worthOfHeap N Rn_many Rn_worth Rn_widths).bind fun r_9 => some (r_9)) else (some ((-1))))))))
set_option maxHeartbeats 4000000 in
set_option maxRecDepth 100000 in
theorem k_X7_count (l : Launch) (dC : Nat → ClassId) (dI : Nat → Nat → Nat) (cI cZ cS : ClassId) (N : Nat) (aS aRn aRn_inches aRn_many aRn_worth aRn_lengths aRn_laid aRn_slates aKept aMind aShv : Nat) (S_isKept : Int32) (S_ways : Option Nat) (Rn_inches : Nat → Int32) (Rn_many : Nat → Int32) (Rn_worth : Nat → Int32) (Rn_lengths : Nat → Int32) (Rn_laid : Nat → Int32) (Rn_slates : Nat → Int32) (Rn_widths : Int32) (Rn_rows : Int32) (Rn_lap : Int32) (x1 : Int32) (res : Int32) (h : f_X7_count N Rn_many Rn_worth Rn_laid Rn_widths Rn_rows Rn_lap x1 = some res) : Met l yX7_count wsX7_count ({ frames := 1, cells := 0, slots := 0, locals := 22 }) (va_Pc [.ref aS, .int x1] (wd (dC, dI) cI cZ cS [(aS, .inr (6, [.ref aRn, .ref aKept, .ref aMind, .ref aShv, .int S_isKept, va_rf S_ways])), (aRn, .inr (3, [.ref aRn_inches, .ref aRn_many, .ref aRn_worth, .ref aRn_lengths, .ref aRn_laid, .ref aRn_slates, .int Rn_widths, .int Rn_rows, .int Rn_lap])), (aRn_inches, .inl (cI, 4, .inl Rn_inches)), (aRn_many, .inl (cI, 4, .inl Rn_many)), (aRn_worth, .inl (cI, 4, .inl Rn_worth)), (aRn_lengths, .inl (cI, 6, .inl Rn_lengths)), (aRn_laid, .inl (cI, 6, .inl Rn_laid)), (aRn_slates, .inl (cI, 72, .inl Rn_slates))])) (vp_Si (fun r => r = res)) 0 0 (fun _ => False) := by
  refine Met.ofW (cc := cX7_count) (maxL := 2) (ret := (some .int)) (by decide) rfl ?_
  intro p e s m args below meth c s₁ B hml hv
  obtain ⟨rfl, hP, hK, hD⟩ := hv
  have hx := B.exec
  have hb := B.bytes
  have hr := B.returns
  have hts := atoms_spec (ws := wsX7_count) B.pre
  have hown : s.vm.findClass RX7 = some m.cls := findClass_of_methodNamed B.named
  have hlocks := B.notSynchronized
  have hl := lv_entry ([.ref aS, .int x1]) (n := 2) (Nat.le_of_ble_eq_true rfl)
  rw [lg_entry_eq]
  generalize (lg_sl ([.ref aS, .int x1]) ++ List.replicate (2 - (lg_sl ([.ref aS, .int x1])).length) Slot.unset).toArray = ls at hl ⊢
  have hl : lv_has ls 2 [(0, .ref aS), (1, .int x1)] := hl
  unfold f_X7_count at h
  refine lv_iload_n hx hb dX7_count_0 rfl (lv_at hl 1 rfl) ?_
  by_cases c_1 : x1 = 0
  · have h := it_p c_1 h
    refine lv_tableIn (tgt := 40) hx hb dX7_count_1 (by rw [c_1]; decide) (by rw [c_1]; decide) (by rw [c_1]; rfl) (by decide) ?_
    refine lv_aload_n hx hb dX7_count_40 rfl (lv_at hl 0 rfl) ?_
    refine va_get (D := (dC, dI)) (ci := 6) (v := .ref aRn) (C := RX7) (T := TX7) (N := 6) hx hb hts (fun _ h => List.mem_cons_of_mem _ (List.mem_append_left _ (List.mem_append_right _ h))) hown hK hP 0 rfl rfl 0 (by decide) (hts (.fieldLink RX7 10 "SlateRows" "now" "LSlateRows$Roof;") (by decide +kernel)) (fun _ h9 => h9) rfl dX7_count_41 ?_
    refine va_get (D := (dC, dI)) (ci := 3) (v := .int Rn_widths) (C := RX3) (T := TX3) (N := 9) hx hb hts (fun _ h => List.mem_cons_of_mem _ (List.mem_append_right _ h)) hown hK hP 1 rfl rfl 6 (by decide) (hts (.fieldLink RX7 213 "SlateRows$Roof" "widths" "I") (by decide +kernel)) (fun _ h9 => h9) rfl dX7_count_44 ?_
    exact W.iret hx hb hr (fun t ht hW => ⟨_, rfl, Option.some.inj h, ht⟩) (fun q hq => by cases hq) dX7_count_47
  have h := it_n c_1 h
  by_cases c_2 : x1 = 1
  · have h := it_p c_2 h
    refine lv_tableIn (tgt := 48) hx hb dX7_count_1 (by rw [c_2]; decide) (by rw [c_2]; decide) (by rw [c_2]; rfl) (by decide) ?_
    refine lv_aload_n hx hb dX7_count_48 rfl (lv_at hl 0 rfl) ?_
    refine va_get (D := (dC, dI)) (ci := 6) (v := .ref aRn) (C := RX7) (T := TX7) (N := 6) hx hb hts (fun _ h => List.mem_cons_of_mem _ (List.mem_append_left _ (List.mem_append_right _ h))) hown hK hP 0 rfl rfl 0 (by decide) (hts (.fieldLink RX7 10 "SlateRows" "now" "LSlateRows$Roof;") (by decide +kernel)) (fun _ h9 => h9) rfl dX7_count_49 ?_
    refine va_get (D := (dC, dI)) (ci := 3) (v := .int Rn_rows) (C := RX3) (T := TX3) (N := 9) hx hb hts (fun _ h => List.mem_cons_of_mem _ (List.mem_append_right _ h)) hown hK hP 1 rfl rfl 7 (by decide) (hts (.fieldLink RX7 166 "SlateRows$Roof" "rows" "I") (by decide +kernel)) (fun _ h9 => h9) rfl dX7_count_52 ?_
    exact W.iret hx hb hr (fun t ht hW => ⟨_, rfl, Option.some.inj h, ht⟩) (fun q hq => by cases hq) dX7_count_55
  have h := it_n c_2 h
  by_cases c_3 : x1 = 2
  · have h := it_p c_3 h
    refine lv_tableIn (tgt := 56) hx hb dX7_count_1 (by rw [c_3]; decide) (by rw [c_3]; decide) (by rw [c_3]; rfl) (by decide) ?_
    refine lv_aload_n hx hb dX7_count_56 rfl (lv_at hl 0 rfl) ?_
    refine va_get (D := (dC, dI)) (ci := 6) (v := .ref aRn) (C := RX7) (T := TX7) (N := 6) hx hb hts (fun _ h => List.mem_cons_of_mem _ (List.mem_append_left _ (List.mem_append_right _ h))) hown hK hP 0 rfl rfl 0 (by decide) (hts (.fieldLink RX7 10 "SlateRows" "now" "LSlateRows$Roof;") (by decide +kernel)) (fun _ h9 => h9) rfl dX7_count_57 ?_
    refine va_get (D := (dC, dI)) (ci := 3) (v := .int Rn_lap) (C := RX3) (T := TX3) (N := 9) hx hb hts (fun _ h => List.mem_cons_of_mem _ (List.mem_append_right _ h)) hown hK hP 1 rfl rfl 8 (by decide) (hts (.fieldLink RX7 74 "SlateRows$Roof" "lap" "I") (by decide +kernel)) (fun _ h9 => h9) rfl dX7_count_60 ?_
    exact W.iret hx hb hr (fun t ht hW => ⟨_, rfl, Option.some.inj h, ht⟩) (fun q hq => by cases hq) dX7_count_63
  have h := it_n c_3 h
  by_cases c_4 : x1 = 3
  · have h := it_p c_4 h
    refine lv_tableIn (tgt := 64) hx hb dX7_count_1 (by rw [c_4]; decide) (by rw [c_4]; decide) (by rw [c_4]; rfl) (by decide) ?_
    refine lv_aload_n hx hb dX7_count_64 rfl (lv_at hl 0 rfl) ?_
    refine va_get (D := (dC, dI)) (ci := 6) (v := .ref aRn) (C := RX7) (T := TX7) (N := 6) hx hb hts (fun _ h => List.mem_cons_of_mem _ (List.mem_append_left _ (List.mem_append_right _ h))) hown hK hP 0 rfl rfl 0 (by decide) (hts (.fieldLink RX7 10 "SlateRows" "now" "LSlateRows$Roof;") (by decide +kernel)) (fun _ h9 => h9) rfl dX7_count_65 ?_
    obtain ⟨r_5, hg, h⟩ := bd_some h
    refine rdV (As := []) (rest := []) (ci := 3) ⟨hx, hb, hml, hown, hts⟩ (k_X3_slatesInHeap l dC dI cI cZ cS N aRn aRn_inches aRn_many aRn_worth aRn_lengths aRn_laid aRn_slates Rn_inches Rn_many Rn_worth Rn_lengths Rn_laid Rn_slates Rn_widths Rn_rows Rn_lap r_5 hg) (cwV 0 hts gX7_count_X3_slatesInHeap rfl rfl rfl cd_X3_slatesInHeap ⟨Nat.le_of_ble_eq_true rfl, Nat.le_of_ble_eq_true rfl⟩) hP hD hK [1, 2, 3, 4, 5, 6, 7] (by decide) rfl rfl rfl rfl hl.1 rfl (Nat.le_of_ble_eq_true rfl) dX7_count_68 ⟨Nat.zero_le _, Nat.zero_le _⟩ ?_
    exact W.iret hx hb hr (fun t ht hW => ⟨_, rfl, Option.some.inj h, ht⟩) (fun q hq => by cases hq) dX7_count_71
  have h := it_n c_4 h
  by_cases c_6 : x1 = 4
  · have h := it_p c_6 h
    refine lv_tableIn (tgt := 72) hx hb dX7_count_1 (by rw [c_6]; decide) (by rw [c_6]; decide) (by rw [c_6]; rfl) (by decide) ?_
    refine lv_aload_n hx hb dX7_count_72 rfl (lv_at hl 0 rfl) ?_
    refine va_get (D := (dC, dI)) (ci := 6) (v := .ref aRn) (C := RX7) (T := TX7) (N := 6) hx hb hts (fun _ h => List.mem_cons_of_mem _ (List.mem_append_left _ (List.mem_append_right _ h))) hown hK hP 0 rfl rfl 0 (by decide) (hts (.fieldLink RX7 10 "SlateRows" "now" "LSlateRows$Roof;") (by decide +kernel)) (fun _ h9 => h9) rfl dX7_count_73 ?_
    obtain ⟨r_7, hg, h⟩ := bd_some h
    refine rdV (As := []) (rest := []) (ci := 3) ⟨hx, hb, hml, hown, hts⟩ (k_X3_rowsLaid l dC dI cI cZ cS N aRn aRn_inches aRn_many aRn_worth aRn_lengths aRn_laid aRn_slates Rn_inches Rn_many Rn_worth Rn_lengths Rn_laid Rn_slates Rn_widths Rn_rows Rn_lap r_7 hg) (cwV 0 hts gX7_count_X3_rowsLaid rfl rfl rfl cd_X3_rowsLaid ⟨Nat.le_of_ble_eq_true rfl, Nat.le_of_ble_eq_true rfl⟩) hP hD hK [1, 2, 3, 4, 5, 6, 7] (by decide) rfl rfl rfl rfl hl.1 rfl (Nat.le_of_ble_eq_true rfl) dX7_count_76 ⟨Nat.zero_le _, Nat.zero_le _⟩ ?_
    exact W.iret hx hb hr (fun t ht hW => ⟨_, rfl, Option.some.inj h, ht⟩) (fun q hq => by cases hq) dX7_count_79
  have h := it_n c_6 h
  by_cases c_8 : x1 = 5
  · have h := it_p c_8 h
    refine lv_tableIn (tgt := 80) hx hb dX7_count_1 (by rw [c_8]; decide) (by rw [c_8]; decide) (by rw [c_8]; rfl) (by decide) ?_
    refine lv_aload_n hx hb dX7_count_80 rfl (lv_at hl 0 rfl) ?_
    refine va_get (D := (dC, dI)) (ci := 6) (v := .ref aRn) (C := RX7) (T := TX7) (N := 6) hx hb hts (fun _ h => List.mem_cons_of_mem _ (List.mem_append_left _ (List.mem_append_right _ h))) hown hK hP 0 rfl rfl 0 (by decide) (hts (.fieldLink RX7 10 "SlateRows" "now" "LSlateRows$Roof;") (by decide +kernel)) (fun _ h9 => h9) rfl dX7_count_81 ?_
    obtain ⟨r_9, hg, h⟩ := bd_some h
    refine rdV (As := []) (rest := []) (ci := 3) ⟨hx, hb, hml, hown, hts⟩ (k_X3_worthOfHeap l dC dI cI cZ cS N aRn aRn_inches aRn_many aRn_worth aRn_lengths aRn_laid aRn_slates Rn_inches Rn_many Rn_worth Rn_lengths Rn_laid Rn_slates Rn_widths Rn_rows Rn_lap r_9 hg) (cwV 0 hts gX7_count_X3_worthOfHeap rfl rfl rfl cd_X3_worthOfHeap ⟨Nat.le_of_ble_eq_true rfl, Nat.le_of_ble_eq_true rfl⟩) hP hD hK [1, 2, 3, 4, 5, 6, 7] (by decide) rfl rfl rfl rfl hl.1 rfl (Nat.le_of_ble_eq_true rfl) dX7_count_84 ⟨Nat.zero_le _, Nat.zero_le _⟩ ?_
    exact W.iret hx hb hr (fun t ht hW => ⟨_, rfl, Option.some.inj h, ht⟩) (fun q hq => by cases hq) dX7_count_87
  have h := it_n c_8 h
  refine lv_tableOut (tgt := 88) hx hb dX7_count_1 (by have qc_1 := lv_neT (a := 0) c_1 rfl; have qc_2 := lv_neT (a := 1) c_2 rfl; have qc_3 := lv_neT (a := 2) c_3 rfl; have qc_4 := lv_neT (a := 3) c_4 rfl; have qc_6 := lv_neT (a := 4) c_6 rfl; have qc_8 := lv_neT (a := 5) c_8 rfl; omega) (by decide) ?_
  refine lv_iconst (v := (-1)) hx hb dX7_count_88 (by decide) ?_
  exact W.iret hx hb hr (fun t ht hW => ⟨_, rfl, Option.some.inj h, ht⟩) (fun q hq => by cases hq) dX7_count_89
def f_X7_refusalOfNumbers (N : Nat) (S_shelves : Nat → Option Nat) (T_holds : Int32) (x1 : Int32) : Option (Int32) :=
  ck (gi x1 8) (if T_holds = 0 then (some ((-11))) else (ck (gi x1 8) (if T_holds = 2 then (some (0)) else (some ((-12))))))
set_option maxHeartbeats 4000000 in
set_option maxRecDepth 100000 in
theorem k_X7_refusalOfNumbers (l : Launch) (dC : Nat → ClassId) (dI : Nat → Nat → Nat) (cI cZ cS : ClassId) (N : Nat) (aS aS_shelves aT aT_numbers aNow aKept aMind : Nat) (S_shelves : Nat → Option Nat) (S_isKept : Int32) (S_ways : Option Nat) (T_numbers : Nat → Int32) (T_holds : Int32) (T_laying : Option Nat) (T_sort : Int32) (T_size : Int32) (x1 : Int32) (hd : gi x1 8 = true → S_shelves x1.toNatClampNeg = some aT) (res : Int32) (h : f_X7_refusalOfNumbers N S_shelves T_holds x1 = some res) : Met l yX7_refusalOfNumbers wsX7_refusalOfNumbers ({ frames := 0, cells := 0, slots := 0, locals := 0 }) (va_Pc [.ref aS, .int x1] (wd (dC, dI) cI cZ cS [(aS, .inr (6, [.ref aNow, .ref aKept, .ref aMind, .ref aS_shelves, .int S_isKept, va_rf S_ways])), (aS_shelves, .inl (cS, 8, .inr (.inr (.inr (.inr S_shelves))))), (aT, .inr (4, [.ref aT_numbers, .int T_holds, va_rf T_laying, .int T_sort, .int T_size])), (aT_numbers, .inl (cI, 100, .inl T_numbers))])) (vp_Si (fun r => r = res)) 0 0 (fun _ => False) := by
  refine Met.ofW (cc := cX7_refusalOfNumbers) (maxL := 2) (ret := (some .int)) (by decide) rfl ?_
  intro p e s m args below meth c s₁ B hml hv
  obtain ⟨rfl, hP, hK, hD⟩ := hv
  have hx := B.exec
  have hb := B.bytes
  have hr := B.returns
  have hts := atoms_spec (ws := wsX7_refusalOfNumbers) B.pre
  have hown : s.vm.findClass RX7 = some m.cls := findClass_of_methodNamed B.named
  have hlocks := B.notSynchronized
  have hl := lv_entry ([.ref aS, .int x1]) (n := 2) (Nat.le_of_ble_eq_true rfl)
  rw [lg_entry_eq]
  generalize (lg_sl ([.ref aS, .int x1]) ++ List.replicate (2 - (lg_sl ([.ref aS, .int x1])).length) Slot.unset).toArray = ls at hl ⊢
  have hl : lv_has ls 2 [(0, .ref aS), (1, .int x1)] := hl
  unfold f_X7_refusalOfNumbers at h
  refine lv_aload_n hx hb dX7_refusalOfNumbers_0 rfl (lv_at hl 0 rfl) ?_
  refine va_get (D := (dC, dI)) (ci := 6) (v := .ref aS_shelves) (C := RX7) (T := TX7) (N := 6) hx hb hts (fun _ h => List.mem_cons_of_mem _ (List.mem_append_left _ (List.mem_append_right _ h))) hown hK hP 0 rfl rfl 3 (by decide) (hts (.fieldLink RX7 24 "SlateRows" "shelves" "[LSlateRows$Shelf;") (by decide +kernel)) (fun _ h9 => h9) rfl dX7_refusalOfNumbers_1 ?_
  refine lv_iload_n hx hb dX7_refusalOfNumbers_4 rfl (lv_at hl 1 rfl) ?_
  obtain ⟨hi, h⟩ := ck_some h
  refine va_aldq hx hb hK hP 1 2 rfl rfl (gi_in hi) dX7_refusalOfNumbers_5 ?_
  rw [hd hi]
  show W _ _ _ _ _ _ _ _ _ _ _ _ _ _ _ (F0 _ _ _ [.ref aT])
  refine va_get (D := (dC, dI)) (ci := 4) (v := .int T_holds) (C := RX4) (T := TX4) (N := 5) hx hb hts (fun _ h => List.mem_cons_of_mem _ (List.mem_append_right _ h)) hown hK hP 2 rfl rfl 1 (by decide) (hts (.fieldLink RX7 41 "SlateRows$Shelf" "holds" "I") (by decide +kernel)) (fun _ h9 => h9) rfl dX7_refusalOfNumbers_6 ?_
  refine lv_if_ne (tgt := 15) hx hb dX7_refusalOfNumbers_9 (by decide) (fun c_1 => ?_) (fun c_1 => ?_)
  · have h := it_n c_1 h
    refine lv_aload_n hx hb dX7_refusalOfNumbers_15 rfl (lv_at hl 0 rfl) ?_
    refine va_get (D := (dC, dI)) (ci := 6) (v := .ref aS_shelves) (C := RX7) (T := TX7) (N := 6) hx hb hts (fun _ h => List.mem_cons_of_mem _ (List.mem_append_left _ (List.mem_append_right _ h))) hown hK hP 0 rfl rfl 3 (by decide) (hts (.fieldLink RX7 24 "SlateRows" "shelves" "[LSlateRows$Shelf;") (by decide +kernel)) (fun _ h9 => h9) rfl dX7_refusalOfNumbers_16 ?_
    refine lv_iload_n hx hb dX7_refusalOfNumbers_19 rfl (lv_at hl 1 rfl) ?_
    obtain ⟨hi, h⟩ := ck_some h
    refine va_aldq hx hb hK hP 1 2 rfl rfl (gi_in hi) dX7_refusalOfNumbers_20 ?_
    rw [hd hi]
    show W _ _ _ _ _ _ _ _ _ _ _ _ _ _ _ (F0 _ _ _ [.ref aT])
    refine va_get (D := (dC, dI)) (ci := 4) (v := .int T_holds) (C := RX4) (T := TX4) (N := 5) hx hb hts (fun _ h => List.mem_cons_of_mem _ (List.mem_append_right _ h)) hown hK hP 2 rfl rfl 1 (by decide) (hts (.fieldLink RX7 41 "SlateRows$Shelf" "holds" "I") (by decide +kernel)) (fun _ h9 => h9) rfl dX7_refusalOfNumbers_21 ?_
    refine lv_iconst (v := 2) hx hb dX7_refusalOfNumbers_24 (by decide) ?_
    refine lv_icmp_ne (tgt := 32) hx hb dX7_refusalOfNumbers_25 (by decide) (fun c_2 => ?_) (fun c_2 => ?_)
    · have h := it_n c_2 h
      refine lv_bipush (v := (-12)) hx hb dX7_refusalOfNumbers_32 (by decide) ?_
      exact W.iret hx hb hr (fun t ht hW => ⟨_, rfl, Option.some.inj h, ht⟩) (fun q hq => by cases hq) dX7_refusalOfNumbers_34
    · have h := it_p c_2 h
      refine lv_iconst (v := 0) hx hb dX7_refusalOfNumbers_28 (by decide) ?_
      refine lv_goto (tgt := 34) hx hb dX7_refusalOfNumbers_29 (by decide) ?_
      exact W.iret hx hb hr (fun t ht hW => ⟨_, rfl, Option.some.inj h, ht⟩) (fun q hq => by cases hq) dX7_refusalOfNumbers_34
  · have h := it_p c_1 h
    refine lv_bipush (v := (-11)) hx hb dX7_refusalOfNumbers_12 (by decide) ?_
    exact W.iret hx hb hr (fun t ht hW => ⟨_, rfl, Option.some.inj h, ht⟩) (fun q hq => by cases hq) dX7_refusalOfNumbers_14
def f_X7_refusalOfTold (N : Nat) (S_shelves : Nat → Option Nat) (Rn_laid : Nat → Int32) (Rn_rows : Int32) (T_holds : Int32) (x1 : Int32) (x2 : Int32) : Option (Int32) :=
  (f_X7_isShelf N x2).bind fun r_1 => (f_X7_refusalOfOpen N Rn_laid Rn_rows x1 (b2i r_1)).bind fun r_2 => if r_2 = 0 then ((f_X7_refusalOfNumbers N S_shelves T_holds x2).bind fun r_4 => some (r_4)) else (some (r_2))
set_option maxHeartbeats 4000000 in
set_option maxRecDepth 100000 in
theorem k_X7_refusalOfTold (l : Launch) (dC : Nat → ClassId) (dI : Nat → Nat → Nat) (cI cZ cS : ClassId) (N : Nat) (aS aS_shelves aRn aRn_inches aRn_many aRn_worth aRn_lengths aRn_laid aRn_slates aT aT_numbers aKept aMind : Nat) (S_shelves : Nat → Option Nat) (S_isKept : Int32) (S_ways : Option Nat) (Rn_inches : Nat → Int32) (Rn_many : Nat → Int32) (Rn_worth : Nat → Int32) (Rn_lengths : Nat → Int32) (Rn_laid : Nat → Int32) (Rn_slates : Nat → Int32) (Rn_widths : Int32) (Rn_rows : Int32) (Rn_lap : Int32) (T_numbers : Nat → Int32) (T_holds : Int32) (T_laying : Option Nat) (T_sort : Int32) (T_size : Int32) (x1 : Int32) (x2 : Int32) (hd : gi x2 8 = true → S_shelves x2.toNatClampNeg = some aT) (res : Int32) (h : f_X7_refusalOfTold N S_shelves Rn_laid Rn_rows T_holds x1 x2 = some res) : Met l yX7_refusalOfTold wsX7_refusalOfTold ({ frames := 2, cells := 0, slots := 0, locals := 43 }) (va_Pc [.ref aS, .int x1, .int x2] (wd (dC, dI) cI cZ cS [(aS, .inr (6, [.ref aRn, .ref aKept, .ref aMind, .ref aS_shelves, .int S_isKept, va_rf S_ways])), (aS_shelves, .inl (cS, 8, .inr (.inr (.inr (.inr S_shelves))))), (aRn, .inr (3, [.ref aRn_inches, .ref aRn_many, .ref aRn_worth, .ref aRn_lengths, .ref aRn_laid, .ref aRn_slates, .int Rn_widths, .int Rn_rows, .int Rn_lap])), (aRn_inches, .inl (cI, 4, .inl Rn_inches)), (aRn_many, .inl (cI, 4, .inl Rn_many)), (aRn_worth, .inl (cI, 4, .inl Rn_worth)), (aRn_lengths, .inl (cI, 6, .inl Rn_lengths)), (aRn_laid, .inl (cI, 6, .inl Rn_laid)), (aRn_slates, .inl (cI, 72, .inl Rn_slates)), (aT, .inr (4, [.ref aT_numbers, .int T_holds, va_rf T_laying, .int T_sort, .int T_size])), (aT_numbers, .inl (cI, 100, .inl T_numbers))])) (vp_Si (fun r => r = res)) 0 0 (fun _ => False) := by
  refine Met.ofW (cc := cX7_refusalOfTold) (maxL := 4) (ret := (some .int)) (by decide) rfl ?_
  intro p e s m args below meth c s₁ B hml hv
  obtain ⟨rfl, hP, hK, hD⟩ := hv
  have hx := B.exec
  have hb := B.bytes
  have hr := B.returns
  have hts := atoms_spec (ws := wsX7_refusalOfTold) B.pre
  have hown : s.vm.findClass RX7 = some m.cls := findClass_of_methodNamed B.named
  have hlocks := B.notSynchronized
  have hl := lv_entry ([.ref aS, .int x1, .int x2]) (n := 4) (Nat.le_of_ble_eq_true rfl)
  rw [lg_entry_eq]
  generalize (lg_sl ([.ref aS, .int x1, .int x2]) ++ List.replicate (4 - (lg_sl ([.ref aS, .int x1, .int x2])).length) Slot.unset).toArray = ls at hl ⊢
  have hl : lv_has ls 4 [(0, .ref aS), (1, .int x1), (2, .int x2)] := hl
  unfold f_X7_refusalOfTold at h
  refine lv_aload_n hx hb dX7_refusalOfTold_0 rfl (lv_at hl 0 rfl) ?_
  refine lv_iload_n hx hb dX7_refusalOfTold_1 rfl (lv_at hl 1 rfl) ?_
  refine lv_aload_n hx hb dX7_refusalOfTold_2 rfl (lv_at hl 0 rfl) ?_
  refine lv_iload_n hx hb dX7_refusalOfTold_3 rfl (lv_at hl 2 rfl) ?_
  obtain ⟨r_1, hg, h⟩ := bd_some h
  refine rdV (As := [.int x2]) (rest := [.int x1, .ref aS]) (ci := 6) ⟨hx, hb, hml, hown, hts⟩ (k_X7_isShelf l dC dI cI cZ cS N aS aRn aKept aMind aS_shelves S_isKept S_ways x2 r_1 hg) (cwV 1 hts gX7_refusalOfTold_X7_isShelf rfl rfl rfl cd_X7_isShelf ⟨Nat.le_of_ble_eq_true rfl, Nat.le_of_ble_eq_true rfl⟩) hP hD hK [0] (by decide) rfl rfl rfl rfl hl.1 rfl (Nat.le_of_ble_eq_true rfl) dX7_refusalOfTold_4 ⟨Nat.zero_le _, Nat.zero_le _⟩ ?_
  obtain ⟨r_2, hg, h⟩ := bd_some h
  refine rdV (As := [.int x1, .int (b2i r_1)]) (rest := []) (ci := 6) ⟨hx, hb, hml, hown, hts⟩ (k_X7_refusalOfOpen l dC dI cI cZ cS N aS aRn aRn_inches aRn_many aRn_worth aRn_lengths aRn_laid aRn_slates aKept aMind aS_shelves S_isKept S_ways Rn_inches Rn_many Rn_worth Rn_lengths Rn_laid Rn_slates Rn_widths Rn_rows Rn_lap x1 (b2i r_1) r_2 hg) (cwV 2 hts gX7_refusalOfTold_X7_refusalOfOpen rfl rfl rfl cd_X7_refusalOfOpen ⟨Nat.le_of_ble_eq_true rfl, Nat.le_of_ble_eq_true rfl⟩) hP hD hK [0, 2, 3, 4, 5, 6, 7, 8] (by decide) rfl rfl rfl rfl hl.1 rfl (Nat.le_of_ble_eq_true rfl) dX7_refusalOfTold_7 ⟨Nat.zero_le _, Nat.zero_le _⟩ ?_
  refine lv_istore_n (lv' := [(3, .int r_2), (0, .ref aS), (1, .int x1), (2, .int x2)]) hx hb dX7_refusalOfTold_10 rfl hl (by decide) rfl (fun ls hl => ?_)
  refine lv_iload_n hx hb dX7_refusalOfTold_11 rfl (lv_at hl 0 rfl) ?_
  refine lv_if_ne (tgt := 23) hx hb dX7_refusalOfTold_12 (by decide) (fun c_3 => ?_) (fun c_3 => ?_)
  · have h := it_n c_3 h
    refine lv_iload_n hx hb dX7_refusalOfTold_23 rfl (lv_at hl 0 rfl) ?_
    exact W.iret hx hb hr (fun t ht hW => ⟨_, rfl, Option.some.inj h, ht⟩) (fun q hq => by cases hq) dX7_refusalOfTold_24
  · have h := it_p c_3 h
    refine lv_aload_n hx hb dX7_refusalOfTold_15 rfl (lv_at hl 1 rfl) ?_
    refine lv_iload_n hx hb dX7_refusalOfTold_16 rfl (lv_at hl 3 rfl) ?_
    obtain ⟨r_4, hg, h⟩ := bd_some h
    refine rdV (As := [.int x2]) (rest := []) (ci := 6) ⟨hx, hb, hml, hown, hts⟩ (k_X7_refusalOfNumbers l dC dI cI cZ cS N aS aS_shelves aT aT_numbers aRn aKept aMind S_shelves S_isKept S_ways T_numbers T_holds T_laying T_sort T_size x2 hd r_4 hg) (cwV 1 hts gX7_refusalOfTold_X7_refusalOfNumbers rfl rfl rfl cd_X7_refusalOfNumbers ⟨Nat.le_of_ble_eq_true rfl, Nat.le_of_ble_eq_true rfl⟩) hP hD hK [0, 1, 9, 10] (by decide) rfl rfl rfl rfl hl.1 rfl (Nat.le_of_ble_eq_true rfl) dX7_refusalOfTold_17 ⟨Nat.zero_le _, Nat.zero_le _⟩ ?_
    refine lv_goto (tgt := 24) hx hb dX7_refusalOfTold_20 (by decide) ?_
    exact W.iret hx hb hr (fun t ht hW => ⟨_, rfl, Option.some.inj h, ht⟩) (fun q hq => by cases hq) dX7_refusalOfTold_24
def f_X7_judge (N : Nat) (S_shelves : Nat → Option Nat) (Rn_inches : Nat → Int32) (Rn_many : Nat → Int32) (Rn_lengths : Nat → Int32) (Rn_laid : Nat → Int32) (Rn_slates : Nat → Int32) (Rn_widths : Int32) (Rn_rows : Int32) (Rn_lap : Int32) (T_numbers : Nat → Int32) (T_holds : Int32) (T_size : Int32) (x1 : Int32) (x2 : Int32) : Option (Int32) :=
  (f_X7_refusalOfTold N S_shelves Rn_laid Rn_rows T_holds x1 x2).bind fun r_1 => if r_1 = 0 then (ck (gi x2 8) ((f_X3_faultOf N Rn_inches Rn_many Rn_lengths Rn_laid Rn_slates Rn_widths Rn_lap T_numbers T_size x1).bind fun r_3 => some (r_3))) else (some (r_1))
set_option maxHeartbeats 4000000 in
set_option maxRecDepth 100000 in
theorem k_X7_judge (l : Launch) (dC : Nat → ClassId) (dI : Nat → Nat → Nat) (cI cZ cS : ClassId) (N : Nat) (aS aS_shelves aRn aRn_inches aRn_many aRn_worth aRn_lengths aRn_laid aRn_slates aT aT_numbers aKept aMind : Nat) (S_shelves : Nat → Option Nat) (S_isKept : Int32) (S_ways : Option Nat) (Rn_inches : Nat → Int32) (Rn_many : Nat → Int32) (Rn_worth : Nat → Int32) (Rn_lengths : Nat → Int32) (Rn_laid : Nat → Int32) (Rn_slates : Nat → Int32) (Rn_widths : Int32) (Rn_rows : Int32) (Rn_lap : Int32) (T_numbers : Nat → Int32) (T_holds : Int32) (T_laying : Option Nat) (T_sort : Int32) (T_size : Int32) (x1 : Int32) (x2 : Int32) (hd : gi x2 8 = true → S_shelves x2.toNatClampNeg = some aT) (res : Int32) (h : f_X7_judge N S_shelves Rn_inches Rn_many Rn_lengths Rn_laid Rn_slates Rn_widths Rn_rows Rn_lap T_numbers T_holds T_size x1 x2 = some res) : Met l yX7_judge wsX7_judge ({ frames := 3, cells := 0, slots := 0, locals := 72 }) (va_Pc [.ref aS, .int x1, .int x2] (wd (dC, dI) cI cZ cS [(aS, .inr (6, [.ref aRn, .ref aKept, .ref aMind, .ref aS_shelves, .int S_isKept, va_rf S_ways])), (aS_shelves, .inl (cS, 8, .inr (.inr (.inr (.inr S_shelves))))), (aRn, .inr (3, [.ref aRn_inches, .ref aRn_many, .ref aRn_worth, .ref aRn_lengths, .ref aRn_laid, .ref aRn_slates, .int Rn_widths, .int Rn_rows, .int Rn_lap])), (aRn_inches, .inl (cI, 4, .inl Rn_inches)), (aRn_many, .inl (cI, 4, .inl Rn_many)), (aRn_worth, .inl (cI, 4, .inl Rn_worth)), (aRn_lengths, .inl (cI, 6, .inl Rn_lengths)), (aRn_laid, .inl (cI, 6, .inl Rn_laid)), (aRn_slates, .inl (cI, 72, .inl Rn_slates)), (aT, .inr (4, [.ref aT_numbers, .int T_holds, va_rf T_laying, .int T_sort, .int T_size])), (aT_numbers, .inl (cI, 100, .inl T_numbers))])) (vp_Si (fun r => r = res)) 0 0 (fun _ => False) := by
  refine Met.ofW (cc := cX7_judge) (maxL := 4) (ret := (some .int)) (by decide) rfl ?_
  intro p e s m args below meth c s₁ B hml hv
  obtain ⟨rfl, hP, hK, hD⟩ := hv
  have hx := B.exec
  have hb := B.bytes
  have hr := B.returns
  have hts := atoms_spec (ws := wsX7_judge) B.pre
  have hown : s.vm.findClass RX7 = some m.cls := findClass_of_methodNamed B.named
  have hlocks := B.notSynchronized
  have hl := lv_entry ([.ref aS, .int x1, .int x2]) (n := 4) (Nat.le_of_ble_eq_true rfl)
  rw [lg_entry_eq]
  generalize (lg_sl ([.ref aS, .int x1, .int x2]) ++ List.replicate (4 - (lg_sl ([.ref aS, .int x1, .int x2])).length) Slot.unset).toArray = ls at hl ⊢
  have hl : lv_has ls 4 [(0, .ref aS), (1, .int x1), (2, .int x2)] := hl
  unfold f_X7_judge at h
  refine lv_aload_n hx hb dX7_judge_0 rfl (lv_at hl 0 rfl) ?_
  refine lv_iload_n hx hb dX7_judge_1 rfl (lv_at hl 1 rfl) ?_
  refine lv_iload_n hx hb dX7_judge_2 rfl (lv_at hl 2 rfl) ?_
  obtain ⟨r_1, hg, h⟩ := bd_some h
  refine rdV (As := [.int x1, .int x2]) (rest := []) (ci := 6) ⟨hx, hb, hml, hown, hts⟩ (k_X7_refusalOfTold l dC dI cI cZ cS N aS aS_shelves aRn aRn_inches aRn_many aRn_worth aRn_lengths aRn_laid aRn_slates aT aT_numbers aKept aMind S_shelves S_isKept S_ways Rn_inches Rn_many Rn_worth Rn_lengths Rn_laid Rn_slates Rn_widths Rn_rows Rn_lap T_numbers T_holds T_laying T_sort T_size x1 x2 hd r_1 hg) (cwV 2 hts gX7_judge_X7_refusalOfTold rfl rfl rfl cd_X7_refusalOfTold ⟨Nat.le_of_ble_eq_true rfl, Nat.le_of_ble_eq_true rfl⟩) hP hD hK [0, 1, 2, 3, 4, 5, 6, 7, 8, 9, 10] (by decide) rfl rfl rfl rfl hl.1 rfl (Nat.le_of_ble_eq_true rfl) dX7_judge_3 ⟨Nat.zero_le _, Nat.zero_le _⟩ ?_
  refine lv_istore_n (lv' := [(3, .int r_1), (0, .ref aS), (1, .int x1), (2, .int x2)]) hx hb dX7_judge_6 rfl hl (by decide) rfl (fun ls hl => ?_)
  refine lv_iload_n hx hb dX7_judge_7 rfl (lv_at hl 0 rfl) ?_
  refine lv_if_ne (tgt := 28) hx hb dX7_judge_8 (by decide) (fun c_2 => ?_) (fun c_2 => ?_)
  · have h := it_n c_2 h
    refine lv_iload_n hx hb dX7_judge_28 rfl (lv_at hl 0 rfl) ?_
    exact W.iret hx hb hr (fun t ht hW => ⟨_, rfl, Option.some.inj h, ht⟩) (fun q hq => by cases hq) dX7_judge_29
  · have h := it_p c_2 h
    refine lv_aload_n hx hb dX7_judge_11 rfl (lv_at hl 1 rfl) ?_
    refine va_get (D := (dC, dI)) (ci := 6) (v := .ref aRn) (C := RX7) (T := TX7) (N := 6) hx hb hts (fun _ h => List.mem_cons_of_mem _ (List.mem_append_left _ (List.mem_append_left _ (List.mem_append_right _ h)))) hown hK hP 0 rfl rfl 0 (by decide) (hts (.fieldLink RX7 10 "SlateRows" "now" "LSlateRows$Roof;") (by decide +kernel)) (fun _ h9 => h9) rfl dX7_judge_12 ?_
    refine lv_iload_n hx hb dX7_judge_15 rfl (lv_at hl 2 rfl) ?_
    refine lv_aload_n hx hb dX7_judge_16 rfl (lv_at hl 1 rfl) ?_
    refine va_get (D := (dC, dI)) (ci := 6) (v := .ref aS_shelves) (C := RX7) (T := TX7) (N := 6) hx hb hts (fun _ h => List.mem_cons_of_mem _ (List.mem_append_left _ (List.mem_append_left _ (List.mem_append_right _ h)))) hown hK hP 0 rfl rfl 3 (by decide) (hts (.fieldLink RX7 24 "SlateRows" "shelves" "[LSlateRows$Shelf;") (by decide +kernel)) (fun _ h9 => h9) rfl dX7_judge_17 ?_
    refine lv_iload_n hx hb dX7_judge_20 rfl (lv_at hl 3 rfl) ?_
    obtain ⟨hi, h⟩ := ck_some h
    refine va_aldq hx hb hK hP 1 2 rfl rfl (gi_in hi) dX7_judge_21 ?_
    rw [hd hi]
    show W _ _ _ _ _ _ _ _ _ _ _ _ _ _ _ (F0 _ _ _ [.ref aT, .int x1, .ref aRn])
    obtain ⟨r_3, hg, h⟩ := bd_some h
    refine rdV (As := [.int x1, .ref aT]) (rest := []) (ci := 3) ⟨hx, hb, hml, hown, hts⟩ (k_X3_faultOf l dC dI cI cZ cS N aRn aRn_inches aRn_many aRn_worth aRn_lengths aRn_laid aRn_slates aT aT_numbers Rn_inches Rn_many Rn_worth Rn_lengths Rn_laid Rn_slates Rn_widths Rn_rows Rn_lap T_numbers T_holds T_laying T_sort T_size x1 r_3 hg) (cwV 2 hts gX7_judge_X3_faultOf rfl rfl rfl cd_X3_faultOf ⟨Nat.le_of_ble_eq_true rfl, Nat.le_of_ble_eq_true rfl⟩) hP hD hK [2, 3, 4, 5, 6, 7, 8, 9, 10] (by decide) rfl rfl rfl rfl hl.1 rfl (Nat.le_of_ble_eq_true rfl) dX7_judge_22 ⟨Nat.zero_le _, Nat.zero_le _⟩ ?_
    refine lv_goto (tgt := 29) hx hb dX7_judge_25 (by decide) ?_
    exact W.iret hx hb hr (fun t ht hW => ⟨_, rfl, Option.some.inj h, ht⟩) (fun q hq => by cases hq) dX7_judge_29
def f_X7_lay (N : Nat) (S_shelves : Nat → Option Nat) (Rn_inches : Nat → Int32) (Rn_many : Nat → Int32) (Rn_lengths : Nat → Int32) (Rn_laid : Nat → Int32) (Rn_slates : Nat → Int32) (Rn_widths : Int32) (Rn_rows : Int32) (Rn_lap : Int32) (T_numbers : Nat → Int32) (T_holds : Int32) (T_size : Int32) (x1 : Int32) (x2 : Int32) : Option (Int32 × (Nat → Int32) × (Nat → Int32) × (Nat → Int32)) :=
  (f_X7_refusalOfTold N S_shelves Rn_laid Rn_rows T_holds x1 x2).bind fun r_1 => if r_1 = 0 then (ck (gi x2 8) ((f_X3_faultOf N Rn_inches Rn_many Rn_lengths Rn_laid Rn_slates Rn_widths Rn_lap T_numbers T_size x1).bind fun r_3 => if r_3 = (-4) then ((f_X3_putDown N 100 Rn_many Rn_laid Rn_slates T_numbers x1 T_size).bind fun r_5 => (f_X3_cutOf N Rn_inches Rn_lengths r_5.2.1 r_5.2.2 x1).bind fun r_6 => some (r_6, r_5.1, r_5.2.1, r_5.2.2)) else (some ((-3), Rn_many, Rn_laid, Rn_slates)))) else (some (r_1, Rn_many, Rn_laid, Rn_slates))
set_option maxHeartbeats 4000000 in
set_option maxRecDepth 100000 in
theorem k_X7_lay (l : Launch) (dC : Nat → ClassId) (dI : Nat → Nat → Nat) (cI cZ cS : ClassId) (N : Nat) (aS aS_shelves aRn aRn_inches aRn_many aRn_worth aRn_lengths aRn_laid aRn_slates aT aT_numbers aKept aMind : Nat) (sz : Nat) (S_shelves : Nat → Option Nat) (S_isKept : Int32) (S_ways : Option Nat) (Rn_inches : Nat → Int32) (Rn_many : Nat → Int32) (Rn_worth : Nat → Int32) (Rn_lengths : Nat → Int32) (Rn_laid : Nat → Int32) (Rn_slates : Nat → Int32) (Rn_widths : Int32) (Rn_rows : Int32) (Rn_lap : Int32) (T_numbers : Nat → Int32) (T_holds : Int32) (T_laying : Option Nat) (T_sort : Int32) (T_size : Int32) (x1 : Int32) (x2 : Int32) (hd : gi x2 8 = true → S_shelves x2.toNatClampNeg = some aT) (res : Int32 × (Nat → Int32) × (Nat → Int32) × (Nat → Int32)) (h : f_X7_lay N S_shelves Rn_inches Rn_many Rn_lengths Rn_laid Rn_slates Rn_widths Rn_rows Rn_lap T_numbers T_holds T_size x1 x2 = some res) : Met l yX7_lay wsX7_lay ({ frames := 3, cells := 0, slots := 0, locals := 72 }) (va_Pc [.ref aS, .int x1, .int x2] (preW (dC, dI) cI cZ cS [(aS, .inr (6, [.ref aRn, .ref aKept, .ref aMind, .ref aS_shelves, .int S_isKept, va_rf S_ways])), (aS_shelves, .inl (cS, 8, .inr (.inr (.inr (.inr S_shelves))))), (aRn, .inr (3, [.ref aRn_inches, .ref aRn_many, .ref aRn_worth, .ref aRn_lengths, .ref aRn_laid, .ref aRn_slates, .int Rn_widths, .int Rn_rows, .int Rn_lap])), (aRn_inches, .inl (cI, 4, .inl Rn_inches)), (aRn_many, .inl (cI, 4, .inl Rn_many)), (aRn_worth, .inl (cI, 4, .inl Rn_worth)), (aRn_lengths, .inl (cI, 6, .inl Rn_lengths)), (aRn_laid, .inl (cI, 6, .inl Rn_laid)), (aRn_slates, .inl (cI, 72, .inl Rn_slates)), (aT, .inr (4, [.ref aT_numbers, .int T_holds, va_rf T_laying, .int T_sort, .int T_size])), (aT_numbers, .inl (cI, 100, .inl T_numbers))] sz)) (va_Qi (fun (r : Int32) (_ : Unit) => r = res.1) (fun _ => qW (dC, dI) cI cZ cS (va_A [(aS, .inr (6, [.ref aRn, .ref aKept, .ref aMind, .ref aS_shelves, .int S_isKept, va_rf S_ways])), (aS_shelves, .inl (cS, 8, .inr (.inr (.inr (.inr S_shelves))))), (aRn, .inr (3, [.ref aRn_inches, .ref aRn_many, .ref aRn_worth, .ref aRn_lengths, .ref aRn_laid, .ref aRn_slates, .int Rn_widths, .int Rn_rows, .int Rn_lap])), (aRn_inches, .inl (cI, 4, .inl Rn_inches)), (aRn_many, .inl (cI, 4, .inl Rn_many)), (aRn_worth, .inl (cI, 4, .inl Rn_worth)), (aRn_lengths, .inl (cI, 6, .inl Rn_lengths)), (aRn_laid, .inl (cI, 6, .inl Rn_laid)), (aRn_slates, .inl (cI, 72, .inl Rn_slates)), (aT, .inr (4, [.ref aT_numbers, .int T_holds, va_rf T_laying, .int T_sort, .int T_size])), (aT_numbers, .inl (cI, 100, .inl T_numbers))] sz) [(aS, .inr (6, [.ref aRn, .ref aKept, .ref aMind, .ref aS_shelves, .int S_isKept, va_rf S_ways])), (aS_shelves, .inl (cS, 8, .inr (.inr (.inr (.inr S_shelves))))), (aRn, .inr (3, [.ref aRn_inches, .ref aRn_many, .ref aRn_worth, .ref aRn_lengths, .ref aRn_laid, .ref aRn_slates, .int Rn_widths, .int Rn_rows, .int Rn_lap])), (aRn_inches, .inl (cI, 4, .inl Rn_inches)), (aRn_many, .inl (cI, 4, .inl res.2.1)), (aRn_worth, .inl (cI, 4, .inl Rn_worth)), (aRn_lengths, .inl (cI, 6, .inl Rn_lengths)), (aRn_laid, .inl (cI, 6, .inl res.2.2.1)), (aRn_slates, .inl (cI, 72, .inl res.2.2.2)), (aT, .inr (4, [.ref aT_numbers, .int T_holds, va_rf T_laying, .int T_sort, .int T_size])), (aT_numbers, .inl (cI, 100, .inl T_numbers))]) (va_A [(aS, .inr (6, [.ref aRn, .ref aKept, .ref aMind, .ref aS_shelves, .int S_isKept, va_rf S_ways])), (aS_shelves, .inl (cS, 8, .inr (.inr (.inr (.inr S_shelves))))), (aRn, .inr (3, [.ref aRn_inches, .ref aRn_many, .ref aRn_worth, .ref aRn_lengths, .ref aRn_laid, .ref aRn_slates, .int Rn_widths, .int Rn_rows, .int Rn_lap])), (aRn_inches, .inl (cI, 4, .inl Rn_inches)), (aRn_many, .inl (cI, 4, .inl Rn_many)), (aRn_worth, .inl (cI, 4, .inl Rn_worth)), (aRn_lengths, .inl (cI, 6, .inl Rn_lengths)), (aRn_laid, .inl (cI, 6, .inl Rn_laid)), (aRn_slates, .inl (cI, 72, .inl Rn_slates)), (aT, .inr (4, [.ref aT_numbers, .int T_holds, va_rf T_laying, .int T_sort, .int T_size])), (aT_numbers, .inl (cI, 100, .inl T_numbers))] sz)) 0 0 (va_A [(aS, .inr (6, [.ref aRn, .ref aKept, .ref aMind, .ref aS_shelves, .int S_isKept, va_rf S_ways])), (aS_shelves, .inl (cS, 8, .inr (.inr (.inr (.inr S_shelves))))), (aRn, .inr (3, [.ref aRn_inches, .ref aRn_many, .ref aRn_worth, .ref aRn_lengths, .ref aRn_laid, .ref aRn_slates, .int Rn_widths, .int Rn_rows, .int Rn_lap])), (aRn_inches, .inl (cI, 4, .inl Rn_inches)), (aRn_many, .inl (cI, 4, .inl Rn_many)), (aRn_worth, .inl (cI, 4, .inl Rn_worth)), (aRn_lengths, .inl (cI, 6, .inl Rn_lengths)), (aRn_laid, .inl (cI, 6, .inl Rn_laid)), (aRn_slates, .inl (cI, 72, .inl Rn_slates)), (aT, .inr (4, [.ref aT_numbers, .int T_holds, va_rf T_laying, .int T_sort, .int T_size])), (aT_numbers, .inl (cI, 100, .inl T_numbers))] sz) := by
  refine Met.ofW (cc := cX7_lay) (maxL := 5) (ret := (some .int)) (by decide) rfl ?_
  intro p e s m args below meth c s₁ B hml hv
  obtain ⟨rfl, hsz, hP, hK, hD0⟩ := hv
  have hx := B.exec
  have hb := B.bytes
  have hr := B.returns
  have hts := atoms_spec (ws := wsX7_lay) B.pre
  have hown : s.vm.findClass RX7 = some m.cls := findClass_of_methodNamed B.named
  have hlocks := B.notSynchronized
  subst hsz
  have hD := hD0.self (sz := s.heap.size)
  generalize hAe : va_A [(aS, .inr (6, [.ref aRn, .ref aKept, .ref aMind, .ref aS_shelves, .int S_isKept, va_rf S_ways])), (aS_shelves, .inl (cS, 8, .inr (.inr (.inr (.inr S_shelves))))), (aRn, .inr (3, [.ref aRn_inches, .ref aRn_many, .ref aRn_worth, .ref aRn_lengths, .ref aRn_laid, .ref aRn_slates, .int Rn_widths, .int Rn_rows, .int Rn_lap])), (aRn_inches, .inl (cI, 4, .inl Rn_inches)), (aRn_many, .inl (cI, 4, .inl Rn_many)), (aRn_worth, .inl (cI, 4, .inl Rn_worth)), (aRn_lengths, .inl (cI, 6, .inl Rn_lengths)), (aRn_laid, .inl (cI, 6, .inl Rn_laid)), (aRn_slates, .inl (cI, 72, .inl Rn_slates)), (aT, .inr (4, [.ref aT_numbers, .int T_holds, va_rf T_laying, .int T_sort, .int T_size])), (aT_numbers, .inl (cI, 100, .inl T_numbers))] s.heap.size = A at hD ⊢
  have hA : ∀ q : Nat, s.heap.size ≤ q → A q := fun q h => by rw [← hAe]; exact Or.inr h
  have hS : va_S A s.heap s.heap [] := va_S.rf
  have hl := lv_entry ([.ref aS, .int x1, .int x2]) (n := 5) (Nat.le_of_ble_eq_true rfl)
  rw [lg_entry_eq]
  generalize (lg_sl ([.ref aS, .int x1, .int x2]) ++ List.replicate (5 - (lg_sl ([.ref aS, .int x1, .int x2])).length) Slot.unset).toArray = ls at hl ⊢
  have hl : lv_has ls 5 [(0, .ref aS), (1, .int x1), (2, .int x2)] := hl
  unfold f_X7_lay at h
  refine lv_aload_n hx hb dX7_lay_0 rfl (lv_at hl 0 rfl) ?_
  refine lv_iload_n hx hb dX7_lay_1 rfl (lv_at hl 1 rfl) ?_
  refine lv_iload_n hx hb dX7_lay_2 rfl (lv_at hl 2 rfl) ?_
  obtain ⟨r_1, hg, h⟩ := bd_some h
  refine rdV (As := [.int x1, .int x2]) (rest := []) (ci := 6) ⟨hx, hb, hml, hown, hts⟩ (k_X7_refusalOfTold l dC dI cI cZ cS N aS aS_shelves aRn aRn_inches aRn_many aRn_worth aRn_lengths aRn_laid aRn_slates aT aT_numbers aKept aMind S_shelves S_isKept S_ways Rn_inches Rn_many Rn_worth Rn_lengths Rn_laid Rn_slates Rn_widths Rn_rows Rn_lap T_numbers T_holds T_laying T_sort T_size x1 x2 hd r_1 hg) (cwV 2 hts gX7_lay_X7_refusalOfTold rfl rfl rfl cd_X7_refusalOfTold ⟨Nat.le_of_ble_eq_true rfl, Nat.le_of_ble_eq_true rfl⟩) hP hD hK [0, 1, 2, 3, 4, 5, 6, 7, 8, 9, 10] (by decide) rfl rfl rfl rfl hl.1 rfl (Nat.le_of_ble_eq_true rfl) dX7_lay_3 ⟨Nat.zero_le _, Nat.zero_le _⟩ ?_
  refine lv_istore_n (lv' := [(3, .int r_1), (0, .ref aS), (1, .int x1), (2, .int x2)]) hx hb dX7_lay_6 rfl hl (by decide) rfl (fun ls hl => ?_)
  refine lv_iload_n hx hb dX7_lay_7 rfl (lv_at hl 0 rfl) ?_
  refine lv_if_eq (tgt := 13) hx hb dX7_lay_8 (by decide) (fun c_2 => ?_) (fun c_2 => ?_)
  · have h := it_p c_2 h
    refine lv_aload_n hx hb dX7_lay_13 rfl (lv_at hl 1 rfl) ?_
    refine va_get (D := (dC, dI)) (ci := 6) (v := .ref aS_shelves) (C := RX7) (T := TX7) (N := 6) hx hb hts (fun _ h => List.mem_cons_of_mem _ (List.mem_append_left _ (List.mem_append_left _ (List.mem_append_right _ h)))) hown hK hP 0 rfl rfl 3 (by decide) (hts (.fieldLink RX7 24 "SlateRows" "shelves" "[LSlateRows$Shelf;") (by decide +kernel)) (fun _ h9 => h9) rfl dX7_lay_14 ?_
    refine lv_iload_n hx hb dX7_lay_17 rfl (lv_at hl 3 rfl) ?_
    obtain ⟨hi, h⟩ := ck_some h
    refine va_aldq hx hb hK hP 1 2 rfl rfl (gi_in hi) dX7_lay_18 ?_
    rw [hd hi]
    show W _ _ _ _ _ _ _ _ _ _ _ _ _ _ _ (F0 _ _ _ [.ref aT])
    refine lv_astore (lv' := [(4, .ref aT), (3, .int r_1), (0, .ref aS), (1, .int x1), (2, .int x2)]) hx hb dX7_lay_19 hl (by decide) rfl (fun ls hl => ?_)
    refine lv_aload_n hx hb dX7_lay_21 rfl (lv_at hl 2 rfl) ?_
    refine va_get (D := (dC, dI)) (ci := 6) (v := .ref aRn) (C := RX7) (T := TX7) (N := 6) hx hb hts (fun _ h => List.mem_cons_of_mem _ (List.mem_append_left _ (List.mem_append_left _ (List.mem_append_right _ h)))) hown hK hP 0 rfl rfl 0 (by decide) (hts (.fieldLink RX7 10 "SlateRows" "now" "LSlateRows$Roof;") (by decide +kernel)) (fun _ h9 => h9) rfl dX7_lay_22 ?_
    refine lv_iload_n hx hb dX7_lay_25 rfl (lv_at hl 3 rfl) ?_
    refine lv_aload hx hb dX7_lay_26 (lv_at hl 0 rfl) ?_
    obtain ⟨r_3, hg, h⟩ := bd_some h
    refine rdV (As := [.int x1, .ref aT]) (rest := []) (ci := 3) ⟨hx, hb, hml, hown, hts⟩ (k_X3_faultOf l dC dI cI cZ cS N aRn aRn_inches aRn_many aRn_worth aRn_lengths aRn_laid aRn_slates aT aT_numbers Rn_inches Rn_many Rn_worth Rn_lengths Rn_laid Rn_slates Rn_widths Rn_rows Rn_lap T_numbers T_holds T_laying T_sort T_size x1 r_3 hg) (cwV 2 hts gX7_lay_X3_faultOf rfl rfl rfl cd_X3_faultOf ⟨Nat.le_of_ble_eq_true rfl, Nat.le_of_ble_eq_true rfl⟩) hP hD hK [2, 3, 4, 5, 6, 7, 8, 9, 10] (by decide) rfl rfl rfl rfl hl.1 rfl (Nat.le_of_ble_eq_true rfl) dX7_lay_28 ⟨Nat.zero_le _, Nat.zero_le _⟩ ?_
    refine lv_bipush (v := (-4)) hx hb dX7_lay_31 (by decide) ?_
    refine lv_icmp_eq (tgt := 39) hx hb dX7_lay_33 (by decide) (fun c_4 => ?_) (fun c_4 => ?_)
    · have h := it_p c_4 h
      refine lv_aload_n hx hb dX7_lay_39 rfl (lv_at hl 2 rfl) ?_
      refine va_get (D := (dC, dI)) (ci := 6) (v := .ref aRn) (C := RX7) (T := TX7) (N := 6) hx hb hts (fun _ h => List.mem_cons_of_mem _ (List.mem_append_left _ (List.mem_append_left _ (List.mem_append_right _ h)))) hown hK hP 0 rfl rfl 0 (by decide) (hts (.fieldLink RX7 10 "SlateRows" "now" "LSlateRows$Roof;") (by decide +kernel)) (fun _ h9 => h9) rfl dX7_lay_40 ?_
      refine lv_iload_n hx hb dX7_lay_43 rfl (lv_at hl 3 rfl) ?_
      refine lv_aload hx hb dX7_lay_44 (lv_at hl 0 rfl) ?_
      refine va_get (D := (dC, dI)) (ci := 4) (v := .ref aT_numbers) (C := RX4) (T := TX4) (N := 5) hx hb hts (fun _ h => List.mem_cons_of_mem _ (List.mem_append_left _ (List.mem_append_right _ h))) hown hK hP 9 rfl rfl 0 (by decide) (hts (.fieldLink RX7 108 "SlateRows$Shelf" "numbers" "[I") (by decide +kernel)) (fun _ h9 => h9) rfl dX7_lay_46 ?_
      refine lv_aload hx hb dX7_lay_49 (lv_at hl 0 rfl) ?_
      refine va_get (D := (dC, dI)) (ci := 4) (v := .int T_size) (C := RX4) (T := TX4) (N := 5) hx hb hts (fun _ h => List.mem_cons_of_mem _ (List.mem_append_left _ (List.mem_append_right _ h))) hown hK hP 9 rfl rfl 4 (by decide) (hts (.fieldLink RX7 111 "SlateRows$Shelf" "size" "I") (by decide +kernel)) (fun _ h9 => h9) rfl dX7_lay_51 ?_
      obtain ⟨r_5, hg, h⟩ := bd_some h
      refine mtVv (As := [.int x1, .ref aT_numbers, .int T_size]) (rest := []) (ci := 3) (wr := [(aS, .inr (6, [.ref aRn, .ref aKept, .ref aMind, .ref aS_shelves, .int S_isKept, va_rf S_ways])), (aS_shelves, .inl (cS, 8, .inr (.inr (.inr (.inr S_shelves))))), (aT, .inr (4, [.ref aT_numbers, .int T_holds, va_rf T_laying, .int T_sort, .int T_size]))]) (w2 := [(aS, .inr (6, [.ref aRn, .ref aKept, .ref aMind, .ref aS_shelves, .int S_isKept, va_rf S_ways])), (aS_shelves, .inl (cS, 8, .inr (.inr (.inr (.inr S_shelves))))), (aRn, .inr (3, [.ref aRn_inches, .ref aRn_many, .ref aRn_worth, .ref aRn_lengths, .ref aRn_laid, .ref aRn_slates, .int Rn_widths, .int Rn_rows, .int Rn_lap])), (aRn_inches, .inl (cI, 4, .inl Rn_inches)), (aRn_many, .inl (cI, 4, .inl r_5.1)), (aRn_worth, .inl (cI, 4, .inl Rn_worth)), (aRn_lengths, .inl (cI, 6, .inl Rn_lengths)), (aRn_laid, .inl (cI, 6, .inl r_5.2.1)), (aRn_slates, .inl (cI, 72, .inl r_5.2.2)), (aT, .inr (4, [.ref aT_numbers, .int T_holds, va_rf T_laying, .int T_sort, .int T_size])), (aT_numbers, .inl (cI, 100, .inl T_numbers))]) ⟨hx, hb, hml, hown, hts⟩ (k_X3_putDown l dC dI cI cZ cS N aRn aRn_inches aRn_many aRn_worth aRn_lengths aRn_laid aRn_slates aT_numbers 100 _ Rn_inches Rn_many Rn_worth Rn_lengths Rn_laid Rn_slates Rn_widths Rn_rows Rn_lap T_numbers x1 T_size r_5 hg) (cwV 3 hts gX7_lay_X3_putDown rfl rfl rfl cd_X3_putDown ⟨Nat.le_of_ble_eq_true rfl, Nat.le_of_ble_eq_true rfl⟩) hP hD hK hS hA [2, 3, 4, 5, 6, 7, 8, 10] [0, 1, 9] [0, 1, 3, 4, 5, 6, 7, 8, 9, 2, 10] (by decide) (by decide) (by decide) (by decide) rfl rfl rfl rfl rfl rfl hl.1 rfl (Nat.le_of_ble_eq_true rfl) dX7_lay_54 ⟨Nat.zero_le _, Nat.zero_le _⟩ (fun H locs hP hD hS => ?_)
      refine lv_aload_n hx hb dX7_lay_57 rfl (lv_at hl 2 rfl) ?_
      refine va_get (D := (dC, dI)) (ci := 6) (v := .ref aRn) (C := RX7) (T := TX7) (N := 6) hx hb hts (fun _ h => List.mem_cons_of_mem _ (List.mem_append_left _ (List.mem_append_left _ (List.mem_append_right _ h)))) hown hK hP 0 rfl rfl 0 (by decide) (hts (.fieldLink RX7 10 "SlateRows" "now" "LSlateRows$Roof;") (by decide +kernel)) (fun _ h9 => h9) rfl dX7_lay_58 ?_
      refine lv_iload_n hx hb dX7_lay_61 rfl (lv_at hl 3 rfl) ?_
      obtain ⟨r_6, hg, h⟩ := bd_some h
      refine rdV (As := [.int x1]) (rest := []) (ci := 3) ⟨hx, hb, hml, hown, hts⟩ (k_X3_cutOf l dC dI cI cZ cS N aRn aRn_inches aRn_many aRn_worth aRn_lengths aRn_laid aRn_slates Rn_inches r_5.1 Rn_worth Rn_lengths r_5.2.1 r_5.2.2 Rn_widths Rn_rows Rn_lap x1 r_6 hg) (cwV 1 hts gX7_lay_X3_cutOf rfl rfl rfl cd_X3_cutOf ⟨Nat.le_of_ble_eq_true rfl, Nat.le_of_ble_eq_true rfl⟩) hP hD hK [2, 3, 4, 5, 6, 7, 8] (by decide) rfl rfl rfl rfl hl.1 rfl (Nat.le_of_ble_eq_true rfl) dX7_lay_62 ⟨Nat.zero_le _, Nat.zero_le _⟩ ?_
      have h := Option.some.inj h
      exact W.iret hx hb hr (fun t ht hW => ⟨⟨_, (), rfl, by rw [← h], by (try rw [← h]); rw [ht]; exact hP, va_K.moved hW.alike hK, by (try rw [← h]); exact hD⟩, hS.F ht⟩) hS.2.2 dX7_lay_65
    · have h := it_n c_4 h
      refine lv_bipush (v := (-3)) hx hb dX7_lay_36 (by decide) ?_
      have h := Option.some.inj h
      exact W.iret hx hb hr (fun t ht hW => ⟨⟨_, (), rfl, by rw [← h], by (try rw [← h]); rw [ht]; exact hP, va_K.moved hW.alike hK, by (try rw [← h]); exact hD⟩, hS.F ht⟩) hS.2.2 dX7_lay_38
  · have h := it_n c_2 h
    refine lv_iload_n hx hb dX7_lay_11 rfl (lv_at hl 0 rfl) ?_
    have h := Option.some.inj h
    exact W.iret hx hb hr (fun t ht hW => ⟨⟨_, (), rfl, by rw [← h], by (try rw [← h]); rw [ht]; exact hP, va_K.moved hW.alike hK, by (try rw [← h]); exact hD⟩, hS.F ht⟩) hS.2.2 dX7_lay_12
