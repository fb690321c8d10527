theorem cd_X3_init : yX3_init.cls ≠ "java/lang/invoke/MethodHandle" ∧ yX3_init.cls ≠ "java/lang/invoke/VarHandle" ∧ (parseMethodDescriptor yX3_init.desc).map (fun d => d.parameters.length) = some 0 := by decide +kernel
theorem cd_X4_init : yX4_init.cls ≠ "java/lang/invoke/MethodHandle" ∧ yX4_init.cls ≠ "java/lang/invoke/VarHandle" ∧ (parseMethodDescriptor yX4_init.desc).map (fun d => d.parameters.length) = some 0 := by decide +kernel
def f_X3_init (N : Nat) (R_widths : Int32) (R_rows : Int32) (R_lap : Int32) : Option (Int32 × Int32 × Int32 × (Nat → Int32) × (Nat → Int32) × (Nat → Int32) × (Nat → Int32) × (Nat → Int32) × (Nat → Int32)) :=
  some (0, 0, 3, (fun _ => 0), (fun _ => 0), (fun _ => 0), (fun _ => 0), (fun _ => 0), (fun _ => 0))
set_option maxHeartbeats 4000000 in
set_option maxRecDepth 100000 in
theorem k_X3_init (l : Launch) (dC : Nat → ClassId) (dI : Nat → Nat → Nat) (cI cZ cS : ClassId) (N : Nat) (aR : Nat) (sz : Nat) (R_widths : Int32) (R_rows : Int32) (R_lap : Int32) (res : Int32 × Int32 × Int32 × (Nat → Int32) × (Nat → Int32) × (Nat → Int32) × (Nat → Int32) × (Nat → Int32) × (Nat → Int32)) (h : f_X3_init N R_widths R_rows R_lap = some res) : Met l yX3_init wsX3_init ({ frames := 1, cells := 6, slots := 96, locals := 21 }) (va_Pc [.ref aR] (preW (dC, dI) cI cZ cS [(aR, .inr (3, [.null, .null, .null, .null, .null, .null, .int R_widths, .int R_rows, .int R_lap]))] sz)) (va_Qv (fun _ : Nat × Nat × Nat × Nat × Nat × Nat => True) (fun u => qW (dC, dI) cI cZ cS (va_A [(aR, .inr (3, [.null, .null, .null, .null, .null, .null, .int R_widths, .int R_rows, .int R_lap]))] sz) [(aR, .inr (3, [.ref u.1, .ref u.2.1, .ref u.2.2.1, .ref u.2.2.2.1, .ref u.2.2.2.2.1, .ref u.2.2.2.2.2, .int res.1, .int res.2.1, .int res.2.2.1])), (u.1, .inl (cI, 4, .inl res.2.2.2.1)), (u.2.1, .inl (cI, 4, .inl res.2.2.2.2.1)), (u.2.2.1, .inl (cI, 4, .inl res.2.2.2.2.2.1)), (u.2.2.2.1, .inl (cI, 6, .inl res.2.2.2.2.2.2.1)), (u.2.2.2.2.1, .inl (cI, 6, .inl res.2.2.2.2.2.2.2.1)), (u.2.2.2.2.2, .inl (cI, 72, .inl res.2.2.2.2.2.2.2.2))]) (va_A [(aR, .inr (3, [.null, .null, .null, .null, .null, .null, .int R_widths, .int R_rows, .int R_lap]))] sz)) 6 96 (va_A [(aR, .inr (3, [.null, .null, .null, .null, .null, .null, .int R_widths, .int R_rows, .int R_lap]))] sz) := by
  refine Met.ofW (cc := cX3_init) (maxL := 1) (ret := none) (by decide) rfl ?_
  intro p e s m args below meth c s₁ B hml hv
  obtain ⟨rfl, hsz, hP, hK, hD0⟩ := hv
  have hx := B.exec
  have hb := B.bytes
  have hr := B.returns
  have hts := atoms_spec (ws := wsX3_init) B.pre
  have hown : s.vm.findClass RX3 = some m.cls := findClass_of_methodNamed B.named
  have hlocks := B.notSynchronized
  have hin : meth.name = "<init>" := (name_of_methodNamed B.named B.method).1
  subst hsz
  have hD := hD0.self (sz := s.heap.size)
  generalize hAe : va_A [(aR, .inr (3, [.null, .null, .null, .null, .null, .null, .int R_widths, .int R_rows, .int R_lap]))] s.heap.size = A at hD ⊢
  have hA : ∀ q : Nat, s.heap.size ≤ q → A q := fun q h => by rw [← hAe]; exact Or.inr h
  have hS : va_S A s.heap s.heap [] := va_S.rf
  have hl := lv_entry ([.ref aR]) (n := 1) (Nat.le_of_ble_eq_true rfl)
  rw [lg_entry_eq]
  generalize (lg_sl ([.ref aR]) ++ List.replicate (1 - (lg_sl ([.ref aR])).length) Slot.unset).toArray = ls at hl ⊢
  have hl : lv_has ls 1 [(0, .ref aR)] := hl
  unfold f_X3_init at h
  refine lv_aload_n hx hb dX3_init_0 rfl (lv_at hl 0 rfl) ?_
  refine W.objInit hx hb hown (hts (.methodLink RX3 3 objectInit) (by decide +kernel)) (hts (.instanceMethod objectInit) (by decide +kernel)) (hts (.code objectInit ⟨#[0xb1]⟩ 1 none) (by decide +kernel)) rfl (by rw [hml]; exact hl.1) rfl dX3_init_1 (Nat.le_of_ble_eq_true rfl) (Nat.le_of_ble_eq_true rfl) ?_
  refine W.eq (g2 := F0 m 4 ls []) rfl ?_
  refine lv_aload_n hx hb dX3_init_4 rfl (lv_at hl 0 rfl) ?_
  refine lv_iconst (v := 4) hx hb dX3_init_5 (by decide) ?_
  refine newI (v := 4) (N' := 4) hx hb (hts (.arrayClass .int) (by decide +kernel)) hK hP hD hS hA (by decide) (by decide) (Nat.le_of_ble_eq_true rfl) (Nat.le_of_ble_eq_true rfl) (Nat.le_of_ble_eq_true rfl) dX3_init_6 (fun q_1 H hP hD hS => ?_)
  have hP : va_P (dC, dI) vwCl [(aR, .inr (3, [.null, .null, .null, .null, .null, .null, .int R_widths, .int R_rows, .int R_lap])), (q_1, .inl (cI, 4, .inl (fun _ => 0)))] H := hP
  have hD : va_D A [(aR, .inr (3, [.null, .null, .null, .null, .null, .null, .int R_widths, .int R_rows, .int R_lap])), (q_1, .inl (cI, 4, .inl (fun _ => 0)))] := hD
  refine va_putF (D := (dC, dI)) (ci := 3) (v := .ref q_1) (ty := (.array .int)) (C := RX3) (T := TX3) (N := 9) hx hb hts (fun _ h => List.mem_cons_of_mem _ (List.mem_append_right _ h)) tyX3 tyX3_ok nmX3 hown hK hP hD hS 0 rfl rfl 0 (by decide) (hts (.fieldLink RX3 9 "SlateRows$Roof" "inches" "[I") (by decide +kernel)) (fun _ h9 => h9) rfl hin rfl (by decide +kernel) rfl rfl (Nat.le_of_ble_eq_true rfl) dX3_init_8 (fun H locs hP hD hS => ?_)
  have hP : va_P (dC, dI) vwCl [(aR, .inr (3, [.ref q_1, .null, .null, .null, .null, .null, .int R_widths, .int R_rows, .int R_lap])), (q_1, .inl (cI, 4, .inl (fun _ => 0)))] H := hP
  have hD : va_D A [(aR, .inr (3, [.ref q_1, .null, .null, .null, .null, .null, .int R_widths, .int R_rows, .int R_lap])), (q_1, .inl (cI, 4, .inl (fun _ => 0)))] := hD
  refine lv_aload_n hx hb dX3_init_11 rfl (lv_at hl 0 rfl) ?_
  refine lv_iconst (v := 4) hx hb dX3_init_12 (by decide) ?_
  refine newI (v := 4) (N' := 4) hx hb (hts (.arrayClass .int) (by decide +kernel)) hK hP hD hS hA (by decide) (by decide) (Nat.le_of_ble_eq_true rfl) (Nat.le_of_ble_eq_true rfl) (Nat.le_of_ble_eq_true rfl) dX3_init_13 (fun q_2 H hP hD hS => ?_)
  have hP : va_P (dC, dI) vwCl [(aR, .inr (3, [.ref q_1, .null, .null, .null, .null, .null, .int R_widths, .int R_rows, .int R_lap])), (q_1, .inl (cI, 4, .inl (fun _ => 0))), (q_2, .inl (cI, 4, .inl (fun _ => 0)))] H := hP
  have hD : va_D A [(aR, .inr (3, [.ref q_1, .null, .null, .null, .null, .null, .int R_widths, .int R_rows, .int R_lap])), (q_1, .inl (cI, 4, .inl (fun _ => 0))), (q_2, .inl (cI, 4, .inl (fun _ => 0)))] := hD
  refine va_putF (D := (dC, dI)) (ci := 3) (v := .ref q_2) (ty := (.array .int)) (C := RX3) (T := TX3) (N := 9) hx hb hts (fun _ h => List.mem_cons_of_mem _ (List.mem_append_right _ h)) tyX3 tyX3_ok nmX3 hown hK hP hD hS 0 rfl rfl 1 (by decide) (hts (.fieldLink RX3 15 "SlateRows$Roof" "many" "[I") (by decide +kernel)) (fun _ h9 => h9) rfl hin rfl (by decide +kernel) rfl rfl (Nat.le_of_ble_eq_true rfl) dX3_init_15 (fun H locs hP hD hS => ?_)
  have hP : va_P (dC, dI) vwCl [(aR, .inr (3, [.ref q_1, .ref q_2, .null, .null, .null, .null, .int R_widths, .int R_rows, .int R_lap])), (q_1, .inl (cI, 4, .inl (fun _ => 0))), (q_2, .inl (cI, 4, .inl (fun _ => 0)))] H := hP
  have hD : va_D A [(aR, .inr (3, [.ref q_1, .ref q_2, .null, .null, .null, .null, .int R_widths, .int R_rows, .int R_lap])), (q_1, .inl (cI, 4, .inl (fun _ => 0))), (q_2, .inl (cI, 4, .inl (fun _ => 0)))] := hD
  refine lv_aload_n hx hb dX3_init_18 rfl (lv_at hl 0 rfl) ?_
  refine lv_iconst (v := 4) hx hb dX3_init_19 (by decide) ?_
  refine newI (v := 4) (N' := 4) hx hb (hts (.arrayClass .int) (by decide +kernel)) hK hP hD hS hA (by decide) (by decide) (Nat.le_of_ble_eq_true rfl) (Nat.le_of_ble_eq_true rfl) (Nat.le_of_ble_eq_true rfl) dX3_init_20 (fun q_3 H hP hD hS => ?_)
  have hP : va_P (dC, dI) vwCl [(aR, .inr (3, [.ref q_1, .ref q_2, .null, .null, .null, .null, .int R_widths, .int R_rows, .int R_lap])), (q_1, .inl (cI, 4, .inl (fun _ => 0))), (q_2, .inl (cI, 4, .inl (fun _ => 0))), (q_3, .inl (cI, 4, .inl (fun _ => 0)))] H := hP
  have hD : va_D A [(aR, .inr (3, [.ref q_1, .ref q_2, .null, .null, .null, .null, .int R_widths, .int R_rows, .int R_lap])), (q_1, .inl (cI, 4, .inl (fun _ => 0))), (q_2, .inl (cI, 4, .inl (fun _ => 0))), (q_3, .inl (cI, 4, .inl (fun _ => 0)))] := hD
  refine va_putF (D := (dC, dI)) (ci := 3) (v := .ref q_3) (ty := (.array .int)) (C := RX3) (T := TX3) (N := 9) hx hb hts (fun _ h => List.mem_cons_of_mem _ (List.mem_append_right _ h)) tyX3 tyX3_ok nmX3 hown hK hP hD hS 0 rfl rfl 2 (by decide) (hts (.fieldLink RX3 18 "SlateRows$Roof" "worth" "[I") (by decide +kernel)) (fun _ h9 => h9) rfl hin rfl (by decide +kernel) rfl rfl (Nat.le_of_ble_eq_true rfl) dX3_init_22 (fun H locs hP hD hS => ?_)
  have hP : va_P (dC, dI) vwCl [(aR, .inr (3, [.ref q_1, .ref q_2, .ref q_3, .null, .null, .null, .int R_widths, .int R_rows, .int R_lap])), (q_1, .inl (cI, 4, .inl (fun _ => 0))), (q_2, .inl (cI, 4, .inl (fun _ => 0))), (q_3, .inl (cI, 4, .inl (fun _ => 0)))] H := hP
  have hD : va_D A [(aR, .inr (3, [.ref q_1, .ref q_2, .ref q_3, .null, .null, .null, .int R_widths, .int R_rows, .int R_lap])), (q_1, .inl (cI, 4, .inl (fun _ => 0))), (q_2, .inl (cI, 4, .inl (fun _ => 0))), (q_3, .inl (cI, 4, .inl (fun _ => 0)))] := hD
  refine lv_aload_n hx hb dX3_init_25 rfl (lv_at hl 0 rfl) ?_
  refine lv_bipush (v := 6) hx hb dX3_init_26 (by decide) ?_
  refine newI (v := 6) (N' := 6) hx hb (hts (.arrayClass .int) (by decide +kernel)) hK hP hD hS hA (by decide) (by decide) (Nat.le_of_ble_eq_true rfl) (Nat.le_of_ble_eq_true rfl) (Nat.le_of_ble_eq_true rfl) dX3_init_28 (fun q_4 H hP hD hS => ?_)
  have hP : va_P (dC, dI) vwCl [(aR, .inr (3, [.ref q_1, .ref q_2, .ref q_3, .null, .null, .null, .int R_widths, .int R_rows, .int R_lap])), (q_1, .inl (cI, 4, .inl (fun _ => 0))), (q_2, .inl (cI, 4, .inl (fun _ => 0))), (q_3, .inl (cI, 4, .inl (fun _ => 0))), (q_4, .inl (cI, 6, .inl (fun _ => 0)))] H := hP
  have hD : va_D A [(aR, .inr (3, [.ref q_1, .ref q_2, .ref q_3, .null, .null, .null, .int R_widths, .int R_rows, .int R_lap])), (q_1, .inl (cI, 4, .inl (fun _ => 0))), (q_2, .inl (cI, 4, .inl (fun _ => 0))), (q_3, .inl (cI, 4, .inl (fun _ => 0))), (q_4, .inl (cI, 6, .inl (fun _ => 0)))] := hD
  refine va_putF (D := (dC, dI)) (ci := 3) (v := .ref q_4) (ty := (.array .int)) (C := RX3) (T := TX3) (N := 9) hx hb hts (fun _ h => List.mem_cons_of_mem _ (List.mem_append_right _ h)) tyX3 tyX3_ok nmX3 hown hK hP hD hS 0 rfl rfl 3 (by decide) (hts (.fieldLink RX3 21 "SlateRows$Roof" "lengths" "[I") (by decide +kernel)) (fun _ h9 => h9) rfl hin rfl (by decide +kernel) rfl rfl (Nat.le_of_ble_eq_true rfl) dX3_init_30 (fun H locs hP hD hS => ?_)
  have hP : va_P (dC, dI) vwCl [(aR, .inr (3, [.ref q_1, .ref q_2, .ref q_3, .ref q_4, .null, .null, .int R_widths, .int R_rows, .int R_lap])), (q_1, .inl (cI, 4, .inl (fun _ => 0))), (q_2, .inl (cI, 4, .inl (fun _ => 0))), (q_3, .inl (cI, 4, .inl (fun _ => 0))), (q_4, .inl (cI, 6, .inl (fun _ => 0)))] H := hP
  have hD : va_D A [(aR, .inr (3, [.ref q_1, .ref q_2, .ref q_3, .ref q_4, .null, .null, .int R_widths, .int R_rows, .int R_lap])), (q_1, .inl (cI, 4, .inl (fun _ => 0))), (q_2, .inl (cI, 4, .inl (fun _ => 0))), (q_3, .inl (cI, 4, .inl (fun _ => 0))), (q_4, .inl (cI, 6, .inl (fun _ => 0)))] := hD
  refine lv_aload_n hx hb dX3_init_33 rfl (lv_at hl 0 rfl) ?_
  refine lv_bipush (v := 6) hx hb dX3_init_34 (by decide) ?_
  refine newI (v := 6) (N' := 6) hx hb (hts (.arrayClass .int) (by decide +kernel)) hK hP hD hS hA (by decide) (by decide) (Nat.le_of_ble_eq_true rfl) (Nat.le_of_ble_eq_true rfl) (Nat.le_of_ble_eq_true rfl) dX3_init_36 (fun q_5 H hP hD hS => ?_)
  have hP : va_P (dC, dI) vwCl [(aR, .inr (3, [.ref q_1, .ref q_2, .ref q_3, .ref q_4, .null, .null, .int R_widths, .int R_rows, .int R_lap])), (q_1, .inl (cI, 4, .inl (fun _ => 0))), (q_2, .inl (cI, 4, .inl (fun _ => 0))), (q_3, .inl (cI, 4, .inl (fun _ => 0))), (q_4, .inl (cI, 6, .inl (fun _ => 0))), (q_5, .inl (cI, 6, .inl (fun _ => 0)))] H := hP
  have hD : va_D A [(aR, .inr (3, [.ref q_1, .ref q_2, .ref q_3, .ref q_4, .null, .null, .int R_widths, .int R_rows, .int R_lap])), (q_1, .inl (cI, 4, .inl (fun _ => 0))), (q_2, .inl (cI, 4, .inl (fun _ => 0))), (q_3, .inl (cI, 4, .inl (fun _ => 0))), (q_4, .inl (cI, 6, .inl (fun _ => 0))), (q_5, .inl (cI, 6, .inl (fun _ => 0)))] := hD
  refine va_putF (D := (dC, dI)) (ci := 3) (v := .ref q_5) (ty := (.array .int)) (C := RX3) (T := TX3) (N := 9) hx hb hts (fun _ h => List.mem_cons_of_mem _ (List.mem_append_right _ h)) tyX3 tyX3_ok nmX3 hown hK hP hD hS 0 rfl rfl 4 (by decide) (hts (.fieldLink RX3 24 "SlateRows$Roof" "laid" "[I") (by decide +kernel)) (fun _ h9 => h9) rfl hin rfl (by decide +kernel) rfl rfl (Nat.le_of_ble_eq_true rfl) dX3_init_38 (fun H locs hP hD hS => ?_)
  have hP : va_P (dC, dI) vwCl [(aR, .inr (3, [.ref q_1, .ref q_2, .ref q_3, .ref q_4, .ref q_5, .null, .int R_widths, .int R_rows, .int R_lap])), (q_1, .inl (cI, 4, .inl (fun _ => 0))), (q_2, .inl (cI, 4, .inl (fun _ => 0))), (q_3, .inl (cI, 4, .inl (fun _ => 0))), (q_4, .inl (cI, 6, .inl (fun _ => 0))), (q_5, .inl (cI, 6, .inl (fun _ => 0)))] H := hP
  have hD : va_D A [(aR, .inr (3, [.ref q_1, .ref q_2, .ref q_3, .ref q_4, .ref q_5, .null, .int R_widths, .int R_rows, .int R_lap])), (q_1, .inl (cI, 4, .inl (fun _ => 0))), (q_2, .inl (cI, 4, .inl (fun _ => 0))), (q_3, .inl (cI, 4, .inl (fun _ => 0))), (q_4, .inl (cI, 6, .inl (fun _ => 0))), (q_5, .inl (cI, 6, .inl (fun _ => 0)))] := hD
  refine lv_aload_n hx hb dX3_init_41 rfl (lv_at hl 0 rfl) ?_
  refine lv_bipush (v := 72) hx hb dX3_init_42 (by decide) ?_
  refine newI (v := 72) (N' := 72) hx hb (hts (.arrayClass .int) (by decide +kernel)) hK hP hD hS hA (by decide) (by decide) (Nat.le_of_ble_eq_true rfl) (Nat.le_of_ble_eq_true rfl) (Nat.le_of_ble_eq_true rfl) dX3_init_44 (fun q_6 H hP hD hS => ?_)
  have hP : va_P (dC, dI) vwCl [(aR, .inr (3, [.ref q_1, .ref q_2, .ref q_3, .ref q_4, .ref q_5, .null, .int R_widths, .int R_rows, .int R_lap])), (q_1, .inl (cI, 4, .inl (fun _ => 0))), (q_2, .inl (cI, 4, .inl (fun _ => 0))), (q_3, .inl (cI, 4, .inl (fun _ => 0))), (q_4, .inl (cI, 6, .inl (fun _ => 0))), (q_5, .inl (cI, 6, .inl (fun _ => 0))), (q_6, .inl (cI, 72, .inl (fun _ => 0)))] H := hP
  have hD : va_D A [(aR, .inr (3, [.ref q_1, .ref q_2, .ref q_3, .ref q_4, .ref q_5, .null, .int R_widths, .int R_rows, .int R_lap])), (q_1, .inl (cI, 4, .inl (fun _ => 0))), (q_2, .inl (cI, 4, .inl (fun _ => 0))), (q_3, .inl (cI, 4, .inl (fun _ => 0))), (q_4, .inl (cI, 6, .inl (fun _ => 0))), (q_5, .inl (cI, 6, .inl (fun _ => 0))), (q_6, .inl (cI, 72, .inl (fun _ => 0)))] := hD
  refine va_putF (D := (dC, dI)) (ci := 3) (v := .ref q_6) (ty := (.array .int)) (C := RX3) (T := TX3) (N := 9) hx hb hts (fun _ h => List.mem_cons_of_mem _ (List.mem_append_right _ h)) tyX3 tyX3_ok nmX3 hown hK hP hD hS 0 rfl rfl 5 (by decide) (hts (.fieldLink RX3 27 "SlateRows$Roof" "slates" "[I") (by decide +kernel)) (fun _ h9 => h9) rfl hin rfl (by decide +kernel) rfl rfl (Nat.le_of_ble_eq_true rfl) dX3_init_46 (fun H locs hP hD hS => ?_)
  have hP : va_P (dC, dI) vwCl [(aR, .inr (3, [.ref q_1, .ref q_2, .ref q_3, .ref q_4, .ref q_5, .ref q_6, .int R_widths, .int R_rows, .int R_lap])), (q_1, .inl (cI, 4, .inl (fun _ => 0))), (q_2, .inl (cI, 4, .inl (fun _ => 0))), (q_3, .inl (cI, 4, .inl (fun _ => 0))), (q_4, .inl (cI, 6, .inl (fun _ => 0))), (q_5, .inl (cI, 6, .inl (fun _ => 0))), (q_6, .inl (cI, 72, .inl (fun _ => 0)))] H := hP
  have hD : va_D A [(aR, .inr (3, [.ref q_1, .ref q_2, .ref q_3, .ref q_4, .ref q_5, .ref q_6, .int R_widths, .int R_rows, .int R_lap])), (q_1, .inl (cI, 4, .inl (fun _ => 0))), (q_2, .inl (cI, 4, .inl (fun _ => 0))), (q_3, .inl (cI, 4, .inl (fun _ => 0))), (q_4, .inl (cI, 6, .inl (fun _ => 0))), (q_5, .inl (cI, 6, .inl (fun _ => 0))), (q_6, .inl (cI, 72, .inl (fun _ => 0)))] := hD
  refine lv_aload_n hx hb dX3_init_49 rfl (lv_at hl 0 rfl) ?_
  refine lv_iconst (v := 0) hx hb dX3_init_50 (by decide) ?_
  refine va_put (D := (dC, dI)) (ci := 3) (v := .int 0) (ty := .int) (C := RX3) (T := TX3) (N := 9) hx hb hts (fun _ h => List.mem_cons_of_mem _ (List.mem_append_right _ h)) tyX3 tyX3_ok nmX3 hown hK hP hD hS 0 rfl rfl 6 (by decide) (hts (.fieldLink RX3 30 "SlateRows$Roof" "widths" "I") (by decide +kernel)) (fun _ h9 => h9) rfl (by decide +kernel) rfl rfl (Nat.le_of_ble_eq_true rfl) dX3_init_51 (fun H locs hP hD hS => ?_)
  have hP : va_P (dC, dI) vwCl [(aR, .inr (3, [.ref q_1, .ref q_2, .ref q_3, .ref q_4, .ref q_5, .ref q_6, .int 0, .int R_rows, .int R_lap])), (q_1, .inl (cI, 4, .inl (fun _ => 0))), (q_2, .inl (cI, 4, .inl (fun _ => 0))), (q_3, .inl (cI, 4, .inl (fun _ => 0))), (q_4, .inl (cI, 6, .inl (fun _ => 0))), (q_5, .inl (cI, 6, .inl (fun _ => 0))), (q_6, .inl (cI, 72, .inl (fun _ => 0)))] H := hP
  have hD : va_D A [(aR, .inr (3, [.ref q_1, .ref q_2, .ref q_3, .ref q_4, .ref q_5, .ref q_6, .int 0, .int R_rows, .int R_lap])), (q_1, .inl (cI, 4, .inl (fun _ => 0))), (q_2, .inl (cI, 4, .inl (fun _ => 0))), (q_3, .inl (cI, 4, .inl (fun _ => 0))), (q_4, .inl (cI, 6, .inl (fun _ => 0))), (q_5, .inl (cI, 6, .inl (fun _ => 0))), (q_6, .inl (cI, 72, .inl (fun _ => 0)))] := hD
  refine lv_aload_n hx hb dX3_init_54 rfl (lv_at hl 0 rfl) ?_
  refine lv_iconst (v := 0) hx hb dX3_init_55 (by decide) ?_
  refine va_put (D := (dC, dI)) (ci := 3) (v := .int 0) (ty := .int) (C := RX3) (T := TX3) (N := 9) hx hb hts (fun _ h => List.mem_cons_of_mem _ (List.mem_append_right _ h)) tyX3 tyX3_ok nmX3 hown hK hP hD hS 0 rfl rfl 7 (by decide) (hts (.fieldLink RX3 34 "SlateRows$Roof" "rows" "I") (by decide +kernel)) (fun _ h9 => h9) rfl (by decide +kernel) rfl rfl (Nat.le_of_ble_eq_true rfl) dX3_init_56 (fun H locs hP hD hS => ?_)
  have hP : va_P (dC, dI) vwCl [(aR, .inr (3, [.ref q_1, .ref q_2, .ref q_3, .ref q_4, .ref q_5, .ref q_6, .int 0, .int 0, .int R_lap])), (q_1, .inl (cI, 4, .inl (fun _ => 0))), (q_2, .inl (cI, 4, .inl (fun _ => 0))), (q_3, .inl (cI, 4, .inl (fun _ => 0))), (q_4, .inl (cI, 6, .inl (fun _ => 0))), (q_5, .inl (cI, 6, .inl (fun _ => 0))), (q_6, .inl (cI, 72, .inl (fun _ => 0)))] H := hP
  have hD : va_D A [(aR, .inr (3, [.ref q_1, .ref q_2, .ref q_3, .ref q_4, .ref q_5, .ref q_6, .int 0, .int 0, .int R_lap])), (q_1, .inl (cI, 4, .inl (fun _ => 0))), (q_2, .inl (cI, 4, .inl (fun _ => 0))), (q_3, .inl (cI, 4, .inl (fun _ => 0))), (q_4, .inl (cI, 6, .inl (fun _ => 0))), (q_5, .inl (cI, 6, .inl (fun _ => 0))), (q_6, .inl (cI, 72, .inl (fun _ => 0)))] := hD
  refine lv_aload_n hx hb dX3_init_59 rfl (lv_at hl 0 rfl) ?_
  refine lv_iconst (v := 3) hx hb dX3_init_60 (by decide) ?_
  refine va_put (D := (dC, dI)) (ci := 3) (v := .int 3) (ty := .int) (C := RX3) (T := TX3) (N := 9) hx hb hts (fun _ h => List.mem_cons_of_mem _ (List.mem_append_right _ h)) tyX3 tyX3_ok nmX3 hown hK hP hD hS 0 rfl rfl 8 (by decide) (hts (.fieldLink RX3 37 "SlateRows$Roof" "lap" "I") (by decide +kernel)) (fun _ h9 => h9) rfl (by decide +kernel) rfl rfl (Nat.le_of_ble_eq_true rfl) dX3_init_61 (fun H locs hP hD hS => ?_)
  have hP : va_P (dC, dI) vwCl [(aR, .inr (3, [.ref q_1, .ref q_2, .ref q_3, .ref q_4, .ref q_5, .ref q_6, .int 0, .int 0, .int 3])), (q_1, .inl (cI, 4, .inl (fun _ => 0))), (q_2, .inl (cI, 4, .inl (fun _ => 0))), (q_3, .inl (cI, 4, .inl (fun _ => 0))), (q_4, .inl (cI, 6, .inl (fun _ => 0))), (q_5, .inl (cI, 6, .inl (fun _ => 0))), (q_6, .inl (cI, 72, .inl (fun _ => 0)))] H := hP
  have hD : va_D A [(aR, .inr (3, [.ref q_1, .ref q_2, .ref q_3, .ref q_4, .ref q_5, .ref q_6, .int 0, .int 0, .int 3])), (q_1, .inl (cI, 4, .inl (fun _ => 0))), (q_2, .inl (cI, 4, .inl (fun _ => 0))), (q_3, .inl (cI, 4, .inl (fun _ => 0))), (q_4, .inl (cI, 6, .inl (fun _ => 0))), (q_5, .inl (cI, 6, .inl (fun _ => 0))), (q_6, .inl (cI, 72, .inl (fun _ => 0)))] := hD
  have h := Option.some.inj h
  refine W.widen (k := 6) (n := 96) (Nat.le_of_ble_eq_true rfl) (Nat.le_of_ble_eq_true rfl) ?_
  exact W.vret hx hb hr (fun t ht hW => ⟨⟨(q_1, q_2, q_3, q_4, q_5, q_6), rfl, trivial, by (try rw [← h]); rw [ht]; exact hP, va_K.moved hW.alike hK, by (try rw [← h]); exact hD⟩, hS.F ht⟩) hS.2.2 dX3_init_64
def f_X4_init (N : Nat) (T_holds : Int32) (T_sort : Int32) (T_size : Int32) : Option (Int32 × Int32 × Int32 × (Nat → Int32)) :=
  some (0, 0, 0, (fun _ => 0))
set_option maxHeartbeats 4000000 in
set_option maxRecDepth 100000 in
theorem k_X4_init (l : Launch) (dC : Nat → ClassId) (dI : Nat → Nat → Nat) (cI cZ cS : ClassId) (N : Nat) (aT : Nat) (sz : Nat) (T_holds : Int32) (T_sort : Int32) (T_size : Int32) (res : Int32 × Int32 × Int32 × (Nat → Int32)) (h : f_X4_init N T_holds T_sort T_size = some res) : Met l yX4_init wsX4_init ({ frames := 1, cells := 1, slots := 100, locals := 21 }) (va_Pc [.ref aT] (preW (dC, dI) cI cZ cS [(aT, .inr (4, [.null, .int T_holds, .null, .int T_sort, .int T_size]))] sz)) (va_Qv (fun _ : Nat => True) (fun u => qW (dC, dI) cI cZ cS (va_A [(aT, .inr (4, [.null, .int T_holds, .null, .int T_sort, .int T_size]))] sz) [(aT, .inr (4, [.ref u, .int res.1, .null, .int res.2.1, .int res.2.2.1])), (u, .inl (cI, 100, .inl res.2.2.2))]) (va_A [(aT, .inr (4, [.null, .int T_holds, .null, .int T_sort, .int T_size]))] sz)) 1 100 (va_A [(aT, .inr (4, [.null, .int T_holds, .null, .int T_sort, .int T_size]))] sz) := by
  refine Met.ofW (cc := cX4_init) (maxL := 1) (ret := none) (by decide) rfl ?_
  intro p e s m args below meth c s₁ B hml hv
  obtain ⟨rfl, hsz, hP, hK, hD0⟩ := hv
  have hx := B.exec
  have hb := B.bytes
  have hr := B.returns
  have hts := atoms_spec (ws := wsX4_init) B.pre
  have hown : s.vm.findClass RX4 = some m.cls := findClass_of_methodNamed B.named
  have hlocks := B.notSynchronized
  have hin : meth.name = "<init>" := (name_of_methodNamed B.named B.method).1
  subst hsz
  have hD := hD0.self (sz := s.heap.size)
  generalize hAe : va_A [(aT, .inr (4, [.null, .int T_holds, .null, .int T_sort, .int T_size]))] s.heap.size = A at hD ⊢
  have hA : ∀ q : Nat, s.heap.size ≤ q → A q := fun q h => by rw [← hAe]; exact Or.inr h
  have hS : va_S A s.heap s.heap [] := va_S.rf
  have hl := lv_entry ([.ref aT]) (n := 1) (Nat.le_of_ble_eq_true rfl)
  rw [lg_entry_eq]
  generalize (lg_sl ([.ref aT]) ++ List.replicate (1 - (lg_sl ([.ref aT])).length) Slot.unset).toArray = ls at hl ⊢
  have hl : lv_has ls 1 [(0, .ref aT)] := hl
  unfold f_X4_init at h
  refine lv_aload_n hx hb dX4_init_0 rfl (lv_at hl 0 rfl) ?_
  refine W.objInit hx hb hown (hts (.methodLink RX4 3 objectInit) (by decide +kernel)) (hts (.instanceMethod objectInit) (by decide +kernel)) (hts (.code objectInit ⟨#[0xb1]⟩ 1 none) (by decide +kernel)) rfl (by rw [hml]; exact hl.1) rfl dX4_init_1 (Nat.le_of_ble_eq_true rfl) (Nat.le_of_ble_eq_true rfl) ?_
  refine W.eq (g2 := F0 m 4 ls []) rfl ?_
  refine lv_aload_n hx hb dX4_init_4 rfl (lv_at hl 0 rfl) ?_
  refine lv_bipush (v := 100) hx hb dX4_init_5 (by decide) ?_
  refine newI (v := 100) (N' := 100) hx hb (hts (.arrayClass .int) (by decide +kernel)) hK hP hD hS hA (by decide) (by decide) (Nat.le_of_ble_eq_true rfl) (Nat.le_of_ble_eq_true rfl) (Nat.le_of_ble_eq_true rfl) dX4_init_7 (fun q_1 H hP hD hS => ?_)
  have hP : va_P (dC, dI) vwCl [(aT, .inr (4, [.null, .int T_holds, .null, .int T_sort, .int T_size])), (q_1, .inl (cI, 100, .inl (fun _ => 0)))] H := hP
  have hD : va_D A [(aT, .inr (4, [.null, .int T_holds, .null, .int T_sort, .int T_size])), (q_1, .inl (cI, 100, .inl (fun _ => 0)))] := hD
  refine va_putF (D := (dC, dI)) (ci := 4) (v := .ref q_1) (ty := (.array .int)) (C := RX4) (T := TX4) (N := 5) hx hb hts (fun _ h => List.mem_cons_of_mem _ (List.mem_append_right _ h)) tyX4 tyX4_ok nmX4 hown hK hP hD hS 0 rfl rfl 0 (by decide) (hts (.fieldLink RX4 9 "SlateRows$Shelf" "numbers" "[I") (by decide +kernel)) (fun _ h9 => h9) rfl hin rfl (by decide +kernel) rfl rfl (Nat.le_of_ble_eq_true rfl) dX4_init_9 (fun H locs hP hD hS => ?_)
  have hP : va_P (dC, dI) vwCl [(aT, .inr (4, [.ref q_1, .int T_holds, .null, .int T_sort, .int T_size])), (q_1, .inl (cI, 100, .inl (fun _ => 0)))] H := hP
  have hD : va_D A [(aT, .inr (4, [.ref q_1, .int T_holds, .null, .int T_sort, .int T_size])), (q_1, .inl (cI, 100, .inl (fun _ => 0)))] := hD
  refine lv_aload_n hx hb dX4_init_12 rfl (lv_at hl 0 rfl) ?_
  refine lv_iconst (v := 0) hx hb dX4_init_13 (by decide) ?_
  refine va_put (D := (dC, dI)) (ci := 4) (v := .int 0) (ty := .int) (C := RX4) (T := TX4) (N := 5) hx hb hts (fun _ h => List.mem_cons_of_mem _ (List.mem_append_right _ h)) tyX4 tyX4_ok nmX4 hown hK hP hD hS 0 rfl rfl 1 (by decide) (hts (.fieldLink RX4 15 "SlateRows$Shelf" "holds" "I") (by decide +kernel)) (fun _ h9 => h9) rfl (by decide +kernel) rfl rfl (Nat.le_of_ble_eq_true rfl) dX4_init_14 (fun H locs hP hD hS => ?_)
  have hP : va_P (dC, dI) vwCl [(aT, .inr (4, [.ref q_1, .int 0, .null, .int T_sort, .int T_size])), (q_1, .inl (cI, 100, .inl (fun _ => 0)))] H := hP
  have hD : va_D A [(aT, .inr (4, [.ref q_1, .int 0, .null, .int T_sort, .int T_size])), (q_1, .inl (cI, 100, .inl (fun _ => 0)))] := hD
  refine lv_aload_n hx hb dX4_init_17 rfl (lv_at hl 0 rfl) ?_
  refine lv_null hx hb dX4_init_18 ?_
  refine va_put (D := (dC, dI)) (ci := 4) (v := .null) (ty := (.object "SlateRows$Laying")) (C := RX4) (T := TX4) (N := 5) hx hb hts (fun _ h => List.mem_cons_of_mem _ (List.mem_append_right _ h)) tyX4 tyX4_ok nmX4 hown hK hP hD hS 0 rfl rfl 2 (by decide) (hts (.fieldLink RX4 19 "SlateRows$Shelf" "laying" "LSlateRows$Laying;") (by decide +kernel)) (fun _ h9 => h9) rfl (by decide +kernel) rfl rfl (Nat.le_of_ble_eq_true rfl) dX4_init_19 (fun H locs hP hD hS => ?_)
  have hP : va_P (dC, dI) vwCl [(aT, .inr (4, [.ref q_1, .int 0, .null, .int T_sort, .int T_size])), (q_1, .inl (cI, 100, .inl (fun _ => 0)))] H := hP
  have hD : va_D A [(aT, .inr (4, [.ref q_1, .int 0, .null, .int T_sort, .int T_size])), (q_1, .inl (cI, 100, .inl (fun _ => 0)))] := hD
  refine lv_aload_n hx hb dX4_init_22 rfl (lv_at hl 0 rfl) ?_
  refine lv_iconst (v := 0) hx hb dX4_init_23 (by decide) ?_
  refine va_put (D := (dC, dI)) (ci := 4) (v := .int 0) (ty := .int) (C := RX4) (T := TX4) (N := 5) hx hb hts (fun _ h => List.mem_cons_of_mem _ (List.mem_append_right _ h)) tyX4 tyX4_ok nmX4 hown hK hP hD hS 0 rfl rfl 3 (by decide) (hts (.fieldLink RX4 23 "SlateRows$Shelf" "sort" "I") (by decide +kernel)) (fun _ h9 => h9) rfl (by decide +kernel) rfl rfl (Nat.le_of_ble_eq_true rfl) dX4_init_24 (fun H locs hP hD hS => ?_)
  have hP : va_P (dC, dI) vwCl [(aT, .inr (4, [.ref q_1, .int 0, .null, .int 0, .int T_size])), (q_1, .inl (cI, 100, .inl (fun _ => 0)))] H := hP
  have hD : va_D A [(aT, .inr (4, [.ref q_1, .int 0, .null, .int 0, .int T_size])), (q_1, .inl (cI, 100, .inl (fun _ => 0)))] := hD
  refine lv_aload_n hx hb dX4_init_27 rfl (lv_at hl 0 rfl) ?_
  refine lv_iconst (v := 0) hx hb dX4_init_28 (by decide) ?_
  refine va_put (D := (dC, dI)) (ci := 4) (v := .int 0) (ty := .int) (C := RX4) (T := TX4) (N := 5) hx hb hts (fun _ h => List.mem_cons_of_mem _ (List.mem_append_right _ h)) tyX4 tyX4_ok nmX4 hown hK hP hD hS 0 rfl rfl 4 (by decide) (hts (.fieldLink RX4 26 "SlateRows$Shelf" "size" "I") (by decide +kernel)) (fun _ h9 => h9) rfl (by decide +kernel) rfl rfl (Nat.le_of_ble_eq_true rfl) dX4_init_29 (fun H locs hP hD hS => ?_)
  have hP : va_P (dC, dI) vwCl [(aT, .inr (4, [.ref q_1, .int 0, .null, .int 0, .int 0])), (q_1, .inl (cI, 100, .inl (fun _ => 0)))] H := hP
  have hD : va_D A [(aT, .inr (4, [.ref q_1, .int 0, .null, .int 0, .int 0])), (q_1, .inl (cI, 100, .inl (fun _ => 0)))] := hD
  have h := Option.some.inj h
  refine W.widen (k := 1) (n := 100) (Nat.le_of_ble_eq_true rfl) (Nat.le_of_ble_eq_true rfl) ?_
  exact W.vret hx hb hr (fun t ht hW => ⟨⟨(q_1), rfl, trivial, by (try rw [← h]); rw [ht]; exact hP, va_K.moved hW.alike hK, by (try rw [← h]); exact hD⟩, hS.F ht⟩) hS.2.2 dX4_init_32
