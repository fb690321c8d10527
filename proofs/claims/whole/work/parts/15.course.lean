theorem cd_X0_rank : yX0_rank.cls = RX0 ∧ yX0_rank.cls ≠ "java/lang/invoke/MethodHandle" ∧ yX0_rank.cls ≠ "java/lang/invoke/VarHandle" ∧ (parseMethodDescriptor yX0_rank.desc).map (fun d => d.parameters.length) = some 1 := by decide +kernel
theorem cd_X0_fits : yX0_fits.cls = RX0 ∧ yX0_fits.cls ≠ "java/lang/invoke/MethodHandle" ∧ yX0_fits.cls ≠ "java/lang/invoke/VarHandle" ∧ (parseMethodDescriptor yX0_fits.desc).map (fun d => d.parameters.length) = some 1 := by decide +kernel
theorem cd_X0_giveBack : yX0_giveBack.cls = RX0 ∧ yX0_giveBack.cls ≠ "java/lang/invoke/MethodHandle" ∧ yX0_giveBack.cls ≠ "java/lang/invoke/VarHandle" ∧ (parseMethodDescriptor yX0_giveBack.desc).map (fun d => d.parameters.length) = some 1 := by decide +kernel
theorem cd_X0_drawn : yX0_drawn.cls = RX0 ∧ yX0_drawn.cls ≠ "java/lang/invoke/MethodHandle" ∧ yX0_drawn.cls ≠ "java/lang/invoke/VarHandle" ∧ (parseMethodDescriptor yX0_drawn.desc).map (fun d => d.parameters.length) = some 0 := by decide +kernel
theorem cd_X0_chosenWidth : yX0_chosenWidth.cls = RX0 ∧ yX0_chosenWidth.cls ≠ "java/lang/invoke/MethodHandle" ∧ yX0_chosenWidth.cls ≠ "java/lang/invoke/VarHandle" ∧ (parseMethodDescriptor yX0_chosenWidth.desc).map (fun d => d.parameters.length) = some 0 := by decide +kernel
theorem cd_X0_handed : yX0_handed.cls = RX0 ∧ yX0_handed.cls ≠ "java/lang/invoke/MethodHandle" ∧ yX0_handed.cls ≠ "java/lang/invoke/VarHandle" ∧ (parseMethodDescriptor yX0_handed.desc).map (fun d => d.parameters.length) = some 0 := by decide +kernel
theorem cd_X0_betterOfTwo : yX0_betterOfTwo.cls = RX0 ∧ yX0_betterOfTwo.cls ≠ "java/lang/invoke/MethodHandle" ∧ yX0_betterOfTwo.cls ≠ "java/lang/invoke/VarHandle" ∧ (parseMethodDescriptor yX0_betterOfTwo.desc).map (fun d => d.parameters.length) = some 0 := by decide +kernel
theorem cd_X0_comesToEnd : yX0_comesToEnd.cls = RX0 ∧ yX0_comesToEnd.cls ≠ "java/lang/invoke/MethodHandle" ∧ yX0_comesToEnd.cls ≠ "java/lang/invoke/VarHandle" ∧ (parseMethodDescriptor yX0_comesToEnd.desc).map (fun d => d.parameters.length) = some 0 := by decide +kernel
def f_X0_rank (N : Nat) (R_inches : Nat → Int32) (Y_kind : Int32) (Y_figure : Int32) (x1 : Int32) : Option (Int32) :=
  ck (gi x1 4) ((f_X1_rank N Y_kind Y_figure x1 (R_inches x1.toNatClampNeg)).bind fun r_1 => some (r_1))
set_option maxHeartbeats 4000000 in
set_option maxRecDepth 100000 in
theorem k_X0_rank (l : Launch) (dC : Nat → ClassId) (dI : Nat → Nat → Nat) (cI cZ cS : ClassId) (N : Nat) (aC aR aR_inches aR_many aR_worth aR_lengths aR_laid aR_slates aY : Nat) (C_row : Int32) (C_seed : Int32) (C_length : Int32) (C_place : Int32) (C_slates : Int32) (C_asides : Int32) (R_inches : Nat → Int32) (R_many : Nat → Int32) (R_worth : Nat → Int32) (R_lengths : Nat → Int32) (R_laid : Nat → Int32) (R_slates : Nat → Int32) (R_widths : Int32) (R_rows : Int32) (R_lap : Int32) (Y_kind : Int32) (Y_figure : Int32) (x1 : Int32) (res : Int32) (h : f_X0_rank N R_inches Y_kind Y_figure x1 = some res) : Met l yX0_rank wsX0_rank ({ frames := 2, cells := 0, slots := 0, locals := 43 }) (va_Pc [.ref aC, .int x1] (wd (dC, dI) cI cZ cS [(aC, .inr (0, [.ref aR, .int C_row, .ref aY, .int C_seed, .int C_length, .int C_place, .int C_slates, .int C_asides])), (aR, .inr (3, [.ref aR_inches, .ref aR_many, .ref aR_worth, .ref aR_lengths, .ref aR_laid, .ref aR_slates, .int R_widths, .int R_rows, .int R_lap])), (aR_inches, .inl (cI, 4, .inl R_inches)), (aR_many, .inl (cI, 4, .inl R_many)), (aR_worth, .inl (cI, 4, .inl R_worth)), (aR_lengths, .inl (cI, 6, .inl R_lengths)), (aR_laid, .inl (cI, 6, .inl R_laid)), (aR_slates, .inl (cI, 72, .inl R_slates)), (aY, .inr (1, [.int Y_kind, .int Y_figure]))])) (vp_Si (fun r => r = res)) 0 0 (fun _ => False) := by
  refine Met.ofW (cc := cX0_rank) (maxL := 2) (ret := (some .int)) (by decide) rfl ?_
  intro p e s m args below meth c s₁ B hml hv
  obtain ⟨rfl, hP, hK, hD⟩ := hv
  have hx := B.exec
  have hb := B.bytes
  have hr := B.returns
  have hts := atoms_spec (ws := wsX0_rank) B.pre
  have hown : s.vm.findClass RX0 = some m.cls := findClass_of_methodNamed B.named
  have hlocks := B.notSynchronized
  have hl := lv_entry ([.ref aC, .int x1]) (n := 2) (Nat.le_of_ble_eq_true rfl)
  rw [lg_entry_eq]
  generalize (lg_sl ([.ref aC, .int x1]) ++ List.replicate (2 - (lg_sl ([.ref aC, .int x1])).length) Slot.unset).toArray = ls at hl ⊢
  have hl : lv_has ls 2 [(0, .ref aC), (1, .int x1)] := hl
  unfold f_X0_rank at h
  refine lv_aload_n hx hb dX0_rank_0 rfl (lv_at hl 0 rfl) ?_
  refine va_get (D := (dC, dI)) (ci := 0) (v := .ref aY) (C := RX0) (T := TX0) (N := 8) hx hb hts (fun _ h => List.mem_cons_of_mem _ (List.mem_append_left _ (List.mem_append_left _ (List.mem_append_right _ h)))) hown hK hP 0 rfl rfl 2 (by decide) (hts (.fieldLink RX0 26 "SlateRows$Course" "laying" "LSlateRows$Laying;") (by decide +kernel)) (fun _ h9 => h9) rfl dX0_rank_1 ?_
  refine lv_iload_n hx hb dX0_rank_4 rfl (lv_at hl 1 rfl) ?_
  refine lv_aload_n hx hb dX0_rank_5 rfl (lv_at hl 0 rfl) ?_
  refine va_get (D := (dC, dI)) (ci := 0) (v := .ref aR) (C := RX0) (T := TX0) (N := 8) hx hb hts (fun _ h => List.mem_cons_of_mem _ (List.mem_append_left _ (List.mem_append_left _ (List.mem_append_right _ h)))) hown hK hP 0 rfl rfl 0 (by decide) (hts (.fieldLink RX0 19 "SlateRows$Course" "roof" "LSlateRows$Roof;") (by decide +kernel)) (fun _ h9 => h9) rfl dX0_rank_6 ?_
  refine va_get (D := (dC, dI)) (ci := 3) (v := .ref aR_inches) (C := RX3) (T := TX3) (N := 9) hx hb hts (fun _ h => List.mem_cons_of_mem _ (List.mem_append_left _ (List.mem_append_right _ h))) hown hK hP 1 rfl rfl 0 (by decide) (hts (.fieldLink RX0 64 "SlateRows$Roof" "inches" "[I") (by decide +kernel)) (fun _ h9 => h9) rfl dX0_rank_9 ?_
  refine lv_iload_n hx hb dX0_rank_12 rfl (lv_at hl 1 rfl) ?_
  obtain ⟨hi, h⟩ := ck_some h
  refine va_iald hx hb hK hP 2 0 rfl rfl (gi_in hi) dX0_rank_13 ?_
  obtain ⟨r_1, hg, h⟩ := bd_some h
  refine rdV (As := [.int x1, .int (R_inches x1.toNatClampNeg)]) (rest := []) (ci := 1) ⟨hx, hb, hml, hown, hts⟩ (k_X1_rank l dC dI cI cZ cS N aY Y_kind Y_figure x1 (R_inches x1.toNatClampNeg) r_1 hg) (cwV 2 hts gX0_rank_X1_rank rfl rfl rfl cd_X1_rank ⟨Nat.le_of_ble_eq_true rfl, Nat.le_of_ble_eq_true rfl⟩) hP hD hK [8] (by decide) rfl rfl rfl rfl hl.1 rfl (Nat.le_of_ble_eq_true rfl) dX0_rank_14 ⟨Nat.zero_le _, Nat.zero_le _⟩ ?_
  exact W.iret hx hb hr (fun t ht hW => ⟨_, rfl, Option.some.inj h, ht⟩) (fun q hq => by cases hq) dX0_rank_17
def f_X0_fits (N : Nat) (C_row : Int32) (C_length : Int32) (C_place : Int32) (R_inches : Nat → Int32) (R_laid : Nat → Int32) (R_slates : Nat → Int32) (R_lap : Int32) (Y_kind : Int32) (x1 : Int32) : Option (Bool) :=
  ck (gi x1 4) (if C_length ≤ (C_place + (R_inches x1.toNatClampNeg)) then (if (C_place + (R_inches x1.toNatClampNeg)) = C_length then (some (true)) else (if Y_kind = 4 then (some (true)) else (some (false)))) else ((f_X3_allowsJoint N R_inches R_laid R_slates R_lap C_row (C_place + (R_inches x1.toNatClampNeg))).bind fun r_4 => some (r_4)))
set_option maxHeartbeats 4000000 in
set_option maxRecDepth 100000 in
theorem k_X0_fits (l : Launch) (dC : Nat → ClassId) (dI : Nat → Nat → Nat) (cI cZ cS : ClassId) (N : Nat) (aC aR aR_inches aR_many aR_worth aR_lengths aR_laid aR_slates aY : Nat) (C_row : Int32) (C_seed : Int32) (C_length : Int32) (C_place : Int32) (C_slates : Int32) (C_asides : Int32) (R_inches : Nat → Int32) (R_many : Nat → Int32) (R_worth : Nat → Int32) (R_lengths : Nat → Int32) (R_laid : Nat → Int32) (R_slates : Nat → Int32) (R_widths : Int32) (R_rows : Int32) (R_lap : Int32) (Y_kind : Int32) (Y_figure : Int32) (x1 : Int32) (res : Bool) (h : f_X0_fits N C_row C_length C_place R_inches R_laid R_slates R_lap Y_kind x1 = some res) : Met l yX0_fits wsX0_fits ({ frames := 2, cells := 0, slots := 0, locals := 46 }) (va_Pc [.ref aC, .int x1] (wd (dC, dI) cI cZ cS [(aC, .inr (0, [.ref aR, .int C_row, .ref aY, .int C_seed, .int C_length, .int C_place, .int C_slates, .int C_asides])), (aR, .inr (3, [.ref aR_inches, .ref aR_many, .ref aR_worth, .ref aR_lengths, .ref aR_laid, .ref aR_slates, .int R_widths, .int R_rows, .int R_lap])), (aR_inches, .inl (cI, 4, .inl R_inches)), (aR_many, .inl (cI, 4, .inl R_many)), (aR_worth, .inl (cI, 4, .inl R_worth)), (aR_lengths, .inl (cI, 6, .inl R_lengths)), (aR_laid, .inl (cI, 6, .inl R_laid)), (aR_slates, .inl (cI, 72, .inl R_slates)), (aY, .inr (1, [.int Y_kind, .int Y_figure]))])) (vp_Si (fun r => r = b2i res)) 0 0 (fun _ => False) := by
  refine Met.ofW (cc := cX0_fits) (maxL := 3) (ret := (some .boolean)) (by decide) rfl ?_
  intro p e s m args below meth c s₁ B hml hv
  obtain ⟨rfl, hP, hK, hD⟩ := hv
  have hx := B.exec
  have hb := B.bytes
  have hr := B.returns
  have hts := atoms_spec (ws := wsX0_fits) B.pre
  have hown : s.vm.findClass RX0 = some m.cls := findClass_of_methodNamed B.named
  have hlocks := B.notSynchronized
  have hl := lv_entry ([.ref aC, .int x1]) (n := 3) (Nat.le_of_ble_eq_true rfl)
  rw [lg_entry_eq]
  generalize (lg_sl ([.ref aC, .int x1]) ++ List.replicate (3 - (lg_sl ([.ref aC, .int x1])).length) Slot.unset).toArray = ls at hl ⊢
  have hl : lv_has ls 3 [(0, .ref aC), (1, .int x1)] := hl
  unfold f_X0_fits at h
  refine lv_aload_n hx hb dX0_fits_0 rfl (lv_at hl 0 rfl) ?_
  refine va_get (D := (dC, dI)) (ci := 0) (v := .int C_place) (C := RX0) (T := TX0) (N := 8) hx hb hts (fun _ h => List.mem_cons_of_mem _ (List.mem_append_left _ (List.mem_append_left _ (List.mem_append_right _ h)))) hown hK hP 0 rfl rfl 5 (by decide) (hts (.fieldLink RX0 7 "SlateRows$Course" "place" "I") (by decide +kernel)) (fun _ h9 => h9) rfl dX0_fits_1 ?_
  refine lv_aload_n hx hb dX0_fits_4 rfl (lv_at hl 0 rfl) ?_
  refine va_get (D := (dC, dI)) (ci := 0) (v := .ref aR) (C := RX0) (T := TX0) (N := 8) hx hb hts (fun _ h => List.mem_cons_of_mem _ (List.mem_append_left _ (List.mem_append_left _ (List.mem_append_right _ h)))) hown hK hP 0 rfl rfl 0 (by decide) (hts (.fieldLink RX0 19 "SlateRows$Course" "roof" "LSlateRows$Roof;") (by decide +kernel)) (fun _ h9 => h9) rfl dX0_fits_5 ?_
  refine va_get (D := (dC, dI)) (ci := 3) (v := .ref aR_inches) (C := RX3) (T := TX3) (N := 9) hx hb hts (fun _ h => List.mem_cons_of_mem _ (List.mem_append_left _ (List.mem_append_right _ h))) hown hK hP 1 rfl rfl 0 (by decide) (hts (.fieldLink RX0 64 "SlateRows$Roof" "inches" "[I") (by decide +kernel)) (fun _ h9 => h9) rfl dX0_fits_8 ?_
  refine lv_iload_n hx hb dX0_fits_11 rfl (lv_at hl 1 rfl) ?_
  obtain ⟨hi, h⟩ := ck_some h
  refine va_iald hx hb hK hP 2 0 rfl rfl (gi_in hi) dX0_fits_12 ?_
  refine lv_iadd hx hb dX0_fits_13 ?_
  refine lv_istore_n (lv' := [(2, .int (C_place + (R_inches x1.toNatClampNeg))), (0, .ref aC), (1, .int x1)]) hx hb dX0_fits_14 rfl hl (by decide) rfl (fun ls hl => ?_)
  refine lv_iload_n hx hb dX0_fits_15 rfl (lv_at hl 0 rfl) ?_
  refine lv_aload_n hx hb dX0_fits_16 rfl (lv_at hl 1 rfl) ?_
  refine va_get (D := (dC, dI)) (ci := 0) (v := .int C_length) (C := RX0) (T := TX0) (N := 8) hx hb hts (fun _ h => List.mem_cons_of_mem _ (List.mem_append_left _ (List.mem_append_left _ (List.mem_append_right _ h)))) hown hK hP 0 rfl rfl 4 (by decide) (hts (.fieldLink RX0 39 "SlateRows$Course" "length" "I") (by decide +kernel)) (fun _ h9 => h9) rfl dX0_fits_17 ?_
  refine lv_icmp_ge (tgt := 36) hx hb dX0_fits_20 (by decide) (fun c_1 => ?_) (fun c_1 => ?_)
  · have h := it_p c_1 h
    refine lv_iload_n hx hb dX0_fits_36 rfl (lv_at hl 0 rfl) ?_
    refine lv_aload_n hx hb dX0_fits_37 rfl (lv_at hl 1 rfl) ?_
    refine va_get (D := (dC, dI)) (ci := 0) (v := .int C_length) (C := RX0) (T := TX0) (N := 8) hx hb hts (fun _ h => List.mem_cons_of_mem _ (List.mem_append_left _ (List.mem_append_left _ (List.mem_append_right _ h)))) hown hK hP 0 rfl rfl 4 (by decide) (hts (.fieldLink RX0 39 "SlateRows$Course" "length" "I") (by decide +kernel)) (fun _ h9 => h9) rfl dX0_fits_38 ?_
    refine lv_icmp_eq (tgt := 55) hx hb dX0_fits_41 (by decide) (fun c_2 => ?_) (fun c_2 => ?_)
    · have h := it_p c_2 h
      refine lv_iconst (v := 1) hx hb dX0_fits_55 (by decide) ?_
      refine lv_goto (tgt := 60) hx hb dX0_fits_56 (by decide) ?_
      exact W.zret (v := b2i true) hx hb hr (b2i_nar _) (fun t ht hW => ⟨b2i true, rfl, congrArg b2i (Option.some.inj h), ht⟩) (fun q hq => by cases hq) dX0_fits_60
    · have h := it_n c_2 h
      refine lv_aload_n hx hb dX0_fits_44 rfl (lv_at hl 1 rfl) ?_
      refine va_get (D := (dC, dI)) (ci := 0) (v := .ref aY) (C := RX0) (T := TX0) (N := 8) hx hb hts (fun _ h => List.mem_cons_of_mem _ (List.mem_append_left _ (List.mem_append_left _ (List.mem_append_right _ h)))) hown hK hP 0 rfl rfl 2 (by decide) (hts (.fieldLink RX0 26 "SlateRows$Course" "laying" "LSlateRows$Laying;") (by decide +kernel)) (fun _ h9 => h9) rfl dX0_fits_45 ?_
      refine va_get (D := (dC, dI)) (ci := 1) (v := .int Y_kind) (C := RX1) (T := TX1) (N := 2) hx hb hts (fun _ h => List.mem_cons_of_mem _ (List.mem_append_right _ h)) hown hK hP 8 rfl rfl 0 (by decide) (hts (.fieldLink RX0 88 "SlateRows$Laying" "kind" "I") (by decide +kernel)) (fun _ h9 => h9) rfl dX0_fits_48 ?_
      refine lv_iconst (v := 4) hx hb dX0_fits_51 (by decide) ?_
      refine lv_icmp_ne (tgt := 59) hx hb dX0_fits_52 (by decide) (fun c_3 => ?_) (fun c_3 => ?_)
      · have h := it_n c_3 h
        refine lv_iconst (v := 0) hx hb dX0_fits_59 (by decide) ?_
        exact W.zret (v := b2i false) hx hb hr (b2i_nar _) (fun t ht hW => ⟨b2i false, rfl, congrArg b2i (Option.some.inj h), ht⟩) (fun q hq => by cases hq) dX0_fits_60
      · have h := it_p c_3 h
        refine lv_iconst (v := 1) hx hb dX0_fits_55 (by decide) ?_
        refine lv_goto (tgt := 60) hx hb dX0_fits_56 (by decide) ?_
        exact W.zret (v := b2i true) hx hb hr (b2i_nar _) (fun t ht hW => ⟨b2i true, rfl, congrArg b2i (Option.some.inj h), ht⟩) (fun q hq => by cases hq) dX0_fits_60
  · have h := it_n c_1 h
    refine lv_aload_n hx hb dX0_fits_23 rfl (lv_at hl 1 rfl) ?_
    refine va_get (D := (dC, dI)) (ci := 0) (v := .ref aR) (C := RX0) (T := TX0) (N := 8) hx hb hts (fun _ h => List.mem_cons_of_mem _ (List.mem_append_left _ (List.mem_append_left _ (List.mem_append_right _ h)))) hown hK hP 0 rfl rfl 0 (by decide) (hts (.fieldLink RX0 19 "SlateRows$Course" "roof" "LSlateRows$Roof;") (by decide +kernel)) (fun _ h9 => h9) rfl dX0_fits_24 ?_
    refine lv_aload_n hx hb dX0_fits_27 rfl (lv_at hl 1 rfl) ?_
    refine va_get (D := (dC, dI)) (ci := 0) (v := .int C_row) (C := RX0) (T := TX0) (N := 8) hx hb hts (fun _ h => List.mem_cons_of_mem _ (List.mem_append_left _ (List.mem_append_left _ (List.mem_append_right _ h)))) hown hK hP 0 rfl rfl 1 (by decide) (hts (.fieldLink RX0 23 "SlateRows$Course" "row" "I") (by decide +kernel)) (fun _ h9 => h9) rfl dX0_fits_28 ?_
    refine lv_iload_n hx hb dX0_fits_31 rfl (lv_at hl 0 rfl) ?_
    obtain ⟨r_4, hg, h⟩ := bd_some h
    refine rdV (As := [.int C_row, .int (C_place + (R_inches x1.toNatClampNeg))]) (rest := []) (ci := 3) ⟨hx, hb, hml, hown, hts⟩ (k_X3_allowsJoint l dC dI cI cZ cS N aR aR_inches aR_many aR_worth aR_lengths aR_laid aR_slates R_inches R_many R_worth R_lengths R_laid R_slates R_widths R_rows R_lap C_row (C_place + (R_inches x1.toNatClampNeg)) r_4 hg) (cwV 2 hts gX0_fits_X3_allowsJoint rfl rfl rfl cd_X3_allowsJoint ⟨Nat.le_of_ble_eq_true rfl, Nat.le_of_ble_eq_true rfl⟩) hP hD hK [1, 2, 3, 4, 5, 6, 7] (by decide) rfl rfl rfl rfl hl.1 rfl (Nat.le_of_ble_eq_true rfl) dX0_fits_32 ⟨Nat.zero_le _, Nat.zero_le _⟩ ?_
    exact W.zret (v := b2i r_4) hx hb hr (b2i_nar _) (fun t ht hW => ⟨b2i r_4, rfl, congrArg b2i (Option.some.inj h), ht⟩) (fun q hq => by cases hq) dX0_fits_35
def f_X0_giveBack (N : Nat) (R_many : Nat → Int32) (x1 : Int32) : Option ((Nat → Int32)) :=
  if x1 = (-1) then (some (R_many)) else (ck (gi x1 4) (ck (gi x1 4) (some ((upd R_many x1.toNatClampNeg ((R_many x1.toNatClampNeg) + 1))))))
set_option maxHeartbeats 4000000 in
set_option maxRecDepth 100000 in
theorem k_X0_giveBack (l : Launch) (dC : Nat → ClassId) (dI : Nat → Nat → Nat) (cI cZ cS : ClassId) (N : Nat) (aC aR aR_inches aR_many aR_worth aR_lengths aR_laid aR_slates aY : Nat) (sz : Nat) (C_row : Int32) (C_seed : Int32) (C_length : Int32) (C_place : Int32) (C_slates : Int32) (C_asides : Int32) (R_inches : Nat → Int32) (R_many : Nat → Int32) (R_worth : Nat → Int32) (R_lengths : Nat → Int32) (R_laid : Nat → Int32) (R_slates : Nat → Int32) (R_widths : Int32) (R_rows : Int32) (R_lap : Int32) (Y_kind : Int32) (Y_figure : Int32) (x1 : Int32) (res : (Nat → Int32)) (h : f_X0_giveBack N R_many x1 = some res) : Met l yX0_giveBack wsX0_giveBack ({ frames := 0, cells := 0, slots := 0, locals := 0 }) (va_Pc [.ref aC, .int x1] (preW (dC, dI) cI cZ cS [(aC, .inr (0, [.ref aR, .int C_row, .ref aY, .int C_seed, .int C_length, .int C_place, .int C_slates, .int C_asides])), (aR, .inr (3, [.ref aR_inches, .ref aR_many, .ref aR_worth, .ref aR_lengths, .ref aR_laid, .ref aR_slates, .int R_widths, .int R_rows, .int R_lap])), (aR_inches, .inl (cI, 4, .inl R_inches)), (aR_many, .inl (cI, 4, .inl R_many)), (aR_worth, .inl (cI, 4, .inl R_worth)), (aR_lengths, .inl (cI, 6, .inl R_lengths)), (aR_laid, .inl (cI, 6, .inl R_laid)), (aR_slates, .inl (cI, 72, .inl R_slates)), (aY, .inr (1, [.int Y_kind, .int Y_figure]))] sz)) (va_Qv (fun _ : Unit => True) (fun _ => qW (dC, dI) cI cZ cS (va_A [(aC, .inr (0, [.ref aR, .int C_row, .ref aY, .int C_seed, .int C_length, .int C_place, .int C_slates, .int C_asides])), (aR, .inr (3, [.ref aR_inches, .ref aR_many, .ref aR_worth, .ref aR_lengths, .ref aR_laid, .ref aR_slates, .int R_widths, .int R_rows, .int R_lap])), (aR_inches, .inl (cI, 4, .inl R_inches)), (aR_many, .inl (cI, 4, .inl R_many)), (aR_worth, .inl (cI, 4, .inl R_worth)), (aR_lengths, .inl (cI, 6, .inl R_lengths)), (aR_laid, .inl (cI, 6, .inl R_laid)), (aR_slates, .inl (cI, 72, .inl R_slates)), (aY, .inr (1, [.int Y_kind, .int Y_figure]))] sz) [(aC, .inr (0, [.ref aR, .int C_row, .ref aY, .int C_seed, .int C_length, .int C_place, .int C_slates, .int C_asides])), (aR, .inr (3, [.ref aR_inches, .ref aR_many, .ref aR_worth, .ref aR_lengths, .ref aR_laid, .ref aR_slates, .int R_widths, .int R_rows, .int R_lap])), (aR_inches, .inl (cI, 4, .inl R_inches)), (aR_many, .inl (cI, 4, .inl res)), (aR_worth, .inl (cI, 4, .inl R_worth)), (aR_lengths, .inl (cI, 6, .inl R_lengths)), (aR_laid, .inl (cI, 6, .inl R_laid)), (aR_slates, .inl (cI, 72, .inl R_slates)), (aY, .inr (1, [.int Y_kind, .int Y_figure]))]) (va_A [(aC, .inr (0, [.ref aR, .int C_row, .ref aY, .int C_seed, .int C_length, .int C_place, .int C_slates, .int C_asides])), (aR, .inr (3, [.ref aR_inches, .ref aR_many, .ref aR_worth, .ref aR_lengths, .ref aR_laid, .ref aR_slates, .int R_widths, .int R_rows, .int R_lap])), (aR_inches, .inl (cI, 4, .inl R_inches)), (aR_many, .inl (cI, 4, .inl R_many)), (aR_worth, .inl (cI, 4, .inl R_worth)), (aR_lengths, .inl (cI, 6, .inl R_lengths)), (aR_laid, .inl (cI, 6, .inl R_laid)), (aR_slates, .inl (cI, 72, .inl R_slates)), (aY, .inr (1, [.int Y_kind, .int Y_figure]))] sz)) 0 0 (va_A [(aC, .inr (0, [.ref aR, .int C_row, .ref aY, .int C_seed, .int C_length, .int C_place, .int C_slates, .int C_asides])), (aR, .inr (3, [.ref aR_inches, .ref aR_many, .ref aR_worth, .ref aR_lengths, .ref aR_laid, .ref aR_slates, .int R_widths, .int R_rows, .int R_lap])), (aR_inches, .inl (cI, 4, .inl R_inches)), (aR_many, .inl (cI, 4, .inl R_many)), (aR_worth, .inl (cI, 4, .inl R_worth)), (aR_lengths, .inl (cI, 6, .inl R_lengths)), (aR_laid, .inl (cI, 6, .inl R_laid)), (aR_slates, .inl (cI, 72, .inl R_slates)), (aY, .inr (1, [.int Y_kind, .int Y_figure]))] sz) := by
  refine Met.ofW (cc := cX0_giveBack) (maxL := 2) (ret := none) (by decide) rfl ?_
  intro p e s m args below meth c s₁ B hml hv
  obtain ⟨rfl, hsz, hP, hK, hD0⟩ := hv
  have hx := B.exec
  have hb := B.bytes
  have hr := B.returns
  have hts := atoms_spec (ws := wsX0_giveBack) B.pre
  have hown : s.vm.findClass RX0 = some m.cls := findClass_of_methodNamed B.named
  have hlocks := B.notSynchronized
  subst hsz
  have hD := hD0.self (sz := s.heap.size)
  generalize hAe : va_A [(aC, .inr (0, [.ref aR, .int C_row, .ref aY, .int C_seed, .int C_length, .int C_place, .int C_slates, .int C_asides])), (aR, .inr (3, [.ref aR_inches, .ref aR_many, .ref aR_worth, .ref aR_lengths, .ref aR_laid, .ref aR_slates, .int R_widths, .int R_rows, .int R_lap])), (aR_inches, .inl (cI, 4, .inl R_inches)), (aR_many, .inl (cI, 4, .inl R_many)), (aR_worth, .inl (cI, 4, .inl R_worth)), (aR_lengths, .inl (cI, 6, .inl R_lengths)), (aR_laid, .inl (cI, 6, .inl R_laid)), (aR_slates, .inl (cI, 72, .inl R_slates)), (aY, .inr (1, [.int Y_kind, .int Y_figure]))] s.heap.size = A at hD ⊢
  have hA : ∀ q : Nat, s.heap.size ≤ q → A q := fun q h => by rw [← hAe]; exact Or.inr h
  have hS : va_S A s.heap s.heap [] := va_S.rf
  have hl := lv_entry ([.ref aC, .int x1]) (n := 2) (Nat.le_of_ble_eq_true rfl)
  rw [lg_entry_eq]
  generalize (lg_sl ([.ref aC, .int x1]) ++ List.replicate (2 - (lg_sl ([.ref aC, .int x1])).length) Slot.unset).toArray = ls at hl ⊢
  have hl : lv_has ls 2 [(0, .ref aC), (1, .int x1)] := hl
  unfold f_X0_giveBack at h
  refine lv_iload_n hx hb dX0_giveBack_0 rfl (lv_at hl 1 rfl) ?_
  refine lv_iconst (v := (-1)) hx hb dX0_giveBack_1 (by decide) ?_
  refine lv_icmp_eq (tgt := 18) hx hb dX0_giveBack_2 (by decide) (fun c_1 => ?_) (fun c_1 => ?_)
  · have h := it_p c_1 h
    have h := Option.some.inj h
    exact W.vret hx hb hr (fun t ht hW => ⟨⟨(), rfl, trivial, by (try rw [← h]); rw [ht]; exact hP, va_K.moved hW.alike hK, by (try rw [← h]); exact hD⟩, hS.F ht⟩) hS.2.2 dX0_giveBack_18
  · have h := it_n c_1 h
    refine lv_aload_n hx hb dX0_giveBack_5 rfl (lv_at hl 0 rfl) ?_
    refine va_get (D := (dC, dI)) (ci := 0) (v := .ref aR) (C := RX0) (T := TX0) (N := 8) hx hb hts (fun _ h => List.mem_cons_of_mem _ (List.mem_append_left _ (List.mem_append_right _ h))) hown hK hP 0 rfl rfl 0 (by decide) (hts (.fieldLink RX0 19 "SlateRows$Course" "roof" "LSlateRows$Roof;") (by decide +kernel)) (fun _ h9 => h9) rfl dX0_giveBack_6 ?_
    refine va_get (D := (dC, dI)) (ci := 3) (v := .ref aR_many) (C := RX3) (T := TX3) (N := 9) hx hb hts (fun _ h => List.mem_cons_of_mem _ (List.mem_append_right _ h)) hown hK hP 1 rfl rfl 1 (by decide) (hts (.fieldLink RX0 61 "SlateRows$Roof" "many" "[I") (by decide +kernel)) (fun _ h9 => h9) rfl dX0_giveBack_9 ?_
    refine lv_iload_n hx hb dX0_giveBack_12 rfl (lv_at hl 1 rfl) ?_
    refine lv_dup2_11 hx hb dX0_giveBack_13 rfl rfl ?_
    obtain ⟨hi, h⟩ := ck_some h
    refine va_iald hx hb hK hP 3 0 rfl rfl (gi_in hi) dX0_giveBack_14 ?_
    refine lv_iconst (v := 1) hx hb dX0_giveBack_15 (by decide) ?_
    refine lv_iadd hx hb dX0_giveBack_16 ?_
    obtain ⟨hi, h⟩ := ck_some h
    refine va_iast hx hb hK hP hD hS 3 0 rfl rfl (gi_in hi) dX0_giveBack_17 (fun H locs hP hD hS => ?_)
    have hP : va_P (dC, dI) vwCl [(aC, .inr (0, [.ref aR, .int C_row, .ref aY, .int C_seed, .int C_length, .int C_place, .int C_slates, .int C_asides])), (aR, .inr (3, [.ref aR_inches, .ref aR_many, .ref aR_worth, .ref aR_lengths, .ref aR_laid, .ref aR_slates, .int R_widths, .int R_rows, .int R_lap])), (aR_inches, .inl (cI, 4, .inl R_inches)), (aR_many, .inl (cI, 4, .inl (upd R_many x1.toNatClampNeg ((R_many x1.toNatClampNeg) + 1)))), (aR_worth, .inl (cI, 4, .inl R_worth)), (aR_lengths, .inl (cI, 6, .inl R_lengths)), (aR_laid, .inl (cI, 6, .inl R_laid)), (aR_slates, .inl (cI, 72, .inl R_slates)), (aY, .inr (1, [.int Y_kind, .int Y_figure]))] H := hP
    have hD : va_D A [(aC, .inr (0, [.ref aR, .int C_row, .ref aY, .int C_seed, .int C_length, .int C_place, .int C_slates, .int C_asides])), (aR, .inr (3, [.ref aR_inches, .ref aR_many, .ref aR_worth, .ref aR_lengths, .ref aR_laid, .ref aR_slates, .int R_widths, .int R_rows, .int R_lap])), (aR_inches, .inl (cI, 4, .inl R_inches)), (aR_many, .inl (cI, 4, .inl (upd R_many x1.toNatClampNeg ((R_many x1.toNatClampNeg) + 1)))), (aR_worth, .inl (cI, 4, .inl R_worth)), (aR_lengths, .inl (cI, 6, .inl R_lengths)), (aR_laid, .inl (cI, 6, .inl R_laid)), (aR_slates, .inl (cI, 72, .inl R_slates)), (aY, .inr (1, [.int Y_kind, .int Y_figure]))] := hD
    have h := Option.some.inj h
    exact W.vret hx hb hr (fun t ht hW => ⟨⟨(), rfl, trivial, by (try rw [← h]); rw [ht]; exact hP, va_K.moved hW.alike hK, by (try rw [← h]); exact hD⟩, hS.F ht⟩) hS.2.2 dX0_giveBack_18
def f_X0_drawn_L44 (N : Nat) (C_seed : Int32) (R_many : Nat → Int32) (R_widths : Int32) : Nat → Int32 → Int32 → Option (Int32 × Int32 × (Nat → Int32))
  | 0, _, _ => none
  | n + 1, v2, v3 =>
    if R_widths ≤ v3 then (some ((-1), C_seed, R_many)) else (ck (gi v3 4) (if (R_many v3.toNatClampNeg) ≤ v2 then (ck (gi v3 4) (f_X0_drawn_L44 N C_seed R_many R_widths n (v2 - (R_many v3.toNatClampNeg)) (v3 + 1))) else (ck (gi v3 4) (ck (gi v3 4) (some (v3, C_seed, (upd R_many v3.toNatClampNeg ((R_many v3.toNatClampNeg) - 1))))))))
def f_X0_drawn (N : Nat) (C_seed : Int32) (R_many : Nat → Int32) (R_widths : Int32) : Option (Int32 × Int32 × (Nat → Int32)) :=
  (f_X3_slatesInHeap N R_many R_widths).bind fun r_1 => if 0 < r_1 then (ck (nz r_1) (f_X0_drawn_L44 N ((C_seed * 1103515245) + 12345) R_many R_widths N (((((C_seed * 1103515245) + 12345) &&& 2147483647) / 65536) - ((((C_seed * 1103515245) + 12345) &&& 2147483647) / 65536) / r_1 * r_1) 0)) else (some ((-1), C_seed, R_many))
set_option maxHeartbeats 4000000 in
set_option maxRecDepth 100000 in
theorem k_X0_drawn (l : Launch) (dC : Nat → ClassId) (dI : Nat → Nat → Nat) (cI cZ cS : ClassId) (N : Nat) (aC aR aR_inches aR_many aR_worth aR_lengths aR_laid aR_slates aY : Nat) (sz : Nat) (C_row : Int32) (C_seed : Int32) (C_length : Int32) (C_place : Int32) (C_slates : Int32) (C_asides : Int32) (R_inches : Nat → Int32) (R_many : Nat → Int32) (R_worth : Nat → Int32) (R_lengths : Nat → Int32) (R_laid : Nat → Int32) (R_slates : Nat → Int32) (R_widths : Int32) (R_rows : Int32) (R_lap : Int32) (Y_kind : Int32) (Y_figure : Int32) (res : Int32 × Int32 × (Nat → Int32)) (h : f_X0_drawn N C_seed R_many R_widths = some res) : Met l yX0_drawn wsX0_drawn ({ frames := 1, cells := 0, slots := 0, locals := 22 }) (va_Pc [.ref aC] (preW (dC, dI) cI cZ cS [(aC, .inr (0, [.ref aR, .int C_row, .ref aY, .int C_seed, .int C_length, .int C_place, .int C_slates, .int C_asides])), (aR, .inr (3, [.ref aR_inches, .ref aR_many, .ref aR_worth, .ref aR_lengths, .ref aR_laid, .ref aR_slates, .int R_widths, .int R_rows, .int R_lap])), (aR_inches, .inl (cI, 4, .inl R_inches)), (aR_many, .inl (cI, 4, .inl R_many)), (aR_worth, .inl (cI, 4, .inl R_worth)), (aR_lengths, .inl (cI, 6, .inl R_lengths)), (aR_laid, .inl (cI, 6, .inl R_laid)), (aR_slates, .inl (cI, 72, .inl R_slates)), (aY, .inr (1, [.int Y_kind, .int Y_figure]))] sz)) (va_Qi (fun (r : Int32) (_ : Unit) => r = res.1) (fun _ => qW (dC, dI) cI cZ cS (va_A [(aC, .inr (0, [.ref aR, .int C_row, .ref aY, .int C_seed, .int C_length, .int C_place, .int C_slates, .int C_asides])), (aR, .inr (3, [.ref aR_inches, .ref aR_many, .ref aR_worth, .ref aR_lengths, .ref aR_laid, .ref aR_slates, .int R_widths, .int R_rows, .int R_lap])), (aR_inches, .inl (cI, 4, .inl R_inches)), (aR_many, .inl (cI, 4, .inl R_many)), (aR_worth, .inl (cI, 4, .inl R_worth)), (aR_lengths, .inl (cI, 6, .inl R_lengths)), (aR_laid, .inl (cI, 6, .inl R_laid)), (aR_slates, .inl (cI, 72, .inl R_slates)), (aY, .inr (1, [.int Y_kind, .int Y_figure]))] sz) [(aC, .inr (0, [.ref aR, .int C_row, .ref aY, .int res.2.1, .int C_length, .int C_place, .int C_slates, .int C_asides])), (aR, .inr (3, [.ref aR_inches, .ref aR_many, .ref aR_worth, .ref aR_lengths, .ref aR_laid, .ref aR_slates, .int R_widths, .int R_rows, .int R_lap])), (aR_inches, .inl (cI, 4, .inl R_inches)), (aR_many, .inl (cI, 4, .inl res.2.2)), (aR_worth, .inl (cI, 4, .inl R_worth)), (aR_lengths, .inl (cI, 6, .inl R_lengths)), (aR_laid, .inl (cI, 6, .inl R_laid)), (aR_slates, .inl (cI, 72, .inl R_slates)), (aY, .inr (1, [.int Y_kind, .int Y_figure]))]) (va_A [(aC, .inr (0, [.ref aR, .int C_row, .ref aY, .int C_seed, .int C_length, .int C_place, .int C_slates, .int C_asides])), (aR, .inr (3, [.ref aR_inches, .ref aR_many, .ref aR_worth, .ref aR_lengths, .ref aR_laid, .ref aR_slates, .int R_widths, .int R_rows, .int R_lap])), (aR_inches, .inl (cI, 4, .inl R_inches)), (aR_many, .inl (cI, 4, .inl R_many)), (aR_worth, .inl (cI, 4, .inl R_worth)), (aR_lengths, .inl (cI, 6, .inl R_lengths)), (aR_laid, .inl (cI, 6, .inl R_laid)), (aR_slates, .inl (cI, 72, .inl R_slates)), (aY, .inr (1, [.int Y_kind, .int Y_figure]))] sz)) 0 0 (va_A [(aC, .inr (0, [.ref aR, .int C_row, .ref aY, .int C_seed, .int C_length, .int C_place, .int C_slates, .int C_asides])), (aR, .inr (3, [.ref aR_inches, .ref aR_many, .ref aR_worth, .ref aR_lengths, .ref aR_laid, .ref aR_slates, .int R_widths, .int R_rows, .int R_lap])), (aR_inches, .inl (cI, 4, .inl R_inches)), (aR_many, .inl (cI, 4, .inl R_many)), (aR_worth, .inl (cI, 4, .inl R_worth)), (aR_lengths, .inl (cI, 6, .inl R_lengths)), (aR_laid, .inl (cI, 6, .inl R_laid)), (aR_slates, .inl (cI, 72, .inl R_slates)), (aY, .inr (1, [.int Y_kind, .int Y_figure]))] sz) := by
  refine Met.ofW (cc := cX0_drawn) (maxL := 4) (ret := (some .int)) (by decide) rfl ?_
  intro p e s m args below meth c s₁ B hml hv
  obtain ⟨rfl, hsz, hP, hK, hD0⟩ := hv
  have hx := B.exec
  have hb := B.bytes
  have hr := B.returns
  have hts := atoms_spec (ws := wsX0_drawn) B.pre
  have hown : s.vm.findClass RX0 = some m.cls := findClass_of_methodNamed B.named
  have hlocks := B.notSynchronized
  subst hsz
  have hD := hD0.self (sz := s.heap.size)
  generalize hAe : va_A [(aC, .inr (0, [.ref aR, .int C_row, .ref aY, .int C_seed, .int C_length, .int C_place, .int C_slates, .int C_asides])), (aR, .inr (3, [.ref aR_inches, .ref aR_many, .ref aR_worth, .ref aR_lengths, .ref aR_laid, .ref aR_slates, .int R_widths, .int R_rows, .int R_lap])), (aR_inches, .inl (cI, 4, .inl R_inches)), (aR_many, .inl (cI, 4, .inl R_many)), (aR_worth, .inl (cI, 4, .inl R_worth)), (aR_lengths, .inl (cI, 6, .inl R_lengths)), (aR_laid, .inl (cI, 6, .inl R_laid)), (aR_slates, .inl (cI, 72, .inl R_slates)), (aY, .inr (1, [.int Y_kind, .int Y_figure]))] s.heap.size = A at hD ⊢
  have hA : ∀ q : Nat, s.heap.size ≤ q → A q := fun q h => by rw [← hAe]; exact Or.inr h
  have hS : va_S A s.heap s.heap [] := va_S.rf
  have hl := lv_entry ([.ref aC]) (n := 4) (Nat.le_of_ble_eq_true rfl)
  rw [lg_entry_eq]
  generalize (lg_sl ([.ref aC]) ++ List.replicate (4 - (lg_sl ([.ref aC])).length) Slot.unset).toArray = ls at hl ⊢
  have hl : lv_has ls 4 [(0, .ref aC)] := hl
  unfold f_X0_drawn at h
  refine lv_aload_n hx hb dX0_drawn_0 rfl (lv_at hl 0 rfl) ?_
  refine va_get (D := (dC, dI)) (ci := 0) (v := .ref aR) (C := RX0) (T := TX0) (N := 8) hx hb hts (fun _ h => List.mem_cons_of_mem _ (List.mem_append_left _ (List.mem_append_right _ h))) hown hK hP 0 rfl rfl 0 (by decide) (hts (.fieldLink RX0 19 "SlateRows$Course" "roof" "LSlateRows$Roof;") (by decide +kernel)) (fun _ h9 => h9) rfl dX0_drawn_1 ?_
  obtain ⟨r_1, hg, h⟩ := bd_some h
  refine rdV (As := []) (rest := []) (ci := 3) ⟨hx, hb, hml, hown, hts⟩ (k_X3_slatesInHeap l dC dI cI cZ cS N aR aR_inches aR_many aR_worth aR_lengths aR_laid aR_slates R_inches R_many R_worth R_lengths R_laid R_slates R_widths R_rows R_lap r_1 hg) (cwV 0 hts gX0_drawn_X3_slatesInHeap rfl rfl rfl cd_X3_slatesInHeap ⟨Nat.le_of_ble_eq_true rfl, Nat.le_of_ble_eq_true rfl⟩) hP hD hK [1, 2, 3, 4, 5, 6, 7] (by decide) rfl rfl rfl rfl hl.1 rfl (Nat.le_of_ble_eq_true rfl) dX0_drawn_4 ⟨Nat.zero_le _, Nat.zero_le _⟩ ?_
  refine lv_istore_n (lv' := [(1, .int r_1), (0, .ref aC)]) hx hb dX0_drawn_7 rfl hl (by decide) rfl (fun ls hl => ?_)
  refine lv_iload_n hx hb dX0_drawn_8 rfl (lv_at hl 0 rfl) ?_
  refine lv_if_gt (tgt := 14) hx hb dX0_drawn_9 (by decide) (fun c_2 => ?_) (fun c_2 => ?_)
  · have h := it_p c_2 h
    refine lv_aload_n hx hb dX0_drawn_14 rfl (lv_at hl 1 rfl) ?_
    refine lv_aload_n hx hb dX0_drawn_15 rfl (lv_at hl 1 rfl) ?_
    refine va_get (D := (dC, dI)) (ci := 0) (v := .int C_seed) (C := RX0) (T := TX0) (N := 8) hx hb hts (fun _ h => List.mem_cons_of_mem _ (List.mem_append_left _ (List.mem_append_right _ h))) hown hK hP 0 rfl rfl 3 (by decide) (hts (.fieldLink RX0 30 "SlateRows$Course" "seed" "I") (by decide +kernel)) (fun _ h9 => h9) rfl dX0_drawn_16 ?_
    refine lv_ldc (v := 1103515245) hx hb hown (hts (.constant RX0 101 (1103515245)) (by decide +kernel)) dX0_drawn_19 ?_
    refine lv_imul hx hb dX0_drawn_21 ?_
    refine lv_sipush (v := 12345) hx hb dX0_drawn_22 (by decide) ?_
    refine lv_iadd hx hb dX0_drawn_25 ?_
    refine va_put (D := (dC, dI)) (ci := 0) (v := .int ((C_seed * 1103515245) + 12345)) (ty := .int) (C := RX0) (T := TX0) (N := 8) hx hb hts (fun _ h => List.mem_cons_of_mem _ (List.mem_append_left _ (List.mem_append_right _ h))) tyX0 tyX0_ok nmX0 hown hK hP hD hS 0 rfl rfl 3 (by decide) (hts (.fieldLink RX0 30 "SlateRows$Course" "seed" "I") (by decide +kernel)) (fun _ h9 => h9) rfl (by decide +kernel) rfl rfl (Nat.le_of_ble_eq_true rfl) dX0_drawn_26 (fun H locs hP hD hS => ?_)
    have hP : va_P (dC, dI) vwCl [(aC, .inr (0, [.ref aR, .int C_row, .ref aY, .int ((C_seed * 1103515245) + 12345), .int C_length, .int C_place, .int C_slates, .int C_asides])), (aR, .inr (3, [.ref aR_inches, .ref aR_many, .ref aR_worth, .ref aR_lengths, .ref aR_laid, .ref aR_slates, .int R_widths, .int R_rows, .int R_lap])), (aR_inches, .inl (cI, 4, .inl R_inches)), (aR_many, .inl (cI, 4, .inl R_many)), (aR_worth, .inl (cI, 4, .inl R_worth)), (aR_lengths, .inl (cI, 6, .inl R_lengths)), (aR_laid, .inl (cI, 6, .inl R_laid)), (aR_slates, .inl (cI, 72, .inl R_slates)), (aY, .inr (1, [.int Y_kind, .int Y_figure]))] H := hP
    have hD : va_D A [(aC, .inr (0, [.ref aR, .int C_row, .ref aY, .int ((C_seed * 1103515245) + 12345), .int C_length, .int C_place, .int C_slates, .int C_asides])), (aR, .inr (3, [.ref aR_inches, .ref aR_many, .ref aR_worth, .ref aR_lengths, .ref aR_laid, .ref aR_slates, .int R_widths, .int R_rows, .int R_lap])), (aR_inches, .inl (cI, 4, .inl R_inches)), (aR_many, .inl (cI, 4, .inl R_many)), (aR_worth, .inl (cI, 4, .inl R_worth)), (aR_lengths, .inl (cI, 6, .inl R_lengths)), (aR_laid, .inl (cI, 6, .inl R_laid)), (aR_slates, .inl (cI, 72, .inl R_slates)), (aY, .inr (1, [.int Y_kind, .int Y_figure]))] := hD
    refine lv_aload_n hx hb dX0_drawn_29 rfl (lv_at hl 1 rfl) ?_
    refine va_get (D := (dC, dI)) (ci := 0) (v := .int ((C_seed * 1103515245) + 12345)) (C := RX0) (T := TX0) (N := 8) hx hb hts (fun _ h => List.mem_cons_of_mem _ (List.mem_append_left _ (List.mem_append_right _ h))) hown hK hP 0 rfl rfl 3 (by decide) (hts (.fieldLink RX0 30 "SlateRows$Course" "seed" "I") (by decide +kernel)) (fun _ h9 => h9) rfl dX0_drawn_30 ?_
    refine lv_ldc (v := 2147483647) hx hb hown (hts (.constant RX0 102 (2147483647)) (by decide +kernel)) dX0_drawn_33 ?_
    refine lv_iand hx hb dX0_drawn_35 ?_
    refine lv_ldc (v := 65536) hx hb hown (hts (.constant RX0 103 (65536)) (by decide +kernel)) dX0_drawn_36 ?_
    refine lv_idiv hx hb dX0_drawn_38 (by decide) ?_
    refine lv_iload_n hx hb dX0_drawn_39 rfl (lv_at hl 0 rfl) ?_
    obtain ⟨hz, h⟩ := ck_some h
    refine lv_irem hx hb dX0_drawn_40 (nz_ne hz) ?_
    refine lv_istore_n (lv' := [(2, .int (((((C_seed * 1103515245) + 12345) &&& 2147483647) / 65536) - ((((C_seed * 1103515245) + 12345) &&& 2147483647) / 65536) / r_1 * r_1)), (1, .int r_1), (0, .ref aC)]) hx hb dX0_drawn_41 rfl hl (by decide) rfl (fun ls hl => ?_)
    refine lv_iconst (v := 0) hx hb dX0_drawn_42 (by decide) ?_
    refine lv_istore_n (lv' := [(3, .int 0), (2, .int (((((C_seed * 1103515245) + 12345) &&& 2147483647) / 65536) - ((((C_seed * 1103515245) + 12345) &&& 2147483647) / 65536) / r_1 * r_1)), (1, .int r_1), (0, .ref aC)]) hx hb dX0_drawn_43 rfl hl (by decide) rfl (fun ls hl => ?_)
    have L44_4 : ∀ (n_5 : Nat) (v2_6 : Int32) (v3_7 : Int32)  (ls : Array Slot) (H : Heap) (locs : List Loc), f_X0_drawn_L44 N ((C_seed * 1103515245) + 12345) R_many R_widths n_5 v2_6 v3_7 = some res → lv_has ls 4 [(0, .ref aC), (2, .int v2_6), (3, .int v3_7)] → va_P (dC, dI) vwCl [(aC, .inr (0, [.ref aR, .int C_row, .ref aY, .int ((C_seed * 1103515245) + 12345), .int C_length, .int C_place, .int C_slates, .int C_asides])), (aR, .inr (3, [.ref aR_inches, .ref aR_many, .ref aR_worth, .ref aR_lengths, .ref aR_laid, .ref aR_slates, .int R_widths, .int R_rows, .int R_lap])), (aR_inches, .inl (cI, 4, .inl R_inches)), (aR_many, .inl (cI, 4, .inl R_many)), (aR_worth, .inl (cI, 4, .inl R_worth)), (aR_lengths, .inl (cI, 6, .inl R_lengths)), (aR_laid, .inl (cI, 6, .inl R_laid)), (aR_slates, .inl (cI, 72, .inl R_slates)), (aY, .inr (1, [.int Y_kind, .int Y_figure]))] H → va_D A [(aC, .inr (0, [.ref aR, .int C_row, .ref aY, .int ((C_seed * 1103515245) + 12345), .int C_length, .int C_place, .int C_slates, .int C_asides])), (aR, .inr (3, [.ref aR_inches, .ref aR_many, .ref aR_worth, .ref aR_lengths, .ref aR_laid, .ref aR_slates, .int R_widths, .int R_rows, .int R_lap])), (aR_inches, .inl (cI, 4, .inl R_inches)), (aR_many, .inl (cI, 4, .inl R_many)), (aR_worth, .inl (cI, 4, .inl R_worth)), (aR_lengths, .inl (cI, 6, .inl R_lengths)), (aR_laid, .inl (cI, 6, .inl R_laid)), (aR_slates, .inl (cI, 72, .inl R_slates)), (aY, .inr (1, [.int Y_kind, .int Y_figure]))] → va_S A s.heap H locs → W p l e (headSpec wsX0_drawn ({ frames := 1, cells := 0, slots := 0, locals := 22 })).room s m ([.ref aC] : List Value).toArray below meth c H locs 0 0 (MQ below (va_Qi (fun (r : Int32) (_ : Unit) => r = res.1) (fun _ => qW (dC, dI) cI cZ cS A [(aC, .inr (0, [.ref aR, .int C_row, .ref aY, .int res.2.1, .int C_length, .int C_place, .int C_slates, .int C_asides])), (aR, .inr (3, [.ref aR_inches, .ref aR_many, .ref aR_worth, .ref aR_lengths, .ref aR_laid, .ref aR_slates, .int R_widths, .int R_rows, .int R_lap])), (aR_inches, .inl (cI, 4, .inl R_inches)), (aR_many, .inl (cI, 4, .inl res.2.2)), (aR_worth, .inl (cI, 4, .inl R_worth)), (aR_lengths, .inl (cI, 6, .inl R_lengths)), (aR_laid, .inl (cI, 6, .inl R_laid)), (aR_slates, .inl (cI, 72, .inl R_slates)), (aY, .inr (1, [.int Y_kind, .int Y_figure]))]) A) ([.ref aC] : List Value).toArray s 0 0 A) (F0 m 44 ls []) := by
      intro n_5
      induction n_5 with
      | zero =>
        intro v2_6 v3_7 ls H locs h
        simp only [f_X0_drawn_L44] at h
        try exact absurd h (by simp)
      | succ n_5 ihn_5 =>
        intro v2_6 v3_7 ls H locs h hl hP hD hS
        rw [f_X0_drawn_L44] at h
        refine lv_iload_n hx hb dX0_drawn_44 rfl (lv_at hl 2 rfl) ?_
        refine lv_aload_n hx hb dX0_drawn_45 rfl (lv_at hl 0 rfl) ?_
        refine va_get (D := (dC, dI)) (ci := 0) (v := .ref aR) (C := RX0) (T := TX0) (N := 8) hx hb hts (fun _ h => List.mem_cons_of_mem _ (List.mem_append_left _ (List.mem_append_right _ h))) hown hK hP 0 rfl rfl 0 (by decide) (hts (.fieldLink RX0 19 "SlateRows$Course" "roof" "LSlateRows$Roof;") (by decide +kernel)) (fun _ h9 => h9) rfl dX0_drawn_46 ?_
        refine va_get (D := (dC, dI)) (ci := 3) (v := .int R_widths) (C := RX3) (T := TX3) (N := 9) hx hb hts (fun _ h => List.mem_cons_of_mem _ (List.mem_append_right _ h)) hown hK hP 1 rfl rfl 6 (by decide) (hts (.fieldLink RX0 70 "SlateRows$Roof" "widths" "I") (by decide +kernel)) (fun _ h9 => h9) rfl dX0_drawn_49 ?_
        refine lv_icmp_ge (tgt := 101) hx hb dX0_drawn_52 (by decide) (fun c_8 => ?_) (fun c_8 => ?_)
        · have h := it_p c_8 h
          refine lv_iconst (v := (-1)) hx hb dX0_drawn_101 (by decide) ?_
          have h := Option.some.inj h
          exact W.iret hx hb hr (fun t ht hW => ⟨⟨_, (), rfl, by rw [← h], by (try rw [← h]); rw [ht]; exact hP, va_K.moved hW.alike hK, by (try rw [← h]); exact hD⟩, hS.F ht⟩) hS.2.2 dX0_drawn_102
        · have h := it_n c_8 h
          refine lv_iload_n hx hb dX0_drawn_55 rfl (lv_at hl 1 rfl) ?_
          refine lv_aload_n hx hb dX0_drawn_56 rfl (lv_at hl 0 rfl) ?_
          refine va_get (D := (dC, dI)) (ci := 0) (v := .ref aR) (C := RX0) (T := TX0) (N := 8) hx hb hts (fun _ h => List.mem_cons_of_mem _ (List.mem_append_left _ (List.mem_append_right _ h))) hown hK hP 0 rfl rfl 0 (by decide) (hts (.fieldLink RX0 19 "SlateRows$Course" "roof" "LSlateRows$Roof;") (by decide +kernel)) (fun _ h9 => h9) rfl dX0_drawn_57 ?_
          refine va_get (D := (dC, dI)) (ci := 3) (v := .ref aR_many) (C := RX3) (T := TX3) (N := 9) hx hb hts (fun _ h => List.mem_cons_of_mem _ (List.mem_append_right _ h)) hown hK hP 1 rfl rfl 1 (by decide) (hts (.fieldLink RX0 61 "SlateRows$Roof" "many" "[I") (by decide +kernel)) (fun _ h9 => h9) rfl dX0_drawn_60 ?_
          refine lv_iload_n hx hb dX0_drawn_63 rfl (lv_at hl 2 rfl) ?_
          obtain ⟨hi, h⟩ := ck_some h
          refine va_iald hx hb hK hP 3 0 rfl rfl (gi_in hi) dX0_drawn_64 ?_
          refine lv_icmp_ge (tgt := 83) hx hb dX0_drawn_65 (by decide) (fun c_9 => ?_) (fun c_9 => ?_)
          · have h := it_p c_9 h
            refine lv_iload_n hx hb dX0_drawn_83 rfl (lv_at hl 1 rfl) ?_
            refine lv_aload_n hx hb dX0_drawn_84 rfl (lv_at hl 0 rfl) ?_
            refine va_get (D := (dC, dI)) (ci := 0) (v := .ref aR) (C := RX0) (T := TX0) (N := 8) hx hb hts (fun _ h => List.mem_cons_of_mem _ (List.mem_append_left _ (List.mem_append_right _ h))) hown hK hP 0 rfl rfl 0 (by decide) (hts (.fieldLink RX0 19 "SlateRows$Course" "roof" "LSlateRows$Roof;") (by decide +kernel)) (fun _ h9 => h9) rfl dX0_drawn_85 ?_
            refine va_get (D := (dC, dI)) (ci := 3) (v := .ref aR_many) (C := RX3) (T := TX3) (N := 9) hx hb hts (fun _ h => List.mem_cons_of_mem _ (List.mem_append_right _ h)) hown hK hP 1 rfl rfl 1 (by decide) (hts (.fieldLink RX0 61 "SlateRows$Roof" "many" "[I") (by decide +kernel)) (fun _ h9 => h9) rfl dX0_drawn_88 ?_
            refine lv_iload_n hx hb dX0_drawn_91 rfl (lv_at hl 2 rfl) ?_
            obtain ⟨hi, h⟩ := ck_some h
            refine va_iald hx hb hK hP 3 0 rfl rfl (gi_in hi) dX0_drawn_92 ?_
            refine lv_isub hx hb dX0_drawn_93 ?_
            refine lv_istore_n (lv' := [(2, .int (v2_6 - (R_many v3_7.toNatClampNeg))), (0, .ref aC), (3, .int v3_7)]) hx hb dX0_drawn_94 rfl hl (by decide) rfl (fun ls hl => ?_)
            refine lv_iinc (v := (v3_7 + 1)) (lv' := [(3, .int (v3_7 + 1)), (2, .int (v2_6 - (R_many v3_7.toNatClampNeg))), (0, .ref aC)]) hx hb dX0_drawn_95 hl (k := 2) rfl rfl (by decide) rfl (fun ls hl => ?_)
            refine lv_goto (tgt := 44) hx hb dX0_drawn_98 (by decide) ?_
            exact ihn_5 (v2_6 - (R_many v3_7.toNatClampNeg)) (v3_7 + 1) ls _ _ h (lv_sub hl [2, 1, 0] rfl) hP hD hS
          · have h := it_n c_9 h
            refine lv_aload_n hx hb dX0_drawn_68 rfl (lv_at hl 0 rfl) ?_
            refine va_get (D := (dC, dI)) (ci := 0) (v := .ref aR) (C := RX0) (T := TX0) (N := 8) hx hb hts (fun _ h => List.mem_cons_of_mem _ (List.mem_append_left _ (List.mem_append_right _ h))) hown hK hP 0 rfl rfl 0 (by decide) (hts (.fieldLink RX0 19 "SlateRows$Course" "roof" "LSlateRows$Roof;") (by decide +kernel)) (fun _ h9 => h9) rfl dX0_drawn_69 ?_
            refine va_get (D := (dC, dI)) (ci := 3) (v := .ref aR_many) (C := RX3) (T := TX3) (N := 9) hx hb hts (fun _ h => List.mem_cons_of_mem _ (List.mem_append_right _ h)) hown hK hP 1 rfl rfl 1 (by decide) (hts (.fieldLink RX0 61 "SlateRows$Roof" "many" "[I") (by decide +kernel)) (fun _ h9 => h9) rfl dX0_drawn_72 ?_
            refine lv_iload_n hx hb dX0_drawn_75 rfl (lv_at hl 2 rfl) ?_
            refine lv_dup2_11 hx hb dX0_drawn_76 rfl rfl ?_
            obtain ⟨hi, h⟩ := ck_some h
            refine va_iald hx hb hK hP 3 0 rfl rfl (gi_in hi) dX0_drawn_77 ?_
            refine lv_iconst (v := 1) hx hb dX0_drawn_78 (by decide) ?_
            refine lv_isub hx hb dX0_drawn_79 ?_
            obtain ⟨hi, h⟩ := ck_some h
            refine va_iast hx hb hK hP hD hS 3 0 rfl rfl (gi_in hi) dX0_drawn_80 (fun H locs hP hD hS => ?_)
            have hP : va_P (dC, dI) vwCl [(aC, .inr (0, [.ref aR, .int C_row, .ref aY, .int ((C_seed * 1103515245) + 12345), .int C_length, .int C_place, .int C_slates, .int C_asides])), (aR, .inr (3, [.ref aR_inches, .ref aR_many, .ref aR_worth, .ref aR_lengths, .ref aR_laid, .ref aR_slates, .int R_widths, .int R_rows, .int R_lap])), (aR_inches, .inl (cI, 4, .inl R_inches)), (aR_many, .inl (cI, 4, .inl (upd R_many v3_7.toNatClampNeg ((R_many v3_7.toNatClampNeg) - 1)))), (aR_worth, .inl (cI, 4, .inl R_worth)), (aR_lengths, .inl (cI, 6, .inl R_lengths)), (aR_laid, .inl (cI, 6, .inl R_laid)), (aR_slates, .inl (cI, 72, .inl R_slates)), (aY, .inr (1, [.int Y_kind, .int Y_figure]))] H := hP
            have hD : va_D A [(aC, .inr (0, [.ref aR, .int C_row, .ref aY, .int ((C_seed * 1103515245) + 12345), .int C_length, .int C_place, .int C_slates, .int C_asides])), (aR, .inr (3, [.ref aR_inches, .ref aR_many, .ref aR_worth, .ref aR_lengths, .ref aR_laid, .ref aR_slates, .int R_widths, .int R_rows, .int R_lap])), (aR_inches, .inl (cI, 4, .inl R_inches)), (aR_many, .inl (cI, 4, .inl (upd R_many v3_7.toNatClampNeg ((R_many v3_7.toNatClampNeg) - 1)))), (aR_worth, .inl (cI, 4, .inl R_worth)), (aR_lengths, .inl (cI, 6, .inl R_lengths)), (aR_laid, .inl (cI, 6, .inl R_laid)), (aR_slates, .inl (cI, 72, .inl R_slates)), (aY, .inr (1, [.int Y_kind, .int Y_figure]))] := hD
            refine lv_iload_n hx hb dX0_drawn_81 rfl (lv_at hl 2 rfl) ?_
            have h := Option.some.inj h
            exact W.iret hx hb hr (fun t ht hW => ⟨⟨_, (), rfl, by rw [← h], by (try rw [← h]); rw [ht]; exact hP, va_K.moved hW.alike hK, by (try rw [← h]); exact hD⟩, hS.F ht⟩) hS.2.2 dX0_drawn_82
    exact L44_4 N (((((C_seed * 1103515245) + 12345) &&& 2147483647) / 65536) - ((((C_seed * 1103515245) + 12345) &&& 2147483647) / 65536) / r_1 * r_1) 0 ls _ _ h (lv_sub hl [3, 1, 0] rfl) hP hD hS
  · have h := it_n c_2 h
    refine lv_iconst (v := (-1)) hx hb dX0_drawn_12 (by decide) ?_
    have h := Option.some.inj h
    exact W.iret hx hb hr (fun t ht hW => ⟨⟨_, (), rfl, by rw [← h], by (try rw [← h]); rw [ht]; exact hP, va_K.moved hW.alike hK, by (try rw [← h]); exact hD⟩, hS.F ht⟩) hS.2.2 dX0_drawn_13
def f_X0_chosenWidth_L4 (N : Nat) (C_row : Int32) (C_length : Int32) (C_place : Int32) (R_inches : Nat → Int32) (R_many : Nat → Int32) (R_laid : Nat → Int32) (R_slates : Nat → Int32) (R_widths : Int32) (R_lap : Int32) (Y_kind : Int32) (Y_figure : Int32) : Nat → Int32 → Int32 → Option (Int32)
  | 0, _, _ => none
  | n + 1, v1, v2 =>
    if R_widths ≤ v2 then (some (v1)) else (ck (gi v2 4) (if (R_many v2.toNatClampNeg) ≤ 0 then (f_X0_chosenWidth_L4 N C_row C_length C_place R_inches R_many R_laid R_slates R_widths R_lap Y_kind Y_figure n v1 (v2 + 1)) else ((f_X0_fits N C_row C_length C_place R_inches R_laid R_slates R_lap Y_kind v2).bind fun r_4 => if (b2i r_4) = 0 then (f_X0_chosenWidth_L4 N C_row C_length C_place R_inches R_many R_laid R_slates R_widths R_lap Y_kind Y_figure n v1 (v2 + 1)) else (if v1 = (-1) then (f_X0_chosenWidth_L4 N C_row C_length C_place R_inches R_many R_laid R_slates R_widths R_lap Y_kind Y_figure n v2 (v2 + 1)) else ((f_X0_rank N R_inches Y_kind Y_figure v2).bind fun r_9 => (f_X0_rank N R_inches Y_kind Y_figure v1).bind fun r_10 => if r_10 ≤ r_9 then (f_X0_chosenWidth_L4 N C_row C_length C_place R_inches R_many R_laid R_slates R_widths R_lap Y_kind Y_figure n v1 (v2 + 1)) else (f_X0_chosenWidth_L4 N C_row C_length C_place R_inches R_many R_laid R_slates R_widths R_lap Y_kind Y_figure n v2 (v2 + 1)))))))
def f_X0_chosenWidth (N : Nat) (C_row : Int32) (C_length : Int32) (C_place : Int32) (R_inches : Nat → Int32) (R_many : Nat → Int32) (R_laid : Nat → Int32) (R_slates : Nat → Int32) (R_widths : Int32) (R_lap : Int32) (Y_kind : Int32) (Y_figure : Int32) : Option (Int32) :=
  f_X0_chosenWidth_L4 N C_row C_length C_place R_inches R_many R_laid R_slates R_widths R_lap Y_kind Y_figure N (-1) 0
set_option maxHeartbeats 4000000 in
set_option maxRecDepth 100000 in
theorem k_X0_chosenWidth (l : Launch) (dC : Nat → ClassId) (dI : Nat → Nat → Nat) (cI cZ cS : ClassId) (N : Nat) (aC aR aR_inches aR_many aR_worth aR_lengths aR_laid aR_slates aY : Nat) (C_row : Int32) (C_seed : Int32) (C_length : Int32) (C_place : Int32) (C_slates : Int32) (C_asides : Int32) (R_inches : Nat → Int32) (R_many : Nat → Int32) (R_worth : Nat → Int32) (R_lengths : Nat → Int32) (R_laid : Nat → Int32) (R_slates : Nat → Int32) (R_widths : Int32) (R_rows : Int32) (R_lap : Int32) (Y_kind : Int32) (Y_figure : Int32) (res : Int32) (h : f_X0_chosenWidth N C_row C_length C_place R_inches R_many R_laid R_slates R_widths R_lap Y_kind Y_figure = some res) : Met l yX0_chosenWidth wsX0_chosenWidth ({ frames := 3, cells := 0, slots := 0, locals := 68 }) (va_Pc [.ref aC] (wd (dC, dI) cI cZ cS [(aC, .inr (0, [.ref aR, .int C_row, .ref aY, .int C_seed, .int C_length, .int C_place, .int C_slates, .int C_asides])), (aR, .inr (3, [.ref aR_inches, .ref aR_many, .ref aR_worth, .ref aR_lengths, .ref aR_laid, .ref aR_slates, .int R_widths, .int R_rows, .int R_lap])), (aR_inches, .inl (cI, 4, .inl R_inches)), (aR_many, .inl (cI, 4, .inl R_many)), (aR_worth, .inl (cI, 4, .inl R_worth)), (aR_lengths, .inl (cI, 6, .inl R_lengths)), (aR_laid, .inl (cI, 6, .inl R_laid)), (aR_slates, .inl (cI, 72, .inl R_slates)), (aY, .inr (1, [.int Y_kind, .int Y_figure]))])) (vp_Si (fun r => r = res)) 0 0 (fun _ => False) := by
  refine Met.ofW (cc := cX0_chosenWidth) (maxL := 4) (ret := (some .int)) (by decide) rfl ?_
  intro p e s m args below meth c s₁ B hml hv
  obtain ⟨rfl, hP, hK, hD⟩ := hv
  have hx := B.exec
  have hb := B.bytes
  have hr := B.returns
  have hts := atoms_spec (ws := wsX0_chosenWidth) B.pre
  have hown : s.vm.findClass RX0 = some m.cls := findClass_of_methodNamed B.named
  have hlocks := B.notSynchronized
  have hl := lv_entry ([.ref aC]) (n := 4) (Nat.le_of_ble_eq_true rfl)
  rw [lg_entry_eq]
  generalize (lg_sl ([.ref aC]) ++ List.replicate (4 - (lg_sl ([.ref aC])).length) Slot.unset).toArray = ls at hl ⊢
  have hl : lv_has ls 4 [(0, .ref aC)] := hl
  unfold f_X0_chosenWidth at h
  refine lv_iconst (v := (-1)) hx hb dX0_chosenWidth_0 (by decide) ?_
  refine lv_istore_n (lv' := [(1, .int (-1)), (0, .ref aC)]) hx hb dX0_chosenWidth_1 rfl hl (by decide) rfl (fun ls hl => ?_)
  refine lv_iconst (v := 0) hx hb dX0_chosenWidth_2 (by decide) ?_
  refine lv_istore_n (lv' := [(2, .int 0), (1, .int (-1)), (0, .ref aC)]) hx hb dX0_chosenWidth_3 rfl hl (by decide) rfl (fun ls hl => ?_)
  have L4_11 : ∀ (n_12 : Nat) (v1_13 : Int32) (v2_14 : Int32)  (ls : Array Slot), f_X0_chosenWidth_L4 N C_row C_length C_place R_inches R_many R_laid R_slates R_widths R_lap Y_kind Y_figure n_12 v1_13 v2_14 = some res → lv_has ls 4 [(0, .ref aC), (1, .int v1_13), (2, .int v2_14)] → W p l e (headSpec wsX0_chosenWidth ({ frames := 3, cells := 0, slots := 0, locals := 68 })).room s m ([.ref aC] : List Value).toArray below meth c s.heap [] 0 0 (MQ below (vp_Si (fun r => r = res)) ([.ref aC] : List Value).toArray s 0 0 (fun _ => False)) (F0 m 4 ls []) := by
    intro n_12
    induction n_12 with
    | zero =>
      intro v1_13 v2_14 ls h
      simp only [f_X0_chosenWidth_L4] at h
      try exact absurd h (by simp)
    | succ n_12 ihn_12 =>
      intro v1_13 v2_14 ls h hl
      rw [f_X0_chosenWidth_L4] at h
      refine lv_iload_n hx hb dX0_chosenWidth_4 rfl (lv_at hl 2 rfl) ?_
      refine lv_aload_n hx hb dX0_chosenWidth_5 rfl (lv_at hl 0 rfl) ?_
      refine va_get (D := (dC, dI)) (ci := 0) (v := .ref aR) (C := RX0) (T := TX0) (N := 8) hx hb hts (fun _ h => List.mem_cons_of_mem _ (List.mem_append_left _ (List.mem_append_left _ (List.mem_append_right _ h)))) hown hK hP 0 rfl rfl 0 (by decide) (hts (.fieldLink RX0 19 "SlateRows$Course" "roof" "LSlateRows$Roof;") (by decide +kernel)) (fun _ h9 => h9) rfl dX0_chosenWidth_6 ?_
      refine va_get (D := (dC, dI)) (ci := 3) (v := .int R_widths) (C := RX3) (T := TX3) (N := 9) hx hb hts (fun _ h => List.mem_cons_of_mem _ (List.mem_append_left _ (List.mem_append_right _ h))) hown hK hP 1 rfl rfl 6 (by decide) (hts (.fieldLink RX0 70 "SlateRows$Roof" "widths" "I") (by decide +kernel)) (fun _ h9 => h9) rfl dX0_chosenWidth_9 ?_
      refine lv_icmp_ge (tgt := 71) hx hb dX0_chosenWidth_12 (by decide) (fun c_15 => ?_) (fun c_15 => ?_)
      · have h := it_p c_15 h
        refine lv_iload_n hx hb dX0_chosenWidth_71 rfl (lv_at hl 1 rfl) ?_
        exact W.iret hx hb hr (fun t ht hW => ⟨_, rfl, Option.some.inj h, ht⟩) (fun q hq => by cases hq) dX0_chosenWidth_72
      · have h := it_n c_15 h
        refine lv_aload_n hx hb dX0_chosenWidth_15 rfl (lv_at hl 0 rfl) ?_
        refine va_get (D := (dC, dI)) (ci := 0) (v := .ref aR) (C := RX0) (T := TX0) (N := 8) hx hb hts (fun _ h => List.mem_cons_of_mem _ (List.mem_append_left _ (List.mem_append_left _ (List.mem_append_right _ h)))) hown hK hP 0 rfl rfl 0 (by decide) (hts (.fieldLink RX0 19 "SlateRows$Course" "roof" "LSlateRows$Roof;") (by decide +kernel)) (fun _ h9 => h9) rfl dX0_chosenWidth_16 ?_
        refine va_get (D := (dC, dI)) (ci := 3) (v := .ref aR_many) (C := RX3) (T := TX3) (N := 9) hx hb hts (fun _ h => List.mem_cons_of_mem _ (List.mem_append_left _ (List.mem_append_right _ h))) hown hK hP 1 rfl rfl 1 (by decide) (hts (.fieldLink RX0 61 "SlateRows$Roof" "many" "[I") (by decide +kernel)) (fun _ h9 => h9) rfl dX0_chosenWidth_19 ?_
        refine lv_iload_n hx hb dX0_chosenWidth_22 rfl (lv_at hl 2 rfl) ?_
        obtain ⟨hi, h⟩ := ck_some h
        refine va_iald hx hb hK hP 3 0 rfl rfl (gi_in hi) dX0_chosenWidth_23 ?_
        refine lv_if_le (tgt := 39) hx hb dX0_chosenWidth_24 (by decide) (fun c_16 => ?_) (fun c_16 => ?_)
        · have h := it_p c_16 h
          refine lv_iconst (v := 0) hx hb dX0_chosenWidth_39 (by decide) ?_
          refine lv_istore_n (lv' := [(3, .int 0), (0, .ref aC), (1, .int v1_13), (2, .int v2_14)]) hx hb dX0_chosenWidth_40 rfl hl (by decide) rfl (fun ls hl => ?_)
          refine lv_iload_n hx hb dX0_chosenWidth_41 rfl (lv_at hl 0 rfl) ?_
          refine lv_if_eq (tgt := 65) hx hb dX0_chosenWidth_42 (by decide) (fun c_17 => ?_) (fun c_17 => ?_)
          · skip
            refine lv_iinc (v := (v2_14 + 1)) (lv' := [(2, .int (v2_14 + 1)), (3, .int 0), (0, .ref aC), (1, .int v1_13)]) hx hb dX0_chosenWidth_65 hl (k := 3) rfl rfl (by decide) rfl (fun ls hl => ?_)
            refine lv_goto (tgt := 4) hx hb dX0_chosenWidth_68 (by decide) ?_
            exact ihn_12 v1_13 (v2_14 + 1) ls h (lv_sub hl [2, 3, 0] rfl)
          · exact absurd (by decide) c_17
        · have h := it_n c_16 h
          refine lv_aload_n hx hb dX0_chosenWidth_27 rfl (lv_at hl 0 rfl) ?_
          refine lv_iload_n hx hb dX0_chosenWidth_28 rfl (lv_at hl 2 rfl) ?_
          obtain ⟨r_18, hg, h⟩ := bd_some h
          refine rdV (As := [.int v2_14]) (rest := []) (ci := 0) ⟨hx, hb, hml, hown, hts⟩ (k_X0_fits l dC dI cI cZ cS N aC aR aR_inches aR_many aR_worth aR_lengths aR_laid aR_slates aY C_row C_seed C_length C_place C_slates C_asides R_inches R_many R_worth R_lengths R_laid R_slates R_widths R_rows R_lap Y_kind Y_figure v2_14 r_18 hg) (cwV 1 hts gX0_chosenWidth_X0_fits rfl rfl rfl cd_X0_fits ⟨Nat.le_of_ble_eq_true rfl, Nat.le_of_ble_eq_true rfl⟩) hP hD hK [0, 1, 2, 3, 4, 5, 6, 7, 8] (by decide) rfl rfl rfl rfl hl.1 rfl (Nat.le_of_ble_eq_true rfl) dX0_chosenWidth_29 ⟨Nat.zero_le _, Nat.zero_le _⟩ ?_
          refine lv_if_eq (tgt := 39) hx hb dX0_chosenWidth_32 (by decide) (fun c_19 => ?_) (fun c_19 => ?_)
          · have h := it_p c_19 h
            refine lv_iconst (v := 0) hx hb dX0_chosenWidth_39 (by decide) ?_
            refine lv_istore_n (lv' := [(3, .int 0), (0, .ref aC), (1, .int v1_13), (2, .int v2_14)]) hx hb dX0_chosenWidth_40 rfl hl (by decide) rfl (fun ls hl => ?_)
            refine lv_iload_n hx hb dX0_chosenWidth_41 rfl (lv_at hl 0 rfl) ?_
            refine lv_if_eq (tgt := 65) hx hb dX0_chosenWidth_42 (by decide) (fun c_20 => ?_) (fun c_20 => ?_)
            · skip
              refine lv_iinc (v := (v2_14 + 1)) (lv' := [(2, .int (v2_14 + 1)), (3, .int 0), (0, .ref aC), (1, .int v1_13)]) hx hb dX0_chosenWidth_65 hl (k := 3) rfl rfl (by decide) rfl (fun ls hl => ?_)
              refine lv_goto (tgt := 4) hx hb dX0_chosenWidth_68 (by decide) ?_
              exact ihn_12 v1_13 (v2_14 + 1) ls h (lv_sub hl [2, 3, 0] rfl)
            · exact absurd (by decide) c_20
          · have h := it_n c_19 h
            refine lv_iconst (v := 1) hx hb dX0_chosenWidth_35 (by decide) ?_
            refine lv_goto (tgt := 40) hx hb dX0_chosenWidth_36 (by decide) ?_
            refine lv_istore_n (lv' := [(3, .int 1), (0, .ref aC), (1, .int v1_13), (2, .int v2_14)]) hx hb dX0_chosenWidth_40 rfl hl (by decide) rfl (fun ls hl => ?_)
            refine lv_iload_n hx hb dX0_chosenWidth_41 rfl (lv_at hl 0 rfl) ?_
            refine lv_if_eq (tgt := 65) hx hb dX0_chosenWidth_42 (by decide) (fun c_21 => ?_) (fun c_21 => ?_)
            · exact absurd c_21 (by decide)
            · skip
              refine lv_iload_n hx hb dX0_chosenWidth_45 rfl (lv_at hl 2 rfl) ?_
              refine lv_iconst (v := (-1)) hx hb dX0_chosenWidth_46 (by decide) ?_
              refine lv_icmp_eq (tgt := 63) hx hb dX0_chosenWidth_47 (by decide) (fun c_22 => ?_) (fun c_22 => ?_)
              · have h := it_p c_22 h
                refine lv_iload_n hx hb dX0_chosenWidth_63 rfl (lv_at hl 3 rfl) ?_
                refine lv_istore_n (lv' := [(1, .int v2_14), (3, .int 1), (0, .ref aC), (2, .int v2_14)]) hx hb dX0_chosenWidth_64 rfl hl (by decide) rfl (fun ls hl => ?_)
                refine lv_iinc (v := (v2_14 + 1)) (lv' := [(2, .int (v2_14 + 1)), (1, .int v2_14), (3, .int 1), (0, .ref aC)]) hx hb dX0_chosenWidth_65 hl (k := 3) rfl rfl (by decide) rfl (fun ls hl => ?_)
                refine lv_goto (tgt := 4) hx hb dX0_chosenWidth_68 (by decide) ?_
                exact ihn_12 v2_14 (v2_14 + 1) ls h (lv_sub hl [3, 1, 0] rfl)
              · have h := it_n c_22 h
                refine lv_aload_n hx hb dX0_chosenWidth_50 rfl (lv_at hl 1 rfl) ?_
                refine lv_iload_n hx hb dX0_chosenWidth_51 rfl (lv_at hl 3 rfl) ?_
                obtain ⟨r_23, hg, h⟩ := bd_some h
                refine rdV (As := [.int v2_14]) (rest := []) (ci := 0) ⟨hx, hb, hml, hown, hts⟩ (k_X0_rank l dC dI cI cZ cS N aC aR aR_inches aR_many aR_worth aR_lengths aR_laid aR_slates aY C_row C_seed C_length C_place C_slates C_asides R_inches R_many R_worth R_lengths R_laid R_slates R_widths R_rows R_lap Y_kind Y_figure v2_14 r_23 hg) (cwV 1 hts gX0_chosenWidth_X0_rank rfl rfl rfl cd_X0_rank ⟨Nat.le_of_ble_eq_true rfl, Nat.le_of_ble_eq_true rfl⟩) hP hD hK [0, 1, 2, 3, 4, 5, 6, 7, 8] (by decide) rfl rfl rfl rfl hl.1 rfl (Nat.le_of_ble_eq_true rfl) dX0_chosenWidth_52 ⟨Nat.zero_le _, Nat.zero_le _⟩ ?_
                refine lv_aload_n hx hb dX0_chosenWidth_55 rfl (lv_at hl 1 rfl) ?_
                refine lv_iload_n hx hb dX0_chosenWidth_56 rfl (lv_at hl 2 rfl) ?_
                obtain ⟨r_24, hg, h⟩ := bd_some h
                refine rdV (As := [.int v1_13]) (rest := [.int r_23]) (ci := 0) ⟨hx, hb, hml, hown, hts⟩ (k_X0_rank l dC dI cI cZ cS N aC aR aR_inches aR_many aR_worth aR_lengths aR_laid aR_slates aY C_row C_seed C_length C_place C_slates C_asides R_inches R_many R_worth R_lengths R_laid R_slates R_widths R_rows R_lap Y_kind Y_figure v1_13 r_24 hg) (cwV 1 hts gX0_chosenWidth_X0_rank rfl rfl rfl cd_X0_rank ⟨Nat.le_of_ble_eq_true rfl, Nat.le_of_ble_eq_true rfl⟩) hP hD hK [0, 1, 2, 3, 4, 5, 6, 7, 8] (by decide) rfl rfl rfl rfl hl.1 rfl (Nat.le_of_ble_eq_true rfl) dX0_chosenWidth_57 ⟨Nat.zero_le _, Nat.zero_le _⟩ ?_
                refine lv_icmp_ge (tgt := 65) hx hb dX0_chosenWidth_60 (by decide) (fun c_25 => ?_) (fun c_25 => ?_)
                · have h := it_p c_25 h
                  refine lv_iinc (v := (v2_14 + 1)) (lv' := [(2, .int (v2_14 + 1)), (3, .int 1), (0, .ref aC), (1, .int v1_13)]) hx hb dX0_chosenWidth_65 hl (k := 3) rfl rfl (by decide) rfl (fun ls hl => ?_)
                  refine lv_goto (tgt := 4) hx hb dX0_chosenWidth_68 (by decide) ?_
                  exact ihn_12 v1_13 (v2_14 + 1) ls h (lv_sub hl [2, 3, 0] rfl)
                · have h := it_n c_25 h
                  refine lv_iload_n hx hb dX0_chosenWidth_63 rfl (lv_at hl 3 rfl) ?_
                  refine lv_istore_n (lv' := [(1, .int v2_14), (3, .int 1), (0, .ref aC), (2, .int v2_14)]) hx hb dX0_chosenWidth_64 rfl hl (by decide) rfl (fun ls hl => ?_)
                  refine lv_iinc (v := (v2_14 + 1)) (lv' := [(2, .int (v2_14 + 1)), (1, .int v2_14), (3, .int 1), (0, .ref aC)]) hx hb dX0_chosenWidth_65 hl (k := 3) rfl rfl (by decide) rfl (fun ls hl => ?_)
                  refine lv_goto (tgt := 4) hx hb dX0_chosenWidth_68 (by decide) ?_
                  exact ihn_12 v2_14 (v2_14 + 1) ls h (lv_sub hl [3, 1, 0] rfl)
  exact L4_11 N (-1) 0 ls h (lv_sub hl [2, 1, 0] rfl)
def f_X0_handed (N : Nat) (C_row : Int32) (C_seed : Int32) (C_length : Int32) (C_place : Int32) (R_inches : Nat → Int32) (R_many : Nat → Int32) (R_laid : Nat → Int32) (R_slates : Nat → Int32) (R_widths : Int32) (R_lap : Int32) (Y_kind : Int32) : Option (Int32 × Int32 × (Nat → Int32)) :=
  (f_X0_drawn N C_seed R_many R_widths).bind fun r_1 => if r_1.1 = (-1) then (some ((-1), r_1.2.1, r_1.2.2)) else ((f_X0_fits N C_row C_length C_place R_inches R_laid R_slates R_lap Y_kind r_1.1).bind fun r_3 => if (b2i r_3) = 0 then (some ((-1), r_1.2.1, r_1.2.2)) else (some (r_1.1, r_1.2.1, r_1.2.2)))
set_option maxHeartbeats 4000000 in
set_option maxRecDepth 100000 in
theorem k_X0_handed (l : Launch) (dC : Nat → ClassId) (dI : Nat → Nat → Nat) (cI cZ cS : ClassId) (N : Nat) (aC aR aR_inches aR_many aR_worth aR_lengths aR_laid aR_slates aY : Nat) (sz : Nat) (C_row : Int32) (C_seed : Int32) (C_length : Int32) (C_place : Int32) (C_slates : Int32) (C_asides : Int32) (R_inches : Nat → Int32) (R_many : Nat → Int32) (R_worth : Nat → Int32) (R_lengths : Nat → Int32) (R_laid : Nat → Int32) (R_slates : Nat → Int32) (R_widths : Int32) (R_rows : Int32) (R_lap : Int32) (Y_kind : Int32) (Y_figure : Int32) (res : Int32 × Int32 × (Nat → Int32)) (h : f_X0_handed N C_row C_seed C_length C_place R_inches R_many R_laid R_slates R_widths R_lap Y_kind = some res) : Met l yX0_handed wsX0_handed ({ frames := 3, cells := 0, slots := 0, locals := 68 }) (va_Pc [.ref aC] (preW (dC, dI) cI cZ cS [(aC, .inr (0, [.ref aR, .int C_row, .ref aY, .int C_seed, .int C_length, .int C_place, .int C_slates, .int C_asides])), (aR, .inr (3, [.ref aR_inches, .ref aR_many, .ref aR_worth, .ref aR_lengths, .ref aR_laid, .ref aR_slates, .int R_widths, .int R_rows, .int R_lap])), (aR_inches, .inl (cI, 4, .inl R_inches)), (aR_many, .inl (cI, 4, .inl R_many)), (aR_worth, .inl (cI, 4, .inl R_worth)), (aR_lengths, .inl (cI, 6, .inl R_lengths)), (aR_laid, .inl (cI, 6, .inl R_laid)), (aR_slates, .inl (cI, 72, .inl R_slates)), (aY, .inr (1, [.int Y_kind, .int Y_figure]))] sz)) (va_Qi (fun (r : Int32) (_ : Unit) => r = res.1) (fun _ => qW (dC, dI) cI cZ cS (va_A [(aC, .inr (0, [.ref aR, .int C_row, .ref aY, .int C_seed, .int C_length, .int C_place, .int C_slates, .int C_asides])), (aR, .inr (3, [.ref aR_inches, .ref aR_many, .ref aR_worth, .ref aR_lengths, .ref aR_laid, .ref aR_slates, .int R_widths, .int R_rows, .int R_lap])), (aR_inches, .inl (cI, 4, .inl R_inches)), (aR_many, .inl (cI, 4, .inl R_many)), (aR_worth, .inl (cI, 4, .inl R_worth)), (aR_lengths, .inl (cI, 6, .inl R_lengths)), (aR_laid, .inl (cI, 6, .inl R_laid)), (aR_slates, .inl (cI, 72, .inl R_slates)), (aY, .inr (1, [.int Y_kind, .int Y_figure]))] sz) [(aC, .inr (0, [.ref aR, .int C_row, .ref aY, .int res.2.1, .int C_length, .int C_place, .int C_slates, .int C_asides])), (aR, .inr (3, [.ref aR_inches, .ref aR_many, .ref aR_worth, .ref aR_lengths, .ref aR_laid, .ref aR_slates, .int R_widths, .int R_rows, .int R_lap])), (aR_inches, .inl (cI, 4, .inl R_inches)), (aR_many, .inl (cI, 4, .inl res.2.2)), (aR_worth, .inl (cI, 4, .inl R_worth)), (aR_lengths, .inl (cI, 6, .inl R_lengths)), (aR_laid, .inl (cI, 6, .inl R_laid)), (aR_slates, .inl (cI, 72, .inl R_slates)), (aY, .inr (1, [.int Y_kind, .int Y_figure]))]) (va_A [(aC, .inr (0, [.ref aR, .int C_row, .ref aY, .int C_seed, .int C_length, .int C_place, .int C_slates, .int C_asides])), (aR, .inr (3, [.ref aR_inches, .ref aR_many, .ref aR_worth, .ref aR_lengths, .ref aR_laid, .ref aR_slates, .int R_widths, .int R_rows, .int R_lap])), (aR_inches, .inl (cI, 4, .inl R_inches)), (aR_many, .inl (cI, 4, .inl R_many)), (aR_worth, .inl (cI, 4, .inl R_worth)), (aR_lengths, .inl (cI, 6, .inl R_lengths)), (aR_laid, .inl (cI, 6, .inl R_laid)), (aR_slates, .inl (cI, 72, .inl R_slates)), (aY, .inr (1, [.int Y_kind, .int Y_figure]))] sz)) 0 0 (va_A [(aC, .inr (0, [.ref aR, .int C_row, .ref aY, .int C_seed, .int C_length, .int C_place, .int C_slates, .int C_asides])), (aR, .inr (3, [.ref aR_inches, .ref aR_many, .ref aR_worth, .ref aR_lengths, .ref aR_laid, .ref aR_slates, .int R_widths, .int R_rows, .int R_lap])), (aR_inches, .inl (cI, 4, .inl R_inches)), (aR_many, .inl (cI, 4, .inl R_many)), (aR_worth, .inl (cI, 4, .inl R_worth)), (aR_lengths, .inl (cI, 6, .inl R_lengths)), (aR_laid, .inl (cI, 6, .inl R_laid)), (aR_slates, .inl (cI, 72, .inl R_slates)), (aY, .inr (1, [.int Y_kind, .int Y_figure]))] sz) := by
  refine Met.ofW (cc := cX0_handed) (maxL := 2) (ret := (some .int)) (by decide) rfl ?_
  intro p e s m args below meth c s₁ B hml hv
  obtain ⟨rfl, hsz, hP, hK, hD0⟩ := hv
  have hx := B.exec
  have hb := B.bytes
  have hr := B.returns
  have hts := atoms_spec (ws := wsX0_handed) B.pre
  have hown : s.vm.findClass RX0 = some m.cls := findClass_of_methodNamed B.named
  have hlocks := B.notSynchronized
  subst hsz
  have hD := hD0.self (sz := s.heap.size)
  generalize hAe : va_A [(aC, .inr (0, [.ref aR, .int C_row, .ref aY, .int C_seed, .int C_length, .int C_place, .int C_slates, .int C_asides])), (aR, .inr (3, [.ref aR_inches, .ref aR_many, .ref aR_worth, .ref aR_lengths, .ref aR_laid, .ref aR_slates, .int R_widths, .int R_rows, .int R_lap])), (aR_inches, .inl (cI, 4, .inl R_inches)), (aR_many, .inl (cI, 4, .inl R_many)), (aR_worth, .inl (cI, 4, .inl R_worth)), (aR_lengths, .inl (cI, 6, .inl R_lengths)), (aR_laid, .inl (cI, 6, .inl R_laid)), (aR_slates, .inl (cI, 72, .inl R_slates)), (aY, .inr (1, [.int Y_kind, .int Y_figure]))] s.heap.size = A at hD ⊢
  have hA : ∀ q : Nat, s.heap.size ≤ q → A q := fun q h => by rw [← hAe]; exact Or.inr h
  have hS : va_S A s.heap s.heap [] := va_S.rf
  have hl := lv_entry ([.ref aC]) (n := 2) (Nat.le_of_ble_eq_true rfl)
  rw [lg_entry_eq]
  generalize (lg_sl ([.ref aC]) ++ List.replicate (2 - (lg_sl ([.ref aC])).length) Slot.unset).toArray = ls at hl ⊢
  have hl : lv_has ls 2 [(0, .ref aC)] := hl
  unfold f_X0_handed at h
  refine lv_aload_n hx hb dX0_handed_0 rfl (lv_at hl 0 rfl) ?_
  obtain ⟨r_1, hg, h⟩ := bd_some h
  refine mtVi (As := []) (rest := []) (ci := 0) (wr := []) (w2 := [(aC, .inr (0, [.ref aR, .int C_row, .ref aY, .int r_1.2.1, .int C_length, .int C_place, .int C_slates, .int C_asides])), (aR, .inr (3, [.ref aR_inches, .ref aR_many, .ref aR_worth, .ref aR_lengths, .ref aR_laid, .ref aR_slates, .int R_widths, .int R_rows, .int R_lap])), (aR_inches, .inl (cI, 4, .inl R_inches)), (aR_many, .inl (cI, 4, .inl r_1.2.2)), (aR_worth, .inl (cI, 4, .inl R_worth)), (aR_lengths, .inl (cI, 6, .inl R_lengths)), (aR_laid, .inl (cI, 6, .inl R_laid)), (aR_slates, .inl (cI, 72, .inl R_slates)), (aY, .inr (1, [.int Y_kind, .int Y_figure]))]) ⟨hx, hb, hml, hown, hts⟩ (k_X0_drawn l dC dI cI cZ cS N aC aR aR_inches aR_many aR_worth aR_lengths aR_laid aR_slates aY _ C_row C_seed C_length C_place C_slates C_asides R_inches R_many R_worth R_lengths R_laid R_slates R_widths R_rows R_lap Y_kind Y_figure r_1 hg) (cwV 0 hts gX0_handed_X0_drawn rfl rfl rfl cd_X0_drawn ⟨Nat.le_of_ble_eq_true rfl, Nat.le_of_ble_eq_true rfl⟩) hP hD hK hS hA [0, 1, 2, 3, 4, 5, 6, 7, 8] [] [0, 1, 2, 3, 4, 5, 6, 7, 8] (by decide) (by decide) (by decide) (by decide) rfl rfl rfl rfl rfl rfl hl.1 rfl (Nat.le_of_ble_eq_true rfl) dX0_handed_1 ⟨Nat.zero_le _, Nat.zero_le _⟩ (fun H locs hP hD hS => ?_)
  refine lv_istore_n (lv' := [(1, .int r_1.1), (0, .ref aC)]) hx hb dX0_handed_4 rfl hl (by decide) rfl (fun ls hl => ?_)
  refine lv_iload_n hx hb dX0_handed_5 rfl (lv_at hl 0 rfl) ?_
  refine lv_iconst (v := (-1)) hx hb dX0_handed_6 (by decide) ?_
  refine lv_icmp_eq (tgt := 22) hx hb dX0_handed_7 (by decide) (fun c_2 => ?_) (fun c_2 => ?_)
  · have h := it_p c_2 h
    refine lv_iconst (v := (-1)) hx hb dX0_handed_22 (by decide) ?_
    have h := Option.some.inj h
    exact W.iret hx hb hr (fun t ht hW => ⟨⟨_, (), rfl, by rw [← h], by (try rw [← h]); rw [ht]; exact hP, va_K.moved hW.alike hK, by (try rw [← h]); exact hD⟩, hS.F ht⟩) hS.2.2 dX0_handed_23
  · have h := it_n c_2 h
    refine lv_aload_n hx hb dX0_handed_10 rfl (lv_at hl 1 rfl) ?_
    refine lv_iload_n hx hb dX0_handed_11 rfl (lv_at hl 0 rfl) ?_
    obtain ⟨r_3, hg, h⟩ := bd_some h
    refine rdV (As := [.int r_1.1]) (rest := []) (ci := 0) ⟨hx, hb, hml, hown, hts⟩ (k_X0_fits l dC dI cI cZ cS N aC aR aR_inches aR_many aR_worth aR_lengths aR_laid aR_slates aY C_row r_1.2.1 C_length C_place C_slates C_asides R_inches r_1.2.2 R_worth R_lengths R_laid R_slates R_widths R_rows R_lap Y_kind Y_figure r_1.1 r_3 hg) (cwV 1 hts gX0_handed_X0_fits rfl rfl rfl cd_X0_fits ⟨Nat.le_of_ble_eq_true rfl, Nat.le_of_ble_eq_true rfl⟩) hP hD hK [0, 1, 2, 3, 4, 5, 6, 7, 8] (by decide) rfl rfl rfl rfl hl.1 rfl (Nat.le_of_ble_eq_true rfl) dX0_handed_12 ⟨Nat.zero_le _, Nat.zero_le _⟩ ?_
    refine lv_if_eq (tgt := 22) hx hb dX0_handed_15 (by decide) (fun c_4 => ?_) (fun c_4 => ?_)
    · have h := it_p c_4 h
      refine lv_iconst (v := (-1)) hx hb dX0_handed_22 (by decide) ?_
      have h := Option.some.inj h
      exact W.iret hx hb hr (fun t ht hW => ⟨⟨_, (), rfl, by rw [← h], by (try rw [← h]); rw [ht]; exact hP, va_K.moved hW.alike hK, by (try rw [← h]); exact hD⟩, hS.F ht⟩) hS.2.2 dX0_handed_23
    · have h := it_n c_4 h
      refine lv_iload_n hx hb dX0_handed_18 rfl (lv_at hl 0 rfl) ?_
      refine lv_goto (tgt := 23) hx hb dX0_handed_19 (by decide) ?_
      have h := Option.some.inj h
      exact W.iret hx hb hr (fun t ht hW => ⟨⟨_, (), rfl, by rw [← h], by (try rw [← h]); rw [ht]; exact hP, va_K.moved hW.alike hK, by (try rw [← h]); exact hD⟩, hS.F ht⟩) hS.2.2 dX0_handed_23
def f_X0_betterOfTwo (N : Nat) (C_row : Int32) (C_seed : Int32) (C_length : Int32) (C_place : Int32) (R_inches : Nat → Int32) (R_many : Nat → Int32) (R_laid : Nat → Int32) (R_slates : Nat → Int32) (R_widths : Int32) (R_lap : Int32) (Y_kind : Int32) : Option (Int32 × Int32 × (Nat → Int32)) :=
  (f_X0_drawn N C_seed R_many R_widths).bind fun r_1 => (f_X0_drawn N r_1.2.1 r_1.2.2 R_widths).bind fun r_2 => if r_1.1 = (-1) then (if r_2.1 = (-1) then (some ((-1), r_2.2.1, r_2.2.2)) else ((f_X0_fits N C_row C_length C_place R_inches R_laid R_slates R_lap Y_kind r_2.1).bind fun r_8 => if (b2i r_8) = 0 then (some ((-1), r_2.2.1, r_2.2.2)) else ((f_X0_giveBack N r_2.2.2 r_1.1).bind fun r_16 => some (r_2.1, r_2.2.1, r_16)))) else ((f_X0_fits N C_row C_length C_place R_inches R_laid R_slates R_lap Y_kind r_1.1).bind fun r_17 => if (b2i r_17) = 0 then (if r_2.1 = (-1) then (some ((-1), r_2.2.1, r_2.2.2)) else ((f_X0_fits N C_row C_length C_place R_inches R_laid R_slates R_lap Y_kind r_2.1).bind fun r_23 => if (b2i r_23) = 0 then (some ((-1), r_2.2.1, r_2.2.2)) else ((f_X0_giveBack N r_2.2.2 r_1.1).bind fun r_31 => some (r_2.1, r_2.2.1, r_31)))) else (if r_2.1 = (-1) then ((f_X0_giveBack N r_2.2.2 r_2.1).bind fun r_36 => some (r_1.1, r_2.2.1, r_36)) else ((f_X0_fits N C_row C_length C_place R_inches R_laid R_slates R_lap Y_kind r_2.1).bind fun r_37 => if (b2i r_37) = 0 then ((f_X0_giveBack N r_2.2.2 r_2.1).bind fun r_42 => some (r_1.1, r_2.2.1, r_42)) else (ck (gi r_1.1 4) (ck (gi r_2.1 4) (if (R_inches r_1.1.toNatClampNeg) < (R_inches r_2.1.toNatClampNeg) then ((f_X0_giveBack N r_2.2.2 r_1.1).bind fun r_48 => some (r_2.1, r_2.2.1, r_48)) else ((f_X0_giveBack N r_2.2.2 r_2.1).bind fun r_50 => some (r_1.1, r_2.2.1, r_50))))))))
set_option maxHeartbeats 4000000 in
set_option maxRecDepth 100000 in
theorem k_X0_betterOfTwo (l : Launch) (dC : Nat → ClassId) (dI : Nat → Nat → Nat) (cI cZ cS : ClassId) (N : Nat) (aC aR aR_inches aR_many aR_worth aR_lengths aR_laid aR_slates aY : Nat) (sz : Nat) (C_row : Int32) (C_seed : Int32) (C_length : Int32) (C_place : Int32) (C_slates : Int32) (C_asides : Int32) (R_inches : Nat → Int32) (R_many : Nat → Int32) (R_worth : Nat → Int32) (R_lengths : Nat → Int32) (R_laid : Nat → Int32) (R_slates : Nat → Int32) (R_widths : Int32) (R_rows : Int32) (R_lap : Int32) (Y_kind : Int32) (Y_figure : Int32) (res : Int32 × Int32 × (Nat → Int32)) (h : f_X0_betterOfTwo N C_row C_seed C_length C_place R_inches R_many R_laid R_slates R_widths R_lap Y_kind = some res) : Met l yX0_betterOfTwo wsX0_betterOfTwo ({ frames := 3, cells := 0, slots := 0, locals := 68 }) (va_Pc [.ref aC] (preW (dC, dI) cI cZ cS [(aC, .inr (0, [.ref aR, .int C_row, .ref aY, .int C_seed, .int C_length, .int C_place, .int C_slates, .int C_asides])), (aR, .inr (3, [.ref aR_inches, .ref aR_many, .ref aR_worth, .ref aR_lengths, .ref aR_laid, .ref aR_slates, .int R_widths, .int R_rows, .int R_lap])), (aR_inches, .inl (cI, 4, .inl R_inches)), (aR_many, .inl (cI, 4, .inl R_many)), (aR_worth, .inl (cI, 4, .inl R_worth)), (aR_lengths, .inl (cI, 6, .inl R_lengths)), (aR_laid, .inl (cI, 6, .inl R_laid)), (aR_slates, .inl (cI, 72, .inl R_slates)), (aY, .inr (1, [.int Y_kind, .int Y_figure]))] sz)) (va_Qi (fun (r : Int32) (_ : Unit) => r = res.1) (fun _ => qW (dC, dI) cI cZ cS (va_A [(aC, .inr (0, [.ref aR, .int C_row, .ref aY, .int C_seed, .int C_length, .int C_place, .int C_slates, .int C_asides])), (aR, .inr (3, [.ref aR_inches, .ref aR_many, .ref aR_worth, .ref aR_lengths, .ref aR_laid, .ref aR_slates, .int R_widths, .int R_rows, .int R_lap])), (aR_inches, .inl (cI, 4, .inl R_inches)), (aR_many, .inl (cI, 4, .inl R_many)), (aR_worth, .inl (cI, 4, .inl R_worth)), (aR_lengths, .inl (cI, 6, .inl R_lengths)), (aR_laid, .inl (cI, 6, .inl R_laid)), (aR_slates, .inl (cI, 72, .inl R_slates)), (aY, .inr (1, [.int Y_kind, .int Y_figure]))] sz) [(aC, .inr (0, [.ref aR, .int C_row, .ref aY, .int res.2.1, .int C_length, .int C_place, .int C_slates, .int C_asides])), (aR, .inr (3, [.ref aR_inches, .ref aR_many, .ref aR_worth, .ref aR_lengths, .ref aR_laid, .ref aR_slates, .int R_widths, .int R_rows, .int R_lap])), (aR_inches, .inl (cI, 4, .inl R_inches)), (aR_many, .inl (cI, 4, .inl res.2.2)), (aR_worth, .inl (cI, 4, .inl R_worth)), (aR_lengths, .inl (cI, 6, .inl R_lengths)), (aR_laid, .inl (cI, 6, .inl R_laid)), (aR_slates, .inl (cI, 72, .inl R_slates)), (aY, .inr (1, [.int Y_kind, .int Y_figure]))]) (va_A [(aC, .inr (0, [.ref aR, .int C_row, .ref aY, .int C_seed, .int C_length, .int C_place, .int C_slates, .int C_asides])), (aR, .inr (3, [.ref aR_inches, .ref aR_many, .ref aR_worth, .ref aR_lengths, .ref aR_laid, .ref aR_slates, .int R_widths, .int R_rows, .int R_lap])), (aR_inches, .inl (cI, 4, .inl R_inches)), (aR_many, .inl (cI, 4, .inl R_many)), (aR_worth, .inl (cI, 4, .inl R_worth)), (aR_lengths, .inl (cI, 6, .inl R_lengths)), (aR_laid, .inl (cI, 6, .inl R_laid)), (aR_slates, .inl (cI, 72, .inl R_slates)), (aY, .inr (1, [.int Y_kind, .int Y_figure]))] sz)) 0 0 (va_A [(aC, .inr (0, [.ref aR, .int C_row, .ref aY, .int C_seed, .int C_length, .int C_place, .int C_slates, .int C_asides])), (aR, .inr (3, [.ref aR_inches, .ref aR_many, .ref aR_worth, .ref aR_lengths, .ref aR_laid, .ref aR_slates, .int R_widths, .int R_rows, .int R_lap])), (aR_inches, .inl (cI, 4, .inl R_inches)), (aR_many, .inl (cI, 4, .inl R_many)), (aR_worth, .inl (cI, 4, .inl R_worth)), (aR_lengths, .inl (cI, 6, .inl R_lengths)), (aR_laid, .inl (cI, 6, .inl R_laid)), (aR_slates, .inl (cI, 72, .inl R_slates)), (aY, .inr (1, [.int Y_kind, .int Y_figure]))] sz) := by
  refine Met.ofW (cc := cX0_betterOfTwo) (maxL := 5) (ret := (some .int)) (by decide) rfl ?_
  intro p e s m args below meth c s₁ B hml hv
  obtain ⟨rfl, hsz, hP, hK, hD0⟩ := hv
  have hx := B.exec
  have hb := B.bytes
  have hr := B.returns
  have hts := atoms_spec (ws := wsX0_betterOfTwo) B.pre
  have hown : s.vm.findClass RX0 = some m.cls := findClass_of_methodNamed B.named
  have hlocks := B.notSynchronized
  subst hsz
  have hD := hD0.self (sz := s.heap.size)
  generalize hAe : va_A [(aC, .inr (0, [.ref aR, .int C_row, .ref aY, .int C_seed, .int C_length, .int C_place, .int C_slates, .int C_asides])), (aR, .inr (3, [.ref aR_inches, .ref aR_many, .ref aR_worth, .ref aR_lengths, .ref aR_laid, .ref aR_slates, .int R_widths, .int R_rows, .int R_lap])), (aR_inches, .inl (cI, 4, .inl R_inches)), (aR_many, .inl (cI, 4, .inl R_many)), (aR_worth, .inl (cI, 4, .inl R_worth)), (aR_lengths, .inl (cI, 6, .inl R_lengths)), (aR_laid, .inl (cI, 6, .inl R_laid)), (aR_slates, .inl (cI, 72, .inl R_slates)), (aY, .inr (1, [.int Y_kind, .int Y_figure]))] s.heap.size = A at hD ⊢
  have hA : ∀ q : Nat, s.heap.size ≤ q → A q := fun q h => by rw [← hAe]; exact Or.inr h
  have hS : va_S A s.heap s.heap [] := va_S.rf
  have hl := lv_entry ([.ref aC]) (n := 5) (Nat.le_of_ble_eq_true rfl)
  rw [lg_entry_eq]
  generalize (lg_sl ([.ref aC]) ++ List.replicate (5 - (lg_sl ([.ref aC])).length) Slot.unset).toArray = ls at hl ⊢
  have hl : lv_has ls 5 [(0, .ref aC)] := hl
  unfold f_X0_betterOfTwo at h
  refine lv_aload_n hx hb dX0_betterOfTwo_0 rfl (lv_at hl 0 rfl) ?_
  obtain ⟨r_1, hg, h⟩ := bd_some h
  refine mtVi (As := []) (rest := []) (ci := 0) (wr := []) (w2 := [(aC, .inr (0, [.ref aR, .int C_row, .ref aY, .int r_1.2.1, .int C_length, .int C_place, .int C_slates, .int C_asides])), (aR, .inr (3, [.ref aR_inches, .ref aR_many, .ref aR_worth, .ref aR_lengths, .ref aR_laid, .ref aR_slates, .int R_widths, .int R_rows, .int R_lap])), (aR_inches, .inl (cI, 4, .inl R_inches)), (aR_many, .inl (cI, 4, .inl r_1.2.2)), (aR_worth, .inl (cI, 4, .inl R_worth)), (aR_lengths, .inl (cI, 6, .inl R_lengths)), (aR_laid, .inl (cI, 6, .inl R_laid)), (aR_slates, .inl (cI, 72, .inl R_slates)), (aY, .inr (1, [.int Y_kind, .int Y_figure]))]) ⟨hx, hb, hml, hown, hts⟩ (k_X0_drawn l dC dI cI cZ cS N aC aR aR_inches aR_many aR_worth aR_lengths aR_laid aR_slates aY _ C_row C_seed C_length C_place C_slates C_asides R_inches R_many R_worth R_lengths R_laid R_slates R_widths R_rows R_lap Y_kind Y_figure r_1 hg) (cwV 0 hts gX0_betterOfTwo_X0_drawn rfl rfl rfl cd_X0_drawn ⟨Nat.le_of_ble_eq_true rfl, Nat.le_of_ble_eq_true rfl⟩) hP hD hK hS hA [0, 1, 2, 3, 4, 5, 6, 7, 8] [] [0, 1, 2, 3, 4, 5, 6, 7, 8] (by decide) (by decide) (by decide) (by decide) rfl rfl rfl rfl rfl rfl hl.1 rfl (Nat.le_of_ble_eq_true rfl) dX0_betterOfTwo_1 ⟨Nat.zero_le _, Nat.zero_le _⟩ (fun H locs hP hD hS => ?_)
  refine lv_istore_n (lv' := [(1, .int r_1.1), (0, .ref aC)]) hx hb dX0_betterOfTwo_4 rfl hl (by decide) rfl (fun ls hl => ?_)
  refine lv_aload_n hx hb dX0_betterOfTwo_5 rfl (lv_at hl 1 rfl) ?_
  obtain ⟨r_2, hg, h⟩ := bd_some h
  refine mtVi (As := []) (rest := []) (ci := 0) (wr := []) (w2 := [(aC, .inr (0, [.ref aR, .int C_row, .ref aY, .int r_2.2.1, .int C_length, .int C_place, .int C_slates, .int C_asides])), (aR, .inr (3, [.ref aR_inches, .ref aR_many, .ref aR_worth, .ref aR_lengths, .ref aR_laid, .ref aR_slates, .int R_widths, .int R_rows, .int R_lap])), (aR_inches, .inl (cI, 4, .inl R_inches)), (aR_many, .inl (cI, 4, .inl r_2.2.2)), (aR_worth, .inl (cI, 4, .inl R_worth)), (aR_lengths, .inl (cI, 6, .inl R_lengths)), (aR_laid, .inl (cI, 6, .inl R_laid)), (aR_slates, .inl (cI, 72, .inl R_slates)), (aY, .inr (1, [.int Y_kind, .int Y_figure]))]) ⟨hx, hb, hml, hown, hts⟩ (k_X0_drawn l dC dI cI cZ cS N aC aR aR_inches aR_many aR_worth aR_lengths aR_laid aR_slates aY _ C_row r_1.2.1 C_length C_place C_slates C_asides R_inches r_1.2.2 R_worth R_lengths R_laid R_slates R_widths R_rows R_lap Y_kind Y_figure r_2 hg) (cwV 0 hts gX0_betterOfTwo_X0_drawn rfl rfl rfl cd_X0_drawn ⟨Nat.le_of_ble_eq_true rfl, Nat.le_of_ble_eq_true rfl⟩) hP hD hK hS hA [0, 1, 2, 3, 4, 5, 6, 7, 8] [] [0, 1, 2, 3, 4, 5, 6, 7, 8] (by decide) (by decide) (by decide) (by decide) rfl rfl rfl rfl rfl rfl hl.1 rfl (Nat.le_of_ble_eq_true rfl) dX0_betterOfTwo_6 ⟨Nat.zero_le _, Nat.zero_le _⟩ (fun H locs hP hD hS => ?_)
  refine lv_istore_n (lv' := [(2, .int r_2.1), (1, .int r_1.1), (0, .ref aC)]) hx hb dX0_betterOfTwo_9 rfl hl (by decide) rfl (fun ls hl => ?_)
  refine lv_iload_n hx hb dX0_betterOfTwo_10 rfl (lv_at hl 1 rfl) ?_
  refine lv_iconst (v := (-1)) hx hb dX0_betterOfTwo_11 (by decide) ?_
  refine lv_icmp_eq (tgt := 27) hx hb dX0_betterOfTwo_12 (by decide) (fun c_3 => ?_) (fun c_3 => ?_)
  · have h := it_p c_3 h
    refine lv_iconst (v := 0) hx hb dX0_betterOfTwo_27 (by decide) ?_
    refine lv_istore_n (lv' := [(3, .int 0), (2, .int r_2.1), (1, .int r_1.1), (0, .ref aC)]) hx hb dX0_betterOfTwo_28 rfl hl (by decide) rfl (fun ls hl => ?_)
    refine lv_iload_n hx hb dX0_betterOfTwo_29 rfl (lv_at hl 1 rfl) ?_
    refine lv_iconst (v := (-1)) hx hb dX0_betterOfTwo_30 (by decide) ?_
    refine lv_icmp_eq (tgt := 46) hx hb dX0_betterOfTwo_31 (by decide) (fun c_4 => ?_) (fun c_4 => ?_)
    · have h := it_p c_4 h
      refine lv_iconst (v := 0) hx hb dX0_betterOfTwo_46 (by decide) ?_
      refine lv_istore (lv' := [(4, .int 0), (3, .int 0), (2, .int r_2.1), (1, .int r_1.1), (0, .ref aC)]) hx hb dX0_betterOfTwo_47 hl (by decide) rfl (fun ls hl => ?_)
      refine lv_iload_n hx hb dX0_betterOfTwo_49 rfl (lv_at hl 1 rfl) ?_
      refine lv_if_eq (tgt := 85) hx hb dX0_betterOfTwo_50 (by decide) (fun c_5 => ?_) (fun c_5 => ?_)
      · skip
        refine lv_iload_n hx hb dX0_betterOfTwo_85 rfl (lv_at hl 1 rfl) ?_
        refine lv_if_eq (tgt := 96) hx hb dX0_betterOfTwo_86 (by decide) (fun c_6 => ?_) (fun c_6 => ?_)
        · skip
          refine lv_iload hx hb dX0_betterOfTwo_96 (lv_at hl 0 rfl) ?_
          refine lv_if_eq (tgt := 108) hx hb dX0_betterOfTwo_98 (by decide) (fun c_7 => ?_) (fun c_7 => ?_)
          · skip
            refine lv_iconst (v := (-1)) hx hb dX0_betterOfTwo_108 (by decide) ?_
            have h := Option.some.inj h
            exact W.iret hx hb hr (fun t ht hW => ⟨⟨_, (), rfl, by rw [← h], by (try rw [← h]); rw [ht]; exact hP, va_K.moved hW.alike hK, by (try rw [← h]); exact hD⟩, hS.F ht⟩) hS.2.2 dX0_betterOfTwo_109
          · exact absurd (by decide) c_7
        · exact absurd (by decide) c_6
      · exact absurd (by decide) c_5
    · have h := it_n c_4 h
      refine lv_aload_n hx hb dX0_betterOfTwo_34 rfl (lv_at hl 3 rfl) ?_
      refine lv_iload_n hx hb dX0_betterOfTwo_35 rfl (lv_at hl 1 rfl) ?_
      obtain ⟨r_8, hg, h⟩ := bd_some h
      refine rdV (As := [.int r_2.1]) (rest := []) (ci := 0) ⟨hx, hb, hml, hown, hts⟩ (k_X0_fits l dC dI cI cZ cS N aC aR aR_inches aR_many aR_worth aR_lengths aR_laid aR_slates aY C_row r_2.2.1 C_length C_place C_slates C_asides R_inches r_2.2.2 R_worth R_lengths R_laid R_slates R_widths R_rows R_lap Y_kind Y_figure r_2.1 r_8 hg) (cwV 1 hts gX0_betterOfTwo_X0_fits rfl rfl rfl cd_X0_fits ⟨Nat.le_of_ble_eq_true rfl, Nat.le_of_ble_eq_true rfl⟩) hP hD hK [0, 1, 2, 3, 4, 5, 6, 7, 8] (by decide) rfl rfl rfl rfl hl.1 rfl (Nat.le_of_ble_eq_true rfl) dX0_betterOfTwo_36 ⟨Nat.zero_le _, Nat.zero_le _⟩ ?_
      refine lv_if_eq (tgt := 46) hx hb dX0_betterOfTwo_39 (by decide) (fun c_9 => ?_) (fun c_9 => ?_)
      · have h := it_p c_9 h
        refine lv_iconst (v := 0) hx hb dX0_betterOfTwo_46 (by decide) ?_
        refine lv_istore (lv' := [(4, .int 0), (3, .int 0), (2, .int r_2.1), (1, .int r_1.1), (0, .ref aC)]) hx hb dX0_betterOfTwo_47 hl (by decide) rfl (fun ls hl => ?_)
        refine lv_iload_n hx hb dX0_betterOfTwo_49 rfl (lv_at hl 1 rfl) ?_
        refine lv_if_eq (tgt := 85) hx hb dX0_betterOfTwo_50 (by decide) (fun c_10 => ?_) (fun c_10 => ?_)
        · skip
          refine lv_iload_n hx hb dX0_betterOfTwo_85 rfl (lv_at hl 1 rfl) ?_
          refine lv_if_eq (tgt := 96) hx hb dX0_betterOfTwo_86 (by decide) (fun c_11 => ?_) (fun c_11 => ?_)
          · skip
            refine lv_iload hx hb dX0_betterOfTwo_96 (lv_at hl 0 rfl) ?_
            refine lv_if_eq (tgt := 108) hx hb dX0_betterOfTwo_98 (by decide) (fun c_12 => ?_) (fun c_12 => ?_)
            · skip
              refine lv_iconst (v := (-1)) hx hb dX0_betterOfTwo_108 (by decide) ?_
              have h := Option.some.inj h
              exact W.iret hx hb hr (fun t ht hW => ⟨⟨_, (), rfl, by rw [← h], by (try rw [← h]); rw [ht]; exact hP, va_K.moved hW.alike hK, by (try rw [← h]); exact hD⟩, hS.F ht⟩) hS.2.2 dX0_betterOfTwo_109
            · exact absurd (by decide) c_12
          · exact absurd (by decide) c_11
        · exact absurd (by decide) c_10
      · have h := it_n c_9 h
        refine lv_iconst (v := 1) hx hb dX0_betterOfTwo_42 (by decide) ?_
        refine lv_goto (tgt := 47) hx hb dX0_betterOfTwo_43 (by decide) ?_
        refine lv_istore (lv' := [(4, .int 1), (3, .int 0), (2, .int r_2.1), (1, .int r_1.1), (0, .ref aC)]) hx hb dX0_betterOfTwo_47 hl (by decide) rfl (fun ls hl => ?_)
        refine lv_iload_n hx hb dX0_betterOfTwo_49 rfl (lv_at hl 1 rfl) ?_
        refine lv_if_eq (tgt := 85) hx hb dX0_betterOfTwo_50 (by decide) (fun c_13 => ?_) (fun c_13 => ?_)
        · skip
          refine lv_iload_n hx hb dX0_betterOfTwo_85 rfl (lv_at hl 1 rfl) ?_
          refine lv_if_eq (tgt := 96) hx hb dX0_betterOfTwo_86 (by decide) (fun c_14 => ?_) (fun c_14 => ?_)
          · skip
            refine lv_iload hx hb dX0_betterOfTwo_96 (lv_at hl 0 rfl) ?_
            refine lv_if_eq (tgt := 108) hx hb dX0_betterOfTwo_98 (by decide) (fun c_15 => ?_) (fun c_15 => ?_)
            · exact absurd c_15 (by decide)
            · skip
              refine lv_aload_n hx hb dX0_betterOfTwo_101 rfl (lv_at hl 4 rfl) ?_
              refine lv_iload_n hx hb dX0_betterOfTwo_102 rfl (lv_at hl 3 rfl) ?_
              obtain ⟨r_16, hg, h⟩ := bd_some h
              refine mtVv (As := [.int r_1.1]) (rest := []) (ci := 0) (wr := []) (w2 := [(aC, .inr (0, [.ref aR, .int C_row, .ref aY, .int r_2.2.1, .int C_length, .int C_place, .int C_slates, .int C_asides])), (aR, .inr (3, [.ref aR_inches, .ref aR_many, .ref aR_worth, .ref aR_lengths, .ref aR_laid, .ref aR_slates, .int R_widths, .int R_rows, .int R_lap])), (aR_inches, .inl (cI, 4, .inl R_inches)), (aR_many, .inl (cI, 4, .inl r_16)), (aR_worth, .inl (cI, 4, .inl R_worth)), (aR_lengths, .inl (cI, 6, .inl R_lengths)), (aR_laid, .inl (cI, 6, .inl R_laid)), (aR_slates, .inl (cI, 72, .inl R_slates)), (aY, .inr (1, [.int Y_kind, .int Y_figure]))]) ⟨hx, hb, hml, hown, hts⟩ (k_X0_giveBack l dC dI cI cZ cS N aC aR aR_inches aR_many aR_worth aR_lengths aR_laid aR_slates aY _ C_row r_2.2.1 C_length C_place C_slates C_asides R_inches r_2.2.2 R_worth R_lengths R_laid R_slates R_widths R_rows R_lap Y_kind Y_figure r_1.1 r_16 hg) (cwV 1 hts gX0_betterOfTwo_X0_giveBack rfl rfl rfl cd_X0_giveBack ⟨Nat.le_of_ble_eq_true rfl, Nat.le_of_ble_eq_true rfl⟩) hP hD hK hS hA [0, 1, 2, 3, 4, 5, 6, 7, 8] [] [0, 1, 2, 3, 4, 5, 6, 7, 8] (by decide) (by decide) (by decide) (by decide) rfl rfl rfl rfl rfl rfl hl.1 rfl (Nat.le_of_ble_eq_true rfl) dX0_betterOfTwo_103 ⟨Nat.zero_le _, Nat.zero_le _⟩ (fun H locs hP hD hS => ?_)
              refine lv_iload_n hx hb dX0_betterOfTwo_106 rfl (lv_at hl 2 rfl) ?_
              have h := Option.some.inj h
              exact W.iret hx hb hr (fun t ht hW => ⟨⟨_, (), rfl, by rw [← h], by (try rw [← h]); rw [ht]; exact hP, va_K.moved hW.alike hK, by (try rw [← h]); exact hD⟩, hS.F ht⟩) hS.2.2 dX0_betterOfTwo_107
          · exact absurd (by decide) c_14
        · exact absurd (by decide) c_13
  · have h := it_n c_3 h
    refine lv_aload_n hx hb dX0_betterOfTwo_15 rfl (lv_at hl 2 rfl) ?_
    refine lv_iload_n hx hb dX0_betterOfTwo_16 rfl (lv_at hl 1 rfl) ?_
    obtain ⟨r_17, hg, h⟩ := bd_some h
    refine rdV (As := [.int r_1.1]) (rest := []) (ci := 0) ⟨hx, hb, hml, hown, hts⟩ (k_X0_fits l dC dI cI cZ cS N aC aR aR_inches aR_many aR_worth aR_lengths aR_laid aR_slates aY C_row r_2.2.1 C_length C_place C_slates C_asides R_inches r_2.2.2 R_worth R_lengths R_laid R_slates R_widths R_rows R_lap Y_kind Y_figure r_1.1 r_17 hg) (cwV 1 hts gX0_betterOfTwo_X0_fits rfl rfl rfl cd_X0_fits ⟨Nat.le_of_ble_eq_true rfl, Nat.le_of_ble_eq_true rfl⟩) hP hD hK [0, 1, 2, 3, 4, 5, 6, 7, 8] (by decide) rfl rfl rfl rfl hl.1 rfl (Nat.le_of_ble_eq_true rfl) dX0_betterOfTwo_17 ⟨Nat.zero_le _, Nat.zero_le _⟩ ?_
    refine lv_if_eq (tgt := 27) hx hb dX0_betterOfTwo_20 (by decide) (fun c_18 => ?_) (fun c_18 => ?_)
    · have h := it_p c_18 h
      refine lv_iconst (v := 0) hx hb dX0_betterOfTwo_27 (by decide) ?_
      refine lv_istore_n (lv' := [(3, .int 0), (2, .int r_2.1), (1, .int r_1.1), (0, .ref aC)]) hx hb dX0_betterOfTwo_28 rfl hl (by decide) rfl (fun ls hl => ?_)
      refine lv_iload_n hx hb dX0_betterOfTwo_29 rfl (lv_at hl 1 rfl) ?_
      refine lv_iconst (v := (-1)) hx hb dX0_betterOfTwo_30 (by decide) ?_
      refine lv_icmp_eq (tgt := 46) hx hb dX0_betterOfTwo_31 (by decide) (fun c_19 => ?_) (fun c_19 => ?_)
      · have h := it_p c_19 h
        refine lv_iconst (v := 0) hx hb dX0_betterOfTwo_46 (by decide) ?_
        refine lv_istore (lv' := [(4, .int 0), (3, .int 0), (2, .int r_2.1), (1, .int r_1.1), (0, .ref aC)]) hx hb dX0_betterOfTwo_47 hl (by decide) rfl (fun ls hl => ?_)
        refine lv_iload_n hx hb dX0_betterOfTwo_49 rfl (lv_at hl 1 rfl) ?_
        refine lv_if_eq (tgt := 85) hx hb dX0_betterOfTwo_50 (by decide) (fun c_20 => ?_) (fun c_20 => ?_)
        · skip
          refine lv_iload_n hx hb dX0_betterOfTwo_85 rfl (lv_at hl 1 rfl) ?_
          refine lv_if_eq (tgt := 96) hx hb dX0_betterOfTwo_86 (by decide) (fun c_21 => ?_) (fun c_21 => ?_)
          · skip
            refine lv_iload hx hb dX0_betterOfTwo_96 (lv_at hl 0 rfl) ?_
            refine lv_if_eq (tgt := 108) hx hb dX0_betterOfTwo_98 (by decide) (fun c_22 => ?_) (fun c_22 => ?_)
            · skip
              refine lv_iconst (v := (-1)) hx hb dX0_betterOfTwo_108 (by decide) ?_
              have h := Option.some.inj h
              exact W.iret hx hb hr (fun t ht hW => ⟨⟨_, (), rfl, by rw [← h], by (try rw [← h]); rw [ht]; exact hP, va_K.moved hW.alike hK, by (try rw [← h]); exact hD⟩, hS.F ht⟩) hS.2.2 dX0_betterOfTwo_109
            · exact absurd (by decide) c_22
          · exact absurd (by decide) c_21
        · exact absurd (by decide) c_20
      · have h := it_n c_19 h
        refine lv_aload_n hx hb dX0_betterOfTwo_34 rfl (lv_at hl 3 rfl) ?_
        refine lv_iload_n hx hb dX0_betterOfTwo_35 rfl (lv_at hl 1 rfl) ?_
        obtain ⟨r_23, hg, h⟩ := bd_some h
        refine rdV (As := [.int r_2.1]) (rest := []) (ci := 0) ⟨hx, hb, hml, hown, hts⟩ (k_X0_fits l dC dI cI cZ cS N aC aR aR_inches aR_many aR_worth aR_lengths aR_laid aR_slates aY C_row r_2.2.1 C_length C_place C_slates C_asides R_inches r_2.2.2 R_worth R_lengths R_laid R_slates R_widths R_rows R_lap Y_kind Y_figure r_2.1 r_23 hg) (cwV 1 hts gX0_betterOfTwo_X0_fits rfl rfl rfl cd_X0_fits ⟨Nat.le_of_ble_eq_true rfl, Nat.le_of_ble_eq_true rfl⟩) hP hD hK [0, 1, 2, 3, 4, 5, 6, 7, 8] (by decide) rfl rfl rfl rfl hl.1 rfl (Nat.le_of_ble_eq_true rfl) dX0_betterOfTwo_36 ⟨Nat.zero_le _, Nat.zero_le _⟩ ?_
        refine lv_if_eq (tgt := 46) hx hb dX0_betterOfTwo_39 (by decide) (fun c_24 => ?_) (fun c_24 => ?_)
        · have h := it_p c_24 h
          refine lv_iconst (v := 0) hx hb dX0_betterOfTwo_46 (by decide) ?_
          refine lv_istore (lv' := [(4, .int 0), (3, .int 0), (2, .int r_2.1), (1, .int r_1.1), (0, .ref aC)]) hx hb dX0_betterOfTwo_47 hl (by decide) rfl (fun ls hl => ?_)
          refine lv_iload_n hx hb dX0_betterOfTwo_49 rfl (lv_at hl 1 rfl) ?_
          refine lv_if_eq (tgt := 85) hx hb dX0_betterOfTwo_50 (by decide) (fun c_25 => ?_) (fun c_25 => ?_)
          · skip
            refine lv_iload_n hx hb dX0_betterOfTwo_85 rfl (lv_at hl 1 rfl) ?_
            refine lv_if_eq (tgt := 96) hx hb dX0_betterOfTwo_86 (by decide) (fun c_26 => ?_) (fun c_26 => ?_)
            · skip
              refine lv_iload hx hb dX0_betterOfTwo_96 (lv_at hl 0 rfl) ?_
              refine lv_if_eq (tgt := 108) hx hb dX0_betterOfTwo_98 (by decide) (fun c_27 => ?_) (fun c_27 => ?_)
              · skip
                refine lv_iconst (v := (-1)) hx hb dX0_betterOfTwo_108 (by decide) ?_
                have h := Option.some.inj h
                exact W.iret hx hb hr (fun t ht hW => ⟨⟨_, (), rfl, by rw [← h], by (try rw [← h]); rw [ht]; exact hP, va_K.moved hW.alike hK, by (try rw [← h]); exact hD⟩, hS.F ht⟩) hS.2.2 dX0_betterOfTwo_109
              · exact absurd (by decide) c_27
            · exact absurd (by decide) c_26
          · exact absurd (by decide) c_25
        · have h := it_n c_24 h
          refine lv_iconst (v := 1) hx hb dX0_betterOfTwo_42 (by decide) ?_
          refine lv_goto (tgt := 47) hx hb dX0_betterOfTwo_43 (by decide) ?_
          refine lv_istore (lv' := [(4, .int 1), (3, .int 0), (2, .int r_2.1), (1, .int r_1.1), (0, .ref aC)]) hx hb dX0_betterOfTwo_47 hl (by decide) rfl (fun ls hl => ?_)
          refine lv_iload_n hx hb dX0_betterOfTwo_49 rfl (lv_at hl 1 rfl) ?_
          refine lv_if_eq (tgt := 85) hx hb dX0_betterOfTwo_50 (by decide) (fun c_28 => ?_) (fun c_28 => ?_)
          · skip
            refine lv_iload_n hx hb dX0_betterOfTwo_85 rfl (lv_at hl 1 rfl) ?_
            refine lv_if_eq (tgt := 96) hx hb dX0_betterOfTwo_86 (by decide) (fun c_29 => ?_) (fun c_29 => ?_)
            · skip
              refine lv_iload hx hb dX0_betterOfTwo_96 (lv_at hl 0 rfl) ?_
              refine lv_if_eq (tgt := 108) hx hb dX0_betterOfTwo_98 (by decide) (fun c_30 => ?_) (fun c_30 => ?_)
              · exact absurd c_30 (by decide)
              · skip
                refine lv_aload_n hx hb dX0_betterOfTwo_101 rfl (lv_at hl 4 rfl) ?_
                refine lv_iload_n hx hb dX0_betterOfTwo_102 rfl (lv_at hl 3 rfl) ?_
                obtain ⟨r_31, hg, h⟩ := bd_some h
                refine mtVv (As := [.int r_1.1]) (rest := []) (ci := 0) (wr := []) (w2 := [(aC, .inr (0, [.ref aR, .int C_row, .ref aY, .int r_2.2.1, .int C_length, .int C_place, .int C_slates, .int C_asides])), (aR, .inr (3, [.ref aR_inches, .ref aR_many, .ref aR_worth, .ref aR_lengths, .ref aR_laid, .ref aR_slates, .int R_widths, .int R_rows, .int R_lap])), (aR_inches, .inl (cI, 4, .inl R_inches)), (aR_many, .inl (cI, 4, .inl r_31)), (aR_worth, .inl (cI, 4, .inl R_worth)), (aR_lengths, .inl (cI, 6, .inl R_lengths)), (aR_laid, .inl (cI, 6, .inl R_laid)), (aR_slates, .inl (cI, 72, .inl R_slates)), (aY, .inr (1, [.int Y_kind, .int Y_figure]))]) ⟨hx, hb, hml, hown, hts⟩ (k_X0_giveBack l dC dI cI cZ cS N aC aR aR_inches aR_many aR_worth aR_lengths aR_laid aR_slates aY _ C_row r_2.2.1 C_length C_place C_slates C_asides R_inches r_2.2.2 R_worth R_lengths R_laid R_slates R_widths R_rows R_lap Y_kind Y_figure r_1.1 r_31 hg) (cwV 1 hts gX0_betterOfTwo_X0_giveBack rfl rfl rfl cd_X0_giveBack ⟨Nat.le_of_ble_eq_true rfl, Nat.le_of_ble_eq_true rfl⟩) hP hD hK hS hA [0, 1, 2, 3, 4, 5, 6, 7, 8] [] [0, 1, 2, 3, 4, 5, 6, 7, 8] (by decide) (by decide) (by decide) (by decide) rfl rfl rfl rfl rfl rfl hl.1 rfl (Nat.le_of_ble_eq_true rfl) dX0_betterOfTwo_103 ⟨Nat.zero_le _, Nat.zero_le _⟩ (fun H locs hP hD hS => ?_)
                refine lv_iload_n hx hb dX0_betterOfTwo_106 rfl (lv_at hl 2 rfl) ?_
                have h := Option.some.inj h
                exact W.iret hx hb hr (fun t ht hW => ⟨⟨_, (), rfl, by rw [← h], by (try rw [← h]); rw [ht]; exact hP, va_K.moved hW.alike hK, by (try rw [← h]); exact hD⟩, hS.F ht⟩) hS.2.2 dX0_betterOfTwo_107
            · exact absurd (by decide) c_29
          · exact absurd (by decide) c_28
    · have h := it_n c_18 h
      refine lv_iconst (v := 1) hx hb dX0_betterOfTwo_23 (by decide) ?_
      refine lv_goto (tgt := 28) hx hb dX0_betterOfTwo_24 (by decide) ?_
      refine lv_istore_n (lv' := [(3, .int 1), (2, .int r_2.1), (1, .int r_1.1), (0, .ref aC)]) hx hb dX0_betterOfTwo_28 rfl hl (by decide) rfl (fun ls hl => ?_)
      refine lv_iload_n hx hb dX0_betterOfTwo_29 rfl (lv_at hl 1 rfl) ?_
      refine lv_iconst (v := (-1)) hx hb dX0_betterOfTwo_30 (by decide) ?_
      refine lv_icmp_eq (tgt := 46) hx hb dX0_betterOfTwo_31 (by decide) (fun c_32 => ?_) (fun c_32 => ?_)
      · have h := it_p c_32 h
        refine lv_iconst (v := 0) hx hb dX0_betterOfTwo_46 (by decide) ?_
        refine lv_istore (lv' := [(4, .int 0), (3, .int 1), (2, .int r_2.1), (1, .int r_1.1), (0, .ref aC)]) hx hb dX0_betterOfTwo_47 hl (by decide) rfl (fun ls hl => ?_)
        refine lv_iload_n hx hb dX0_betterOfTwo_49 rfl (lv_at hl 1 rfl) ?_
        refine lv_if_eq (tgt := 85) hx hb dX0_betterOfTwo_50 (by decide) (fun c_33 => ?_) (fun c_33 => ?_)
        · exact absurd c_33 (by decide)
        · skip
          refine lv_iload hx hb dX0_betterOfTwo_53 (lv_at hl 0 rfl) ?_
          refine lv_if_eq (tgt := 85) hx hb dX0_betterOfTwo_55 (by decide) (fun c_34 => ?_) (fun c_34 => ?_)
          · skip
            refine lv_iload_n hx hb dX0_betterOfTwo_85 rfl (lv_at hl 1 rfl) ?_
            refine lv_if_eq (tgt := 96) hx hb dX0_betterOfTwo_86 (by decide) (fun c_35 => ?_) (fun c_35 => ?_)
            · exact absurd c_35 (by decide)
            · skip
              refine lv_aload_n hx hb dX0_betterOfTwo_89 rfl (lv_at hl 4 rfl) ?_
              refine lv_iload_n hx hb dX0_betterOfTwo_90 rfl (lv_at hl 2 rfl) ?_
              obtain ⟨r_36, hg, h⟩ := bd_some h
              refine mtVv (As := [.int r_2.1]) (rest := []) (ci := 0) (wr := []) (w2 := [(aC, .inr (0, [.ref aR, .int C_row, .ref aY, .int r_2.2.1, .int C_length, .int C_place, .int C_slates, .int C_asides])), (aR, .inr (3, [.ref aR_inches, .ref aR_many, .ref aR_worth, .ref aR_lengths, .ref aR_laid, .ref aR_slates, .int R_widths, .int R_rows, .int R_lap])), (aR_inches, .inl (cI, 4, .inl R_inches)), (aR_many, .inl (cI, 4, .inl r_36)), (aR_worth, .inl (cI, 4, .inl R_worth)), (aR_lengths, .inl (cI, 6, .inl R_lengths)), (aR_laid, .inl (cI, 6, .inl R_laid)), (aR_slates, .inl (cI, 72, .inl R_slates)), (aY, .inr (1, [.int Y_kind, .int Y_figure]))]) ⟨hx, hb, hml, hown, hts⟩ (k_X0_giveBack l dC dI cI cZ cS N aC aR aR_inches aR_many aR_worth aR_lengths aR_laid aR_slates aY _ C_row r_2.2.1 C_length C_place C_slates C_asides R_inches r_2.2.2 R_worth R_lengths R_laid R_slates R_widths R_rows R_lap Y_kind Y_figure r_2.1 r_36 hg) (cwV 1 hts gX0_betterOfTwo_X0_giveBack rfl rfl rfl cd_X0_giveBack ⟨Nat.le_of_ble_eq_true rfl, Nat.le_of_ble_eq_true rfl⟩) hP hD hK hS hA [0, 1, 2, 3, 4, 5, 6, 7, 8] [] [0, 1, 2, 3, 4, 5, 6, 7, 8] (by decide) (by decide) (by decide) (by decide) rfl rfl rfl rfl rfl rfl hl.1 rfl (Nat.le_of_ble_eq_true rfl) dX0_betterOfTwo_91 ⟨Nat.zero_le _, Nat.zero_le _⟩ (fun H locs hP hD hS => ?_)
              refine lv_iload_n hx hb dX0_betterOfTwo_94 rfl (lv_at hl 3 rfl) ?_
              have h := Option.some.inj h
              exact W.iret hx hb hr (fun t ht hW => ⟨⟨_, (), rfl, by rw [← h], by (try rw [← h]); rw [ht]; exact hP, va_K.moved hW.alike hK, by (try rw [← h]); exact hD⟩, hS.F ht⟩) hS.2.2 dX0_betterOfTwo_95
          · exact absurd (by decide) c_34
      · have h := it_n c_32 h
        refine lv_aload_n hx hb dX0_betterOfTwo_34 rfl (lv_at hl 3 rfl) ?_
        refine lv_iload_n hx hb dX0_betterOfTwo_35 rfl (lv_at hl 1 rfl) ?_
        obtain ⟨r_37, hg, h⟩ := bd_some h
        refine rdV (As := [.int r_2.1]) (rest := []) (ci := 0) ⟨hx, hb, hml, hown, hts⟩ (k_X0_fits l dC dI cI cZ cS N aC aR aR_inches aR_many aR_worth aR_lengths aR_laid aR_slates aY C_row r_2.2.1 C_length C_place C_slates C_asides R_inches r_2.2.2 R_worth R_lengths R_laid R_slates R_widths R_rows R_lap Y_kind Y_figure r_2.1 r_37 hg) (cwV 1 hts gX0_betterOfTwo_X0_fits rfl rfl rfl cd_X0_fits ⟨Nat.le_of_ble_eq_true rfl, Nat.le_of_ble_eq_true rfl⟩) hP hD hK [0, 1, 2, 3, 4, 5, 6, 7, 8] (by decide) rfl rfl rfl rfl hl.1 rfl (Nat.le_of_ble_eq_true rfl) dX0_betterOfTwo_36 ⟨Nat.zero_le _, Nat.zero_le _⟩ ?_
        refine lv_if_eq (tgt := 46) hx hb dX0_betterOfTwo_39 (by decide) (fun c_38 => ?_) (fun c_38 => ?_)
        · have h := it_p c_38 h
          refine lv_iconst (v := 0) hx hb dX0_betterOfTwo_46 (by decide) ?_
          refine lv_istore (lv' := [(4, .int 0), (3, .int 1), (2, .int r_2.1), (1, .int r_1.1), (0, .ref aC)]) hx hb dX0_betterOfTwo_47 hl (by decide) rfl (fun ls hl => ?_)
          refine lv_iload_n hx hb dX0_betterOfTwo_49 rfl (lv_at hl 1 rfl) ?_
          refine lv_if_eq (tgt := 85) hx hb dX0_betterOfTwo_50 (by decide) (fun c_39 => ?_) (fun c_39 => ?_)
          · exact absurd c_39 (by decide)
          · skip
            refine lv_iload hx hb dX0_betterOfTwo_53 (lv_at hl 0 rfl) ?_
            refine lv_if_eq (tgt := 85) hx hb dX0_betterOfTwo_55 (by decide) (fun c_40 => ?_) (fun c_40 => ?_)
            · skip
              refine lv_iload_n hx hb dX0_betterOfTwo_85 rfl (lv_at hl 1 rfl) ?_
              refine lv_if_eq (tgt := 96) hx hb dX0_betterOfTwo_86 (by decide) (fun c_41 => ?_) (fun c_41 => ?_)
              · exact absurd c_41 (by decide)
              · skip
                refine lv_aload_n hx hb dX0_betterOfTwo_89 rfl (lv_at hl 4 rfl) ?_
                refine lv_iload_n hx hb dX0_betterOfTwo_90 rfl (lv_at hl 2 rfl) ?_
                obtain ⟨r_42, hg, h⟩ := bd_some h
                refine mtVv (As := [.int r_2.1]) (rest := []) (ci := 0) (wr := []) (w2 := [(aC, .inr (0, [.ref aR, .int C_row, .ref aY, .int r_2.2.1, .int C_length, .int C_place, .int C_slates, .int C_asides])), (aR, .inr (3, [.ref aR_inches, .ref aR_many, .ref aR_worth, .ref aR_lengths, .ref aR_laid, .ref aR_slates, .int R_widths, .int R_rows, .int R_lap])), (aR_inches, .inl (cI, 4, .inl R_inches)), (aR_many, .inl (cI, 4, .inl r_42)), (aR_worth, .inl (cI, 4, .inl R_worth)), (aR_lengths, .inl (cI, 6, .inl R_lengths)), (aR_laid, .inl (cI, 6, .inl R_laid)), (aR_slates, .inl (cI, 72, .inl R_slates)), (aY, .inr (1, [.int Y_kind, .int Y_figure]))]) ⟨hx, hb, hml, hown, hts⟩ (k_X0_giveBack l dC dI cI cZ cS N aC aR aR_inches aR_many aR_worth aR_lengths aR_laid aR_slates aY _ C_row r_2.2.1 C_length C_place C_slates C_asides R_inches r_2.2.2 R_worth R_lengths R_laid R_slates R_widths R_rows R_lap Y_kind Y_figure r_2.1 r_42 hg) (cwV 1 hts gX0_betterOfTwo_X0_giveBack rfl rfl rfl cd_X0_giveBack ⟨Nat.le_of_ble_eq_true rfl, Nat.le_of_ble_eq_true rfl⟩) hP hD hK hS hA [0, 1, 2, 3, 4, 5, 6, 7, 8] [] [0, 1, 2, 3, 4, 5, 6, 7, 8] (by decide) (by decide) (by decide) (by decide) rfl rfl rfl rfl rfl rfl hl.1 rfl (Nat.le_of_ble_eq_true rfl) dX0_betterOfTwo_91 ⟨Nat.zero_le _, Nat.zero_le _⟩ (fun H locs hP hD hS => ?_)
                refine lv_iload_n hx hb dX0_betterOfTwo_94 rfl (lv_at hl 3 rfl) ?_
                have h := Option.some.inj h
                exact W.iret hx hb hr (fun t ht hW => ⟨⟨_, (), rfl, by rw [← h], by (try rw [← h]); rw [ht]; exact hP, va_K.moved hW.alike hK, by (try rw [← h]); exact hD⟩, hS.F ht⟩) hS.2.2 dX0_betterOfTwo_95
            · exact absurd (by decide) c_40
        · have h := it_n c_38 h
          refine lv_iconst (v := 1) hx hb dX0_betterOfTwo_42 (by decide) ?_
          refine lv_goto (tgt := 47) hx hb dX0_betterOfTwo_43 (by decide) ?_
          refine lv_istore (lv' := [(4, .int 1), (3, .int 1), (2, .int r_2.1), (1, .int r_1.1), (0, .ref aC)]) hx hb dX0_betterOfTwo_47 hl (by decide) rfl (fun ls hl => ?_)
          refine lv_iload_n hx hb dX0_betterOfTwo_49 rfl (lv_at hl 1 rfl) ?_
          refine lv_if_eq (tgt := 85) hx hb dX0_betterOfTwo_50 (by decide) (fun c_43 => ?_) (fun c_43 => ?_)
          · exact absurd c_43 (by decide)
          · skip
            refine lv_iload hx hb dX0_betterOfTwo_53 (lv_at hl 0 rfl) ?_
            refine lv_if_eq (tgt := 85) hx hb dX0_betterOfTwo_55 (by decide) (fun c_44 => ?_) (fun c_44 => ?_)
            · exact absurd c_44 (by decide)
            · skip
              refine lv_aload_n hx hb dX0_betterOfTwo_58 rfl (lv_at hl 4 rfl) ?_
              refine va_get (D := (dC, dI)) (ci := 0) (v := .ref aR) (C := RX0) (T := TX0) (N := 8) hx hb hts (fun _ h => List.mem_cons_of_mem _ (List.mem_append_left _ (List.mem_append_left _ (List.mem_append_right _ h)))) hown hK hP 0 rfl rfl 0 (by decide) (hts (.fieldLink RX0 19 "SlateRows$Course" "roof" "LSlateRows$Roof;") (by decide +kernel)) (fun _ h9 => h9) rfl dX0_betterOfTwo_59 ?_
              refine va_get (D := (dC, dI)) (ci := 3) (v := .ref aR_inches) (C := RX3) (T := TX3) (N := 9) hx hb hts (fun _ h => List.mem_cons_of_mem _ (List.mem_append_left _ (List.mem_append_right _ h))) hown hK hP 1 rfl rfl 0 (by decide) (hts (.fieldLink RX0 64 "SlateRows$Roof" "inches" "[I") (by decide +kernel)) (fun _ h9 => h9) rfl dX0_betterOfTwo_62 ?_
              refine lv_iload_n hx hb dX0_betterOfTwo_65 rfl (lv_at hl 3 rfl) ?_
              obtain ⟨hi, h⟩ := ck_some h
              refine va_iald hx hb hK hP 2 0 rfl rfl (gi_in hi) dX0_betterOfTwo_66 ?_
              refine lv_aload_n hx hb dX0_betterOfTwo_67 rfl (lv_at hl 4 rfl) ?_
              refine va_get (D := (dC, dI)) (ci := 0) (v := .ref aR) (C := RX0) (T := TX0) (N := 8) hx hb hts (fun _ h => List.mem_cons_of_mem _ (List.mem_append_left _ (List.mem_append_left _ (List.mem_append_right _ h)))) hown hK hP 0 rfl rfl 0 (by decide) (hts (.fieldLink RX0 19 "SlateRows$Course" "roof" "LSlateRows$Roof;") (by decide +kernel)) (fun _ h9 => h9) rfl dX0_betterOfTwo_68 ?_
              refine va_get (D := (dC, dI)) (ci := 3) (v := .ref aR_inches) (C := RX3) (T := TX3) (N := 9) hx hb hts (fun _ h => List.mem_cons_of_mem _ (List.mem_append_left _ (List.mem_append_right _ h))) hown hK hP 1 rfl rfl 0 (by decide) (hts (.fieldLink RX0 64 "SlateRows$Roof" "inches" "[I") (by decide +kernel)) (fun _ h9 => h9) rfl dX0_betterOfTwo_71 ?_
              refine lv_iload_n hx hb dX0_betterOfTwo_74 rfl (lv_at hl 2 rfl) ?_
              obtain ⟨hi, h⟩ := ck_some h
              refine va_iald hx hb hK hP 2 0 rfl rfl (gi_in hi) dX0_betterOfTwo_75 ?_
              refine lv_icmp_lt (tgt := 83) hx hb dX0_betterOfTwo_76 (by decide) (fun c_45 => ?_) (fun c_45 => ?_)
              · have h := it_p c_45 h
                refine lv_iconst (v := 0) hx hb dX0_betterOfTwo_83 (by decide) ?_
                refine lv_istore_n (lv' := [(3, .int 0), (4, .int 1), (2, .int r_2.1), (1, .int r_1.1), (0, .ref aC)]) hx hb dX0_betterOfTwo_84 rfl hl (by decide) rfl (fun ls hl => ?_)
                refine lv_iload_n hx hb dX0_betterOfTwo_85 rfl (lv_at hl 0 rfl) ?_
                refine lv_if_eq (tgt := 96) hx hb dX0_betterOfTwo_86 (by decide) (fun c_46 => ?_) (fun c_46 => ?_)
                · skip
                  refine lv_iload hx hb dX0_betterOfTwo_96 (lv_at hl 1 rfl) ?_
                  refine lv_if_eq (tgt := 108) hx hb dX0_betterOfTwo_98 (by decide) (fun c_47 => ?_) (fun c_47 => ?_)
                  · exact absurd c_47 (by decide)
                  · skip
                    refine lv_aload_n hx hb dX0_betterOfTwo_101 rfl (lv_at hl 4 rfl) ?_
                    refine lv_iload_n hx hb dX0_betterOfTwo_102 rfl (lv_at hl 3 rfl) ?_
                    obtain ⟨r_48, hg, h⟩ := bd_some h
                    refine mtVv (As := [.int r_1.1]) (rest := []) (ci := 0) (wr := []) (w2 := [(aC, .inr (0, [.ref aR, .int C_row, .ref aY, .int r_2.2.1, .int C_length, .int C_place, .int C_slates, .int C_asides])), (aR, .inr (3, [.ref aR_inches, .ref aR_many, .ref aR_worth, .ref aR_lengths, .ref aR_laid, .ref aR_slates, .int R_widths, .int R_rows, .int R_lap])), (aR_inches, .inl (cI, 4, .inl R_inches)), (aR_many, .inl (cI, 4, .inl r_48)), (aR_worth, .inl (cI, 4, .inl R_worth)), (aR_lengths, .inl (cI, 6, .inl R_lengths)), (aR_laid, .inl (cI, 6, .inl R_laid)), (aR_slates, .inl (cI, 72, .inl R_slates)), (aY, .inr (1, [.int Y_kind, .int Y_figure]))]) ⟨hx, hb, hml, hown, hts⟩ (k_X0_giveBack l dC dI cI cZ cS N aC aR aR_inches aR_many aR_worth aR_lengths aR_laid aR_slates aY _ C_row r_2.2.1 C_length C_place C_slates C_asides R_inches r_2.2.2 R_worth R_lengths R_laid R_slates R_widths R_rows R_lap Y_kind Y_figure r_1.1 r_48 hg) (cwV 1 hts gX0_betterOfTwo_X0_giveBack rfl rfl rfl cd_X0_giveBack ⟨Nat.le_of_ble_eq_true rfl, Nat.le_of_ble_eq_true rfl⟩) hP hD hK hS hA [0, 1, 2, 3, 4, 5, 6, 7, 8] [] [0, 1, 2, 3, 4, 5, 6, 7, 8] (by decide) (by decide) (by decide) (by decide) rfl rfl rfl rfl rfl rfl hl.1 rfl (Nat.le_of_ble_eq_true rfl) dX0_betterOfTwo_103 ⟨Nat.zero_le _, Nat.zero_le _⟩ (fun H locs hP hD hS => ?_)
                    refine lv_iload_n hx hb dX0_betterOfTwo_106 rfl (lv_at hl 2 rfl) ?_
                    have h := Option.some.inj h
                    exact W.iret hx hb hr (fun t ht hW => ⟨⟨_, (), rfl, by rw [← h], by (try rw [← h]); rw [ht]; exact hP, va_K.moved hW.alike hK, by (try rw [← h]); exact hD⟩, hS.F ht⟩) hS.2.2 dX0_betterOfTwo_107
                · exact absurd (by decide) c_46
              · have h := it_n c_45 h
                refine lv_iconst (v := 1) hx hb dX0_betterOfTwo_79 (by decide) ?_
                refine lv_goto (tgt := 84) hx hb dX0_betterOfTwo_80 (by decide) ?_
                refine lv_istore_n (lv' := [(3, .int 1), (4, .int 1), (2, .int r_2.1), (1, .int r_1.1), (0, .ref aC)]) hx hb dX0_betterOfTwo_84 rfl hl (by decide) rfl (fun ls hl => ?_)
                refine lv_iload_n hx hb dX0_betterOfTwo_85 rfl (lv_at hl 0 rfl) ?_
                refine lv_if_eq (tgt := 96) hx hb dX0_betterOfTwo_86 (by decide) (fun c_49 => ?_) (fun c_49 => ?_)
                · exact absurd c_49 (by decide)
                · skip
                  refine lv_aload_n hx hb dX0_betterOfTwo_89 rfl (lv_at hl 4 rfl) ?_
                  refine lv_iload_n hx hb dX0_betterOfTwo_90 rfl (lv_at hl 2 rfl) ?_
                  obtain ⟨r_50, hg, h⟩ := bd_some h
                  refine mtVv (As := [.int r_2.1]) (rest := []) (ci := 0) (wr := []) (w2 := [(aC, .inr (0, [.ref aR, .int C_row, .ref aY, .int r_2.2.1, .int C_length, .int C_place, .int C_slates, .int C_asides])), (aR, .inr (3, [.ref aR_inches, .ref aR_many, .ref aR_worth, .ref aR_lengths, .ref aR_laid, .ref aR_slates, .int R_widths, .int R_rows, .int R_lap])), (aR_inches, .inl (cI, 4, .inl R_inches)), (aR_many, .inl (cI, 4, .inl r_50)), (aR_worth, .inl (cI, 4, .inl R_worth)), (aR_lengths, .inl (cI, 6, .inl R_lengths)), (aR_laid, .inl (cI, 6, .inl R_laid)), (aR_slates, .inl (cI, 72, .inl R_slates)), (aY, .inr (1, [.int Y_kind, .int Y_figure]))]) ⟨hx, hb, hml, hown, hts⟩ (k_X0_giveBack l dC dI cI cZ cS N aC aR aR_inches aR_many aR_worth aR_lengths aR_laid aR_slates aY _ C_row r_2.2.1 C_length C_place C_slates C_asides R_inches r_2.2.2 R_worth R_lengths R_laid R_slates R_widths R_rows R_lap Y_kind Y_figure r_2.1 r_50 hg) (cwV 1 hts gX0_betterOfTwo_X0_giveBack rfl rfl rfl cd_X0_giveBack ⟨Nat.le_of_ble_eq_true rfl, Nat.le_of_ble_eq_true rfl⟩) hP hD hK hS hA [0, 1, 2, 3, 4, 5, 6, 7, 8] [] [0, 1, 2, 3, 4, 5, 6, 7, 8] (by decide) (by decide) (by decide) (by decide) rfl rfl rfl rfl rfl rfl hl.1 rfl (Nat.le_of_ble_eq_true rfl) dX0_betterOfTwo_91 ⟨Nat.zero_le _, Nat.zero_le _⟩ (fun H locs hP hD hS => ?_)
                  refine lv_iload_n hx hb dX0_betterOfTwo_94 rfl (lv_at hl 3 rfl) ?_
                  have h := Option.some.inj h
                  exact W.iret hx hb hr (fun t ht hW => ⟨⟨_, (), rfl, by rw [← h], by (try rw [← h]); rw [ht]; exact hP, va_K.moved hW.alike hK, by (try rw [← h]); exact hD⟩, hS.F ht⟩) hS.2.2 dX0_betterOfTwo_95
def f_X0_comesToEnd_L2 (N : Nat) (C_row : Int32) (C_length : Int32) (R_inches : Nat → Int32) (R_laid : Nat → Int32) (R_slates : Nat → Int32) (R_widths : Int32) (R_lap : Int32) (Y_kind : Int32) (Y_figure : Int32) : Nat → Int32 → Int32 → Int32 → Int32 → Int32 → (Nat → Int32) → Option (Bool × Int32 × Int32 × Int32 × Int32 × (Nat → Int32))
  | 0, _, _, _, _, _, _ => none
  | n + 1, v1, C_seed, C_place, C_slates, C_asides, R_many =>
    if 100 ≤ v1 then (if C_place < C_length then (some (false, C_seed, C_place, C_slates, C_asides, R_many)) else (some (true, C_seed, C_place, C_slates, C_asides, R_many))) else (if C_length ≤ C_place then (if C_place < C_length then (some (false, C_seed, C_place, C_slates, C_asides, R_many)) else (some (true, C_seed, C_place, C_slates, C_asides, R_many))) else ((f_X0_chosenWidth N C_row C_length C_place R_inches R_many R_laid R_slates R_widths R_lap Y_kind Y_figure).bind fun r_5 => if r_5 = (-1) then (some (false, C_seed, C_place, C_slates, C_asides, R_many)) else ((f_X1_isHanded N Y_kind).bind fun r_7 => if (b2i r_7) = 0 then (ck (gi r_5 4) (ck (gi r_5 4) (if r_5 = (-1) then ((f_X1_mostAsides N Y_figure).bind fun r_10 => if C_asides < r_10 then (f_X0_comesToEnd_L2 N C_row C_length R_inches R_laid R_slates R_widths R_lap Y_kind Y_figure n (v1 + 1) C_seed C_place C_slates (C_asides + 1) (upd R_many r_5.toNatClampNeg ((R_many r_5.toNatClampNeg) - 1))) else (some (false, C_seed, C_place, C_slates, C_asides, (upd R_many r_5.toNatClampNeg ((R_many r_5.toNatClampNeg) - 1))))) else (ck (gi r_5 4) (f_X0_comesToEnd_L2 N C_row C_length R_inches R_laid R_slates R_widths R_lap Y_kind Y_figure n (v1 + 1) C_seed (C_place + (R_inches r_5.toNatClampNeg)) (C_slates + 1) C_asides (upd R_many r_5.toNatClampNeg ((R_many r_5.toNatClampNeg) - 1))))))) else ((f_X1_isMany N Y_kind).bind fun r_12 => if (b2i r_12) = 0 then ((f_X0_handed N C_row C_seed C_length C_place R_inches R_many R_laid R_slates R_widths R_lap Y_kind).bind fun r_14 => if r_14.1 = (-1) then ((f_X1_mostAsides N Y_figure).bind fun r_16 => if C_asides < r_16 then (f_X0_comesToEnd_L2 N C_row C_length R_inches R_laid R_slates R_widths R_lap Y_kind Y_figure n (v1 + 1) r_14.2.1 C_place C_slates (C_asides + 1) r_14.2.2) else (some (false, r_14.2.1, C_place, C_slates, C_asides, r_14.2.2))) else (ck (gi r_14.1 4) (f_X0_comesToEnd_L2 N C_row C_length R_inches R_laid R_slates R_widths R_lap Y_kind Y_figure n (v1 + 1) r_14.2.1 (C_place + (R_inches r_14.1.toNatClampNeg)) (C_slates + 1) C_asides r_14.2.2))) else ((f_X0_betterOfTwo N C_row C_seed C_length C_place R_inches R_many R_laid R_slates R_widths R_lap Y_kind).bind fun r_18 => if r_18.1 = (-1) then ((f_X1_mostAsides N Y_figure).bind fun r_20 => if C_asides < r_20 then (f_X0_comesToEnd_L2 N C_row C_length R_inches R_laid R_slates R_widths R_lap Y_kind Y_figure n (v1 + 1) r_18.2.1 C_place C_slates (C_asides + 1) r_18.2.2) else (some (false, r_18.2.1, C_place, C_slates, C_asides, r_18.2.2))) else (ck (gi r_18.1 4) (f_X0_comesToEnd_L2 N C_row C_length R_inches R_laid R_slates R_widths R_lap Y_kind Y_figure n (v1 + 1) r_18.2.1 (C_place + (R_inches r_18.1.toNatClampNeg)) (C_slates + 1) C_asides r_18.2.2)))))))
def f_X0_comesToEnd (N : Nat) (C_row : Int32) (C_seed : Int32) (C_length : Int32) (C_place : Int32) (C_slates : Int32) (C_asides : Int32) (R_inches : Nat → Int32) (R_many : Nat → Int32) (R_laid : Nat → Int32) (R_slates : Nat → Int32) (R_widths : Int32) (R_lap : Int32) (Y_kind : Int32) (Y_figure : Int32) : Option (Bool × Int32 × Int32 × Int32 × Int32 × (Nat → Int32)) :=
  f_X0_comesToEnd_L2 N C_row C_length R_inches R_laid R_slates R_widths R_lap Y_kind Y_figure N 0 C_seed C_place C_slates C_asides R_many
set_option maxHeartbeats 4000000 in
set_option maxRecDepth 100000 in
theorem k_X0_comesToEnd (l : Launch) (dC : Nat → ClassId) (dI : Nat → Nat → Nat) (cI cZ cS : ClassId) (N : Nat) (aC aR aR_inches aR_many aR_worth aR_lengths aR_laid aR_slates aY : Nat) (sz : Nat) (C_row : Int32) (C_seed : Int32) (C_length : Int32) (C_place : Int32) (C_slates : Int32) (C_asides : Int32) (R_inches : Nat → Int32) (R_many : Nat → Int32) (R_worth : Nat → Int32) (R_lengths : Nat → Int32) (R_laid : Nat → Int32) (R_slates : Nat → Int32) (R_widths : Int32) (R_rows : Int32) (R_lap : Int32) (Y_kind : Int32) (Y_figure : Int32) (res : Bool × Int32 × Int32 × Int32 × Int32 × (Nat → Int32)) (h : f_X0_comesToEnd N C_row C_seed C_length C_place C_slates C_asides R_inches R_many R_laid R_slates R_widths R_lap Y_kind Y_figure = some res) : Met l yX0_comesToEnd wsX0_comesToEnd ({ frames := 4, cells := 0, slots := 0, locals := 92 }) (va_Pc [.ref aC] (preW (dC, dI) cI cZ cS [(aC, .inr (0, [.ref aR, .int C_row, .ref aY, .int C_seed, .int C_length, .int C_place, .int C_slates, .int C_asides])), (aR, .inr (3, [.ref aR_inches, .ref aR_many, .ref aR_worth, .ref aR_lengths, .ref aR_laid, .ref aR_slates, .int R_widths, .int R_rows, .int R_lap])), (aR_inches, .inl (cI, 4, .inl R_inches)), (aR_many, .inl (cI, 4, .inl R_many)), (aR_worth, .inl (cI, 4, .inl R_worth)), (aR_lengths, .inl (cI, 6, .inl R_lengths)), (aR_laid, .inl (cI, 6, .inl R_laid)), (aR_slates, .inl (cI, 72, .inl R_slates)), (aY, .inr (1, [.int Y_kind, .int Y_figure]))] sz)) (va_Qi (fun (r : Int32) (_ : Unit) => r = b2i res.1) (fun _ => qW (dC, dI) cI cZ cS (va_A [(aC, .inr (0, [.ref aR, .int C_row, .ref aY, .int C_seed, .int C_length, .int C_place, .int C_slates, .int C_asides])), (aR, .inr (3, [.ref aR_inches, .ref aR_many, .ref aR_worth, .ref aR_lengths, .ref aR_laid, .ref aR_slates, .int R_widths, .int R_rows, .int R_lap])), (aR_inches, .inl (cI, 4, .inl R_inches)), (aR_many, .inl (cI, 4, .inl R_many)), (aR_worth, .inl (cI, 4, .inl R_worth)), (aR_lengths, .inl (cI, 6, .inl R_lengths)), (aR_laid, .inl (cI, 6, .inl R_laid)), (aR_slates, .inl (cI, 72, .inl R_slates)), (aY, .inr (1, [.int Y_kind, .int Y_figure]))] sz) [(aC, .inr (0, [.ref aR, .int C_row, .ref aY, .int res.2.1, .int C_length, .int res.2.2.1, .int res.2.2.2.1, .int res.2.2.2.2.1])), (aR, .inr (3, [.ref aR_inches, .ref aR_many, .ref aR_worth, .ref aR_lengths, .ref aR_laid, .ref aR_slates, .int R_widths, .int R_rows, .int R_lap])), (aR_inches, .inl (cI, 4, .inl R_inches)), (aR_many, .inl (cI, 4, .inl res.2.2.2.2.2)), (aR_worth, .inl (cI, 4, .inl R_worth)), (aR_lengths, .inl (cI, 6, .inl R_lengths)), (aR_laid, .inl (cI, 6, .inl R_laid)), (aR_slates, .inl (cI, 72, .inl R_slates)), (aY, .inr (1, [.int Y_kind, .int Y_figure]))]) (va_A [(aC, .inr (0, [.ref aR, .int C_row, .ref aY, .int C_seed, .int C_length, .int C_place, .int C_slates, .int C_asides])), (aR, .inr (3, [.ref aR_inches, .ref aR_many, .ref aR_worth, .ref aR_lengths, .ref aR_laid, .ref aR_slates, .int R_widths, .int R_rows, .int R_lap])), (aR_inches, .inl (cI, 4, .inl R_inches)), (aR_many, .inl (cI, 4, .inl R_many)), (aR_worth, .inl (cI, 4, .inl R_worth)), (aR_lengths, .inl (cI, 6, .inl R_lengths)), (aR_laid, .inl (cI, 6, .inl R_laid)), (aR_slates, .inl (cI, 72, .inl R_slates)), (aY, .inr (1, [.int Y_kind, .int Y_figure]))] sz)) 0 0 (va_A [(aC, .inr (0, [.ref aR, .int C_row, .ref aY, .int C_seed, .int C_length, .int C_place, .int C_slates, .int C_asides])), (aR, .inr (3, [.ref aR_inches, .ref aR_many, .ref aR_worth, .ref aR_lengths, .ref aR_laid, .ref aR_slates, .int R_widths, .int R_rows, .int R_lap])), (aR_inches, .inl (cI, 4, .inl R_inches)), (aR_many, .inl (cI, 4, .inl R_many)), (aR_worth, .inl (cI, 4, .inl R_worth)), (aR_lengths, .inl (cI, 6, .inl R_lengths)), (aR_laid, .inl (cI, 6, .inl R_laid)), (aR_slates, .inl (cI, 72, .inl R_slates)), (aY, .inr (1, [.int Y_kind, .int Y_figure]))] sz) := by
  refine Met.ofW (cc := cX0_comesToEnd) (maxL := 3) (ret := (some .boolean)) (by decide) rfl ?_
  intro p e s m args below meth c s₁ B hml hv
  obtain ⟨rfl, hsz, hP, hK, hD0⟩ := hv
  have hx := B.exec
  have hb := B.bytes
  have hr := B.returns
  have hts := atoms_spec (ws := wsX0_comesToEnd) B.pre
  have hown : s.vm.findClass RX0 = some m.cls := findClass_of_methodNamed B.named
  have hlocks := B.notSynchronized
  subst hsz
  have hD := hD0.self (sz := s.heap.size)
  generalize hAe : va_A [(aC, .inr (0, [.ref aR, .int C_row, .ref aY, .int C_seed, .int C_length, .int C_place, .int C_slates, .int C_asides])), (aR, .inr (3, [.ref aR_inches, .ref aR_many, .ref aR_worth, .ref aR_lengths, .ref aR_laid, .ref aR_slates, .int R_widths, .int R_rows, .int R_lap])), (aR_inches, .inl (cI, 4, .inl R_inches)), (aR_many, .inl (cI, 4, .inl R_many)), (aR_worth, .inl (cI, 4, .inl R_worth)), (aR_lengths, .inl (cI, 6, .inl R_lengths)), (aR_laid, .inl (cI, 6, .inl R_laid)), (aR_slates, .inl (cI, 72, .inl R_slates)), (aY, .inr (1, [.int Y_kind, .int Y_figure]))] s.heap.size = A at hD ⊢
  have hA : ∀ q : Nat, s.heap.size ≤ q → A q := fun q h => by rw [← hAe]; exact Or.inr h
  have hS : va_S A s.heap s.heap [] := va_S.rf
  have hl := lv_entry ([.ref aC]) (n := 3) (Nat.le_of_ble_eq_true rfl)
  rw [lg_entry_eq]
  generalize (lg_sl ([.ref aC]) ++ List.replicate (3 - (lg_sl ([.ref aC])).length) Slot.unset).toArray = ls at hl ⊢
  have hl : lv_has ls 3 [(0, .ref aC)] := hl
  unfold f_X0_comesToEnd at h
  refine lv_iconst (v := 0) hx hb dX0_comesToEnd_0 (by decide) ?_
  refine lv_istore_n (lv' := [(1, .int 0), (0, .ref aC)]) hx hb dX0_comesToEnd_1 rfl hl (by decide) rfl (fun ls hl => ?_)
  have L2_21 : ∀ (n_22 : Nat) (v1_23 : Int32) (C_seed_24 : Int32) (C_place_25 : Int32) (C_slates_26 : Int32) (C_asides_27 : Int32) (R_many_28 : Nat → Int32) (ls : Array Slot) (H : Heap) (locs : List Loc), f_X0_comesToEnd_L2 N C_row C_length R_inches R_laid R_slates R_widths R_lap Y_kind Y_figure n_22 v1_23 C_seed_24 C_place_25 C_slates_26 C_asides_27 R_many_28 = some res → lv_has ls 3 [(0, .ref aC), (1, .int v1_23)] → va_P (dC, dI) vwCl [(aC, .inr (0, [.ref aR, .int C_row, .ref aY, .int C_seed_24, .int C_length, .int C_place_25, .int C_slates_26, .int C_asides_27])), (aR, .inr (3, [.ref aR_inches, .ref aR_many, .ref aR_worth, .ref aR_lengths, .ref aR_laid, .ref aR_slates, .int R_widths, .int R_rows, .int R_lap])), (aR_inches, .inl (cI, 4, .inl R_inches)), (aR_many, .inl (cI, 4, .inl R_many_28)), (aR_worth, .inl (cI, 4, .inl R_worth)), (aR_lengths, .inl (cI, 6, .inl R_lengths)), (aR_laid, .inl (cI, 6, .inl R_laid)), (aR_slates, .inl (cI, 72, .inl R_slates)), (aY, .inr (1, [.int Y_kind, .int Y_figure]))] H → va_D A [(aC, .inr (0, [.ref aR, .int C_row, .ref aY, .int C_seed_24, .int C_length, .int C_place_25, .int C_slates_26, .int C_asides_27])), (aR, .inr (3, [.ref aR_inches, .ref aR_many, .ref aR_worth, .ref aR_lengths, .ref aR_laid, .ref aR_slates, .int R_widths, .int R_rows, .int R_lap])), (aR_inches, .inl (cI, 4, .inl R_inches)), (aR_many, .inl (cI, 4, .inl R_many_28)), (aR_worth, .inl (cI, 4, .inl R_worth)), (aR_lengths, .inl (cI, 6, .inl R_lengths)), (aR_laid, .inl (cI, 6, .inl R_laid)), (aR_slates, .inl (cI, 72, .inl R_slates)), (aY, .inr (1, [.int Y_kind, .int Y_figure]))] → va_S A s.heap H locs → W p l e (headSpec wsX0_comesToEnd ({ frames := 4, cells := 0, slots := 0, locals := 92 })).room s m ([.ref aC] : List Value).toArray below meth c H locs 0 0 (MQ below (va_Qi (fun (r : Int32) (_ : Unit) => r = b2i res.1) (fun _ => qW (dC, dI) cI cZ cS A [(aC, .inr (0, [.ref aR, .int C_row, .ref aY, .int res.2.1, .int C_length, .int res.2.2.1, .int res.2.2.2.1, .int res.2.2.2.2.1])), (aR, .inr (3, [.ref aR_inches, .ref aR_many, .ref aR_worth, .ref aR_lengths, .ref aR_laid, .ref aR_slates, .int R_widths, .int R_rows, .int R_lap])), (aR_inches, .inl (cI, 4, .inl R_inches)), (aR_many, .inl (cI, 4, .inl res.2.2.2.2.2)), (aR_worth, .inl (cI, 4, .inl R_worth)), (aR_lengths, .inl (cI, 6, .inl R_lengths)), (aR_laid, .inl (cI, 6, .inl R_laid)), (aR_slates, .inl (cI, 72, .inl R_slates)), (aY, .inr (1, [.int Y_kind, .int Y_figure]))]) A) ([.ref aC] : List Value).toArray s 0 0 A) (F0 m 2 ls []) := by
    intro n_22
    induction n_22 with
    | zero =>
      intro v1_23 C_seed_24 C_place_25 C_slates_26 C_asides_27 R_many_28 ls H locs h
      simp only [f_X0_comesToEnd_L2] at h
      try exact absurd h (by simp)
    | succ n_22 ihn_22 =>
      intro v1_23 C_seed_24 C_place_25 C_slates_26 C_asides_27 R_many_28 ls H locs h hl hP hD hS
      rw [f_X0_comesToEnd_L2] at h
      refine lv_iload_n hx hb dX0_comesToEnd_2 rfl (lv_at hl 1 rfl) ?_
      refine lv_bipush (v := 100) hx hb dX0_comesToEnd_3 (by decide) ?_
      refine lv_icmp_ge (tgt := 147) hx hb dX0_comesToEnd_5 (by decide) (fun c_29 => ?_) (fun c_29 => ?_)
      · have h := it_p c_29 h
        refine lv_aload_n hx hb dX0_comesToEnd_147 rfl (lv_at hl 0 rfl) ?_
        refine va_get (D := (dC, dI)) (ci := 0) (v := .int C_place_25) (C := RX0) (T := TX0) (N := 8) hx hb hts (fun _ h => List.mem_cons_of_mem _ (List.mem_append_left _ (List.mem_append_left _ (List.mem_append_right _ h)))) hown hK hP 0 rfl rfl 5 (by decide) (hts (.fieldLink RX0 7 "SlateRows$Course" "place" "I") (by decide +kernel)) (fun _ h9 => h9) rfl dX0_comesToEnd_148 ?_
        refine lv_aload_n hx hb dX0_comesToEnd_151 rfl (lv_at hl 0 rfl) ?_
        refine va_get (D := (dC, dI)) (ci := 0) (v := .int C_length) (C := RX0) (T := TX0) (N := 8) hx hb hts (fun _ h => List.mem_cons_of_mem _ (List.mem_append_left _ (List.mem_append_left _ (List.mem_append_right _ h)))) hown hK hP 0 rfl rfl 4 (by decide) (hts (.fieldLink RX0 39 "SlateRows$Course" "length" "I") (by decide +kernel)) (fun _ h9 => h9) rfl dX0_comesToEnd_152 ?_
        refine lv_icmp_lt (tgt := 162) hx hb dX0_comesToEnd_155 (by decide) (fun c_30 => ?_) (fun c_30 => ?_)
        · have h := it_p c_30 h
          refine lv_iconst (v := 0) hx hb dX0_comesToEnd_162 (by decide) ?_
          have h := Option.some.inj h
          exact W.zret (v := b2i false) hx hb hr (b2i_nar _) (fun t ht hW => ⟨⟨_, (), rfl, by rw [← h], by (try rw [← h]); rw [ht]; exact hP, va_K.moved hW.alike hK, by (try rw [← h]); exact hD⟩, hS.F ht⟩) hS.2.2 dX0_comesToEnd_163
        · have h := it_n c_30 h
          refine lv_iconst (v := 1) hx hb dX0_comesToEnd_158 (by decide) ?_
          refine lv_goto (tgt := 163) hx hb dX0_comesToEnd_159 (by decide) ?_
          have h := Option.some.inj h
          exact W.zret (v := b2i true) hx hb hr (b2i_nar _) (fun t ht hW => ⟨⟨_, (), rfl, by rw [← h], by (try rw [← h]); rw [ht]; exact hP, va_K.moved hW.alike hK, by (try rw [← h]); exact hD⟩, hS.F ht⟩) hS.2.2 dX0_comesToEnd_163
      · have h := it_n c_29 h
        refine lv_aload_n hx hb dX0_comesToEnd_8 rfl (lv_at hl 0 rfl) ?_
        refine va_get (D := (dC, dI)) (ci := 0) (v := .int C_place_25) (C := RX0) (T := TX0) (N := 8) hx hb hts (fun _ h => List.mem_cons_of_mem _ (List.mem_append_left _ (List.mem_append_left _ (List.mem_append_right _ h)))) hown hK hP 0 rfl rfl 5 (by decide) (hts (.fieldLink RX0 7 "SlateRows$Course" "place" "I") (by decide +kernel)) (fun _ h9 => h9) rfl dX0_comesToEnd_9 ?_
        refine lv_aload_n hx hb dX0_comesToEnd_12 rfl (lv_at hl 0 rfl) ?_
        refine va_get (D := (dC, dI)) (ci := 0) (v := .int C_length) (C := RX0) (T := TX0) (N := 8) hx hb hts (fun _ h => List.mem_cons_of_mem _ (List.mem_append_left _ (List.mem_append_left _ (List.mem_append_right _ h)))) hown hK hP 0 rfl rfl 4 (by decide) (hts (.fieldLink RX0 39 "SlateRows$Course" "length" "I") (by decide +kernel)) (fun _ h9 => h9) rfl dX0_comesToEnd_13 ?_
        refine lv_icmp_ge (tgt := 147) hx hb dX0_comesToEnd_16 (by decide) (fun c_31 => ?_) (fun c_31 => ?_)
        · have h := it_p c_31 h
          refine lv_aload_n hx hb dX0_comesToEnd_147 rfl (lv_at hl 0 rfl) ?_
          refine va_get (D := (dC, dI)) (ci := 0) (v := .int C_place_25) (C := RX0) (T := TX0) (N := 8) hx hb hts (fun _ h => List.mem_cons_of_mem _ (List.mem_append_left _ (List.mem_append_left _ (List.mem_append_right _ h)))) hown hK hP 0 rfl rfl 5 (by decide) (hts (.fieldLink RX0 7 "SlateRows$Course" "place" "I") (by decide +kernel)) (fun _ h9 => h9) rfl dX0_comesToEnd_148 ?_
          refine lv_aload_n hx hb dX0_comesToEnd_151 rfl (lv_at hl 0 rfl) ?_
          refine va_get (D := (dC, dI)) (ci := 0) (v := .int C_length) (C := RX0) (T := TX0) (N := 8) hx hb hts (fun _ h => List.mem_cons_of_mem _ (List.mem_append_left _ (List.mem_append_left _ (List.mem_append_right _ h)))) hown hK hP 0 rfl rfl 4 (by decide) (hts (.fieldLink RX0 39 "SlateRows$Course" "length" "I") (by decide +kernel)) (fun _ h9 => h9) rfl dX0_comesToEnd_152 ?_
          refine lv_icmp_lt (tgt := 162) hx hb dX0_comesToEnd_155 (by decide) (fun c_32 => ?_) (fun c_32 => ?_)
          · have h := it_p c_32 h
            refine lv_iconst (v := 0) hx hb dX0_comesToEnd_162 (by decide) ?_
            have h := Option.some.inj h
            exact W.zret (v := b2i false) hx hb hr (b2i_nar _) (fun t ht hW => ⟨⟨_, (), rfl, by rw [← h], by (try rw [← h]); rw [ht]; exact hP, va_K.moved hW.alike hK, by (try rw [← h]); exact hD⟩, hS.F ht⟩) hS.2.2 dX0_comesToEnd_163
          · have h := it_n c_32 h
            refine lv_iconst (v := 1) hx hb dX0_comesToEnd_158 (by decide) ?_
            refine lv_goto (tgt := 163) hx hb dX0_comesToEnd_159 (by decide) ?_
            have h := Option.some.inj h
            exact W.zret (v := b2i true) hx hb hr (b2i_nar _) (fun t ht hW => ⟨⟨_, (), rfl, by rw [← h], by (try rw [← h]); rw [ht]; exact hP, va_K.moved hW.alike hK, by (try rw [← h]); exact hD⟩, hS.F ht⟩) hS.2.2 dX0_comesToEnd_163
        · have h := it_n c_31 h
          refine lv_aload_n hx hb dX0_comesToEnd_19 rfl (lv_at hl 0 rfl) ?_
          obtain ⟨r_33, hg, h⟩ := bd_some h
          refine rdV (As := []) (rest := []) (ci := 0) ⟨hx, hb, hml, hown, hts⟩ (k_X0_chosenWidth l dC dI cI cZ cS N aC aR aR_inches aR_many aR_worth aR_lengths aR_laid aR_slates aY C_row C_seed_24 C_length C_place_25 C_slates_26 C_asides_27 R_inches R_many_28 R_worth R_lengths R_laid R_slates R_widths R_rows R_lap Y_kind Y_figure r_33 hg) (cwV 0 hts gX0_comesToEnd_X0_chosenWidth rfl rfl rfl cd_X0_chosenWidth ⟨Nat.le_of_ble_eq_true rfl, Nat.le_of_ble_eq_true rfl⟩) hP hD hK [0, 1, 2, 3, 4, 5, 6, 7, 8] (by decide) rfl rfl rfl rfl hl.1 rfl (Nat.le_of_ble_eq_true rfl) dX0_comesToEnd_20 ⟨Nat.zero_le _, Nat.zero_le _⟩ ?_
          refine lv_istore_n (lv' := [(2, .int r_33), (0, .ref aC), (1, .int v1_23)]) hx hb dX0_comesToEnd_23 rfl hl (by decide) rfl (fun ls hl => ?_)
          refine lv_iload_n hx hb dX0_comesToEnd_24 rfl (lv_at hl 0 rfl) ?_
          refine lv_iconst (v := (-1)) hx hb dX0_comesToEnd_25 (by decide) ?_
          refine lv_icmp_ne (tgt := 31) hx hb dX0_comesToEnd_26 (by decide) (fun c_34 => ?_) (fun c_34 => ?_)
          · have h := it_n c_34 h
            refine lv_aload_n hx hb dX0_comesToEnd_31 rfl (lv_at hl 1 rfl) ?_
            refine va_get (D := (dC, dI)) (ci := 0) (v := .ref aY) (C := RX0) (T := TX0) (N := 8) hx hb hts (fun _ h => List.mem_cons_of_mem _ (List.mem_append_left _ (List.mem_append_left _ (List.mem_append_right _ h)))) hown hK hP 0 rfl rfl 2 (by decide) (hts (.fieldLink RX0 26 "SlateRows$Course" "laying" "LSlateRows$Laying;") (by decide +kernel)) (fun _ h9 => h9) rfl dX0_comesToEnd_32 ?_
            obtain ⟨r_35, hg, h⟩ := bd_some h
            refine rdV (As := []) (rest := []) (ci := 1) ⟨hx, hb, hml, hown, hts⟩ (k_X1_isHanded l dC dI cI cZ cS N aY Y_kind Y_figure r_35 hg) (cwV 0 hts gX0_comesToEnd_X1_isHanded rfl rfl rfl cd_X1_isHanded ⟨Nat.le_of_ble_eq_true rfl, Nat.le_of_ble_eq_true rfl⟩) hP hD hK [8] (by decide) rfl rfl rfl rfl hl.1 rfl (Nat.le_of_ble_eq_true rfl) dX0_comesToEnd_35 ⟨Nat.zero_le _, Nat.zero_le _⟩ ?_
            refine lv_if_eq (tgt := 66) hx hb dX0_comesToEnd_38 (by decide) (fun c_36 => ?_) (fun c_36 => ?_)
            · have h := it_p c_36 h
              refine lv_aload_n hx hb dX0_comesToEnd_66 rfl (lv_at hl 1 rfl) ?_
              refine va_get (D := (dC, dI)) (ci := 0) (v := .ref aR) (C := RX0) (T := TX0) (N := 8) hx hb hts (fun _ h => List.mem_cons_of_mem _ (List.mem_append_left _ (List.mem_append_left _ (List.mem_append_right _ h)))) hown hK hP 0 rfl rfl 0 (by decide) (hts (.fieldLink RX0 19 "SlateRows$Course" "roof" "LSlateRows$Roof;") (by decide +kernel)) (fun _ h9 => h9) rfl dX0_comesToEnd_67 ?_
              refine va_get (D := (dC, dI)) (ci := 3) (v := .ref aR_many) (C := RX3) (T := TX3) (N := 9) hx hb hts (fun _ h => List.mem_cons_of_mem _ (List.mem_append_left _ (List.mem_append_right _ h))) hown hK hP 1 rfl rfl 1 (by decide) (hts (.fieldLink RX0 61 "SlateRows$Roof" "many" "[I") (by decide +kernel)) (fun _ h9 => h9) rfl dX0_comesToEnd_70 ?_
              refine lv_iload_n hx hb dX0_comesToEnd_73 rfl (lv_at hl 0 rfl) ?_
              refine lv_dup2_11 hx hb dX0_comesToEnd_74 rfl rfl ?_
              obtain ⟨hi, h⟩ := ck_some h
              refine va_iald hx hb hK hP 3 0 rfl rfl (gi_in hi) dX0_comesToEnd_75 ?_
              refine lv_iconst (v := 1) hx hb dX0_comesToEnd_76 (by decide) ?_
              refine lv_isub hx hb dX0_comesToEnd_77 ?_
              obtain ⟨hi, h⟩ := ck_some h
              refine va_iast hx hb hK hP hD hS 3 0 rfl rfl (gi_in hi) dX0_comesToEnd_78 (fun H locs hP hD hS => ?_)
              have hP : va_P (dC, dI) vwCl [(aC, .inr (0, [.ref aR, .int C_row, .ref aY, .int C_seed_24, .int C_length, .int C_place_25, .int C_slates_26, .int C_asides_27])), (aR, .inr (3, [.ref aR_inches, .ref aR_many, .ref aR_worth, .ref aR_lengths, .ref aR_laid, .ref aR_slates, .int R_widths, .int R_rows, .int R_lap])), (aR_inches, .inl (cI, 4, .inl R_inches)), (aR_many, .inl (cI, 4, .inl (upd R_many_28 r_33.toNatClampNeg ((R_many_28 r_33.toNatClampNeg) - 1)))), (aR_worth, .inl (cI, 4, .inl R_worth)), (aR_lengths, .inl (cI, 6, .inl R_lengths)), (aR_laid, .inl (cI, 6, .inl R_laid)), (aR_slates, .inl (cI, 72, .inl R_slates)), (aY, .inr (1, [.int Y_kind, .int Y_figure]))] H := hP
              have hD : va_D A [(aC, .inr (0, [.ref aR, .int C_row, .ref aY, .int C_seed_24, .int C_length, .int C_place_25, .int C_slates_26, .int C_asides_27])), (aR, .inr (3, [.ref aR_inches, .ref aR_many, .ref aR_worth, .ref aR_lengths, .ref aR_laid, .ref aR_slates, .int R_widths, .int R_rows, .int R_lap])), (aR_inches, .inl (cI, 4, .inl R_inches)), (aR_many, .inl (cI, 4, .inl (upd R_many_28 r_33.toNatClampNeg ((R_many_28 r_33.toNatClampNeg) - 1)))), (aR_worth, .inl (cI, 4, .inl R_worth)), (aR_lengths, .inl (cI, 6, .inl R_lengths)), (aR_laid, .inl (cI, 6, .inl R_laid)), (aR_slates, .inl (cI, 72, .inl R_slates)), (aY, .inr (1, [.int Y_kind, .int Y_figure]))] := hD
              refine lv_iload_n hx hb dX0_comesToEnd_79 rfl (lv_at hl 0 rfl) ?_
              refine lv_iconst (v := (-1)) hx hb dX0_comesToEnd_80 (by decide) ?_
              refine lv_icmp_eq (tgt := 115) hx hb dX0_comesToEnd_81 (by decide) (fun c_37 => ?_) (fun c_37 => ?_)
              · have h := it_p c_37 h
                refine lv_aload_n hx hb dX0_comesToEnd_115 rfl (lv_at hl 1 rfl) ?_
                refine va_get (D := (dC, dI)) (ci := 0) (v := .int C_asides_27) (C := RX0) (T := TX0) (N := 8) hx hb hts (fun _ h => List.mem_cons_of_mem _ (List.mem_append_left _ (List.mem_append_left _ (List.mem_append_right _ h)))) hown hK hP 0 rfl rfl 7 (by decide) (hts (.fieldLink RX0 16 "SlateRows$Course" "asides" "I") (by decide +kernel)) (fun _ h9 => h9) rfl dX0_comesToEnd_116 ?_
                refine lv_aload_n hx hb dX0_comesToEnd_119 rfl (lv_at hl 1 rfl) ?_
                refine va_get (D := (dC, dI)) (ci := 0) (v := .ref aY) (C := RX0) (T := TX0) (N := 8) hx hb hts (fun _ h => List.mem_cons_of_mem _ (List.mem_append_left _ (List.mem_append_left _ (List.mem_append_right _ h)))) hown hK hP 0 rfl rfl 2 (by decide) (hts (.fieldLink RX0 26 "SlateRows$Course" "laying" "LSlateRows$Laying;") (by decide +kernel)) (fun _ h9 => h9) rfl dX0_comesToEnd_120 ?_
                obtain ⟨r_38, hg, h⟩ := bd_some h
                refine rdV (As := []) (rest := [.int C_asides_27]) (ci := 1) ⟨hx, hb, hml, hown, hts⟩ (k_X1_mostAsides l dC dI cI cZ cS N aY Y_kind Y_figure r_38 hg) (cwV 0 hts gX0_comesToEnd_X1_mostAsides rfl rfl rfl cd_X1_mostAsides ⟨Nat.le_of_ble_eq_true rfl, Nat.le_of_ble_eq_true rfl⟩) hP hD hK [8] (by decide) rfl rfl rfl rfl hl.1 rfl (Nat.le_of_ble_eq_true rfl) dX0_comesToEnd_123 ⟨Nat.zero_le _, Nat.zero_le _⟩ ?_
                refine lv_icmp_lt (tgt := 131) hx hb dX0_comesToEnd_126 (by decide) (fun c_39 => ?_) (fun c_39 => ?_)
                · have h := it_p c_39 h
                  refine lv_aload_n hx hb dX0_comesToEnd_131 rfl (lv_at hl 1 rfl) ?_
                  refine lv_dup hx hb dX0_comesToEnd_132 rfl ?_
                  refine va_get (D := (dC, dI)) (ci := 0) (v := .int C_asides_27) (C := RX0) (T := TX0) (N := 8) hx hb hts (fun _ h => List.mem_cons_of_mem _ (List.mem_append_left _ (List.mem_append_left _ (List.mem_append_right _ h)))) hown hK hP 0 rfl rfl 7 (by decide) (hts (.fieldLink RX0 16 "SlateRows$Course" "asides" "I") (by decide +kernel)) (fun _ h9 => h9) rfl dX0_comesToEnd_133 ?_
                  refine lv_iconst (v := 1) hx hb dX0_comesToEnd_136 (by decide) ?_
                  refine lv_iadd hx hb dX0_comesToEnd_137 ?_
                  refine va_put (D := (dC, dI)) (ci := 0) (v := .int (C_asides_27 + 1)) (ty := .int) (C := RX0) (T := TX0) (N := 8) hx hb hts (fun _ h => List.mem_cons_of_mem _ (List.mem_append_left _ (List.mem_append_left _ (List.mem_append_right _ h)))) tyX0 tyX0_ok nmX0 hown hK hP hD hS 0 rfl rfl 7 (by decide) (hts (.fieldLink RX0 16 "SlateRows$Course" "asides" "I") (by decide +kernel)) (fun _ h9 => h9) rfl (by decide +kernel) rfl rfl (Nat.le_of_ble_eq_true rfl) dX0_comesToEnd_138 (fun H locs hP hD hS => ?_)
                  have hP : va_P (dC, dI) vwCl [(aC, .inr (0, [.ref aR, .int C_row, .ref aY, .int C_seed_24, .int C_length, .int C_place_25, .int C_slates_26, .int (C_asides_27 + 1)])), (aR, .inr (3, [.ref aR_inches, .ref aR_many, .ref aR_worth, .ref aR_lengths, .ref aR_laid, .ref aR_slates, .int R_widths, .int R_rows, .int R_lap])), (aR_inches, .inl (cI, 4, .inl R_inches)), (aR_many, .inl (cI, 4, .inl (upd R_many_28 r_33.toNatClampNeg ((R_many_28 r_33.toNatClampNeg) - 1)))), (aR_worth, .inl (cI, 4, .inl R_worth)), (aR_lengths, .inl (cI, 6, .inl R_lengths)), (aR_laid, .inl (cI, 6, .inl R_laid)), (aR_slates, .inl (cI, 72, .inl R_slates)), (aY, .inr (1, [.int Y_kind, .int Y_figure]))] H := hP
                  have hD : va_D A [(aC, .inr (0, [.ref aR, .int C_row, .ref aY, .int C_seed_24, .int C_length, .int C_place_25, .int C_slates_26, .int (C_asides_27 + 1)])), (aR, .inr (3, [.ref aR_inches, .ref aR_many, .ref aR_worth, .ref aR_lengths, .ref aR_laid, .ref aR_slates, .int R_widths, .int R_rows, .int R_lap])), (aR_inches, .inl (cI, 4, .inl R_inches)), (aR_many, .inl (cI, 4, .inl (upd R_many_28 r_33.toNatClampNeg ((R_many_28 r_33.toNatClampNeg) - 1)))), (aR_worth, .inl (cI, 4, .inl R_worth)), (aR_lengths, .inl (cI, 6, .inl R_lengths)), (aR_laid, .inl (cI, 6, .inl R_laid)), (aR_slates, .inl (cI, 72, .inl R_slates)), (aY, .inr (1, [.int Y_kind, .int Y_figure]))] := hD
                  refine lv_iinc (v := (v1_23 + 1)) (lv' := [(1, .int (v1_23 + 1)), (2, .int r_33), (0, .ref aC)]) hx hb dX0_comesToEnd_141 hl (k := 2) rfl rfl (by decide) rfl (fun ls hl => ?_)
                  refine lv_goto (tgt := 2) hx hb dX0_comesToEnd_144 (by decide) ?_
                  exact ihn_22 (v1_23 + 1) C_seed_24 C_place_25 C_slates_26 (C_asides_27 + 1) (upd R_many_28 r_33.toNatClampNeg ((R_many_28 r_33.toNatClampNeg) - 1)) ls _ _ h (lv_sub hl [2, 0] rfl) hP hD hS
                · have h := it_n c_39 h
                  refine lv_iconst (v := 0) hx hb dX0_comesToEnd_129 (by decide) ?_
                  have h := Option.some.inj h
                  exact W.zret (v := b2i false) hx hb hr (b2i_nar _) (fun t ht hW => ⟨⟨_, (), rfl, by rw [← h], by (try rw [← h]); rw [ht]; exact hP, va_K.moved hW.alike hK, by (try rw [← h]); exact hD⟩, hS.F ht⟩) hS.2.2 dX0_comesToEnd_130
              · have h := it_n c_37 h
                refine lv_aload_n hx hb dX0_comesToEnd_84 rfl (lv_at hl 1 rfl) ?_
                refine lv_dup hx hb dX0_comesToEnd_85 rfl ?_
                refine va_get (D := (dC, dI)) (ci := 0) (v := .int C_place_25) (C := RX0) (T := TX0) (N := 8) hx hb hts (fun _ h => List.mem_cons_of_mem _ (List.mem_append_left _ (List.mem_append_left _ (List.mem_append_right _ h)))) hown hK hP 0 rfl rfl 5 (by decide) (hts (.fieldLink RX0 7 "SlateRows$Course" "place" "I") (by decide +kernel)) (fun _ h9 => h9) rfl dX0_comesToEnd_86 ?_
                refine lv_aload_n hx hb dX0_comesToEnd_89 rfl (lv_at hl 1 rfl) ?_
                refine va_get (D := (dC, dI)) (ci := 0) (v := .ref aR) (C := RX0) (T := TX0) (N := 8) hx hb hts (fun _ h => List.mem_cons_of_mem _ (List.mem_append_left _ (List.mem_append_left _ (List.mem_append_right _ h)))) hown hK hP 0 rfl rfl 0 (by decide) (hts (.fieldLink RX0 19 "SlateRows$Course" "roof" "LSlateRows$Roof;") (by decide +kernel)) (fun _ h9 => h9) rfl dX0_comesToEnd_90 ?_
                refine va_get (D := (dC, dI)) (ci := 3) (v := .ref aR_inches) (C := RX3) (T := TX3) (N := 9) hx hb hts (fun _ h => List.mem_cons_of_mem _ (List.mem_append_left _ (List.mem_append_right _ h))) hown hK hP 1 rfl rfl 0 (by decide) (hts (.fieldLink RX0 64 "SlateRows$Roof" "inches" "[I") (by decide +kernel)) (fun _ h9 => h9) rfl dX0_comesToEnd_93 ?_
                refine lv_iload_n hx hb dX0_comesToEnd_96 rfl (lv_at hl 0 rfl) ?_
                obtain ⟨hi, h⟩ := ck_some h
                refine va_iald hx hb hK hP 2 0 rfl rfl (gi_in hi) dX0_comesToEnd_97 ?_
                refine lv_iadd hx hb dX0_comesToEnd_98 ?_
                refine va_put (D := (dC, dI)) (ci := 0) (v := .int (C_place_25 + (R_inches r_33.toNatClampNeg))) (ty := .int) (C := RX0) (T := TX0) (N := 8) hx hb hts (fun _ h => List.mem_cons_of_mem _ (List.mem_append_left _ (List.mem_append_left _ (List.mem_append_right _ h)))) tyX0 tyX0_ok nmX0 hown hK hP hD hS 0 rfl rfl 5 (by decide) (hts (.fieldLink RX0 7 "SlateRows$Course" "place" "I") (by decide +kernel)) (fun _ h9 => h9) rfl (by decide +kernel) rfl rfl (Nat.le_of_ble_eq_true rfl) dX0_comesToEnd_99 (fun H locs hP hD hS => ?_)
                have hP : va_P (dC, dI) vwCl [(aC, .inr (0, [.ref aR, .int C_row, .ref aY, .int C_seed_24, .int C_length, .int (C_place_25 + (R_inches r_33.toNatClampNeg)), .int C_slates_26, .int C_asides_27])), (aR, .inr (3, [.ref aR_inches, .ref aR_many, .ref aR_worth, .ref aR_lengths, .ref aR_laid, .ref aR_slates, .int R_widths, .int R_rows, .int R_lap])), (aR_inches, .inl (cI, 4, .inl R_inches)), (aR_many, .inl (cI, 4, .inl (upd R_many_28 r_33.toNatClampNeg ((R_many_28 r_33.toNatClampNeg) - 1)))), (aR_worth, .inl (cI, 4, .inl R_worth)), (aR_lengths, .inl (cI, 6, .inl R_lengths)), (aR_laid, .inl (cI, 6, .inl R_laid)), (aR_slates, .inl (cI, 72, .inl R_slates)), (aY, .inr (1, [.int Y_kind, .int Y_figure]))] H := hP
                have hD : va_D A [(aC, .inr (0, [.ref aR, .int C_row, .ref aY, .int C_seed_24, .int C_length, .int (C_place_25 + (R_inches r_33.toNatClampNeg)), .int C_slates_26, .int C_asides_27])), (aR, .inr (3, [.ref aR_inches, .ref aR_many, .ref aR_worth, .ref aR_lengths, .ref aR_laid, .ref aR_slates, .int R_widths, .int R_rows, .int R_lap])), (aR_inches, .inl (cI, 4, .inl R_inches)), (aR_many, .inl (cI, 4, .inl (upd R_many_28 r_33.toNatClampNeg ((R_many_28 r_33.toNatClampNeg) - 1)))), (aR_worth, .inl (cI, 4, .inl R_worth)), (aR_lengths, .inl (cI, 6, .inl R_lengths)), (aR_laid, .inl (cI, 6, .inl R_laid)), (aR_slates, .inl (cI, 72, .inl R_slates)), (aY, .inr (1, [.int Y_kind, .int Y_figure]))] := hD
                refine lv_aload_n hx hb dX0_comesToEnd_102 rfl (lv_at hl 1 rfl) ?_
                refine lv_dup hx hb dX0_comesToEnd_103 rfl ?_
                refine va_get (D := (dC, dI)) (ci := 0) (v := .int C_slates_26) (C := RX0) (T := TX0) (N := 8) hx hb hts (fun _ h => List.mem_cons_of_mem _ (List.mem_append_left _ (List.mem_append_left _ (List.mem_append_right _ h)))) hown hK hP 0 rfl rfl 6 (by decide) (hts (.fieldLink RX0 13 "SlateRows$Course" "slates" "I") (by decide +kernel)) (fun _ h9 => h9) rfl dX0_comesToEnd_104 ?_
                refine lv_iconst (v := 1) hx hb dX0_comesToEnd_107 (by decide) ?_
                refine lv_iadd hx hb dX0_comesToEnd_108 ?_
                refine va_put (D := (dC, dI)) (ci := 0) (v := .int (C_slates_26 + 1)) (ty := .int) (C := RX0) (T := TX0) (N := 8) hx hb hts (fun _ h => List.mem_cons_of_mem _ (List.mem_append_left _ (List.mem_append_left _ (List.mem_append_right _ h)))) tyX0 tyX0_ok nmX0 hown hK hP hD hS 0 rfl rfl 6 (by decide) (hts (.fieldLink RX0 13 "SlateRows$Course" "slates" "I") (by decide +kernel)) (fun _ h9 => h9) rfl (by decide +kernel) rfl rfl (Nat.le_of_ble_eq_true rfl) dX0_comesToEnd_109 (fun H locs hP hD hS => ?_)
                have hP : va_P (dC, dI) vwCl [(aC, .inr (0, [.ref aR, .int C_row, .ref aY, .int C_seed_24, .int C_length, .int (C_place_25 + (R_inches r_33.toNatClampNeg)), .int (C_slates_26 + 1), .int C_asides_27])), (aR, .inr (3, [.ref aR_inches, .ref aR_many, .ref aR_worth, .ref aR_lengths, .ref aR_laid, .ref aR_slates, .int R_widths, .int R_rows, .int R_lap])), (aR_inches, .inl (cI, 4, .inl R_inches)), (aR_many, .inl (cI, 4, .inl (upd R_many_28 r_33.toNatClampNeg ((R_many_28 r_33.toNatClampNeg) - 1)))), (aR_worth, .inl (cI, 4, .inl R_worth)), (aR_lengths, .inl (cI, 6, .inl R_lengths)), (aR_laid, .inl (cI, 6, .inl R_laid)), (aR_slates, .inl (cI, 72, .inl R_slates)), (aY, .inr (1, [.int Y_kind, .int Y_figure]))] H := hP
                have hD : va_D A [(aC, .inr (0, [.ref aR, .int C_row, .ref aY, .int C_seed_24, .int C_length, .int (C_place_25 + (R_inches r_33.toNatClampNeg)), .int (C_slates_26 + 1), .int C_asides_27])), (aR, .inr (3, [.ref aR_inches, .ref aR_many, .ref aR_worth, .ref aR_lengths, .ref aR_laid, .ref aR_slates, .int R_widths, .int R_rows, .int R_lap])), (aR_inches, .inl (cI, 4, .inl R_inches)), (aR_many, .inl (cI, 4, .inl (upd R_many_28 r_33.toNatClampNeg ((R_many_28 r_33.toNatClampNeg) - 1)))), (aR_worth, .inl (cI, 4, .inl R_worth)), (aR_lengths, .inl (cI, 6, .inl R_lengths)), (aR_laid, .inl (cI, 6, .inl R_laid)), (aR_slates, .inl (cI, 72, .inl R_slates)), (aY, .inr (1, [.int Y_kind, .int Y_figure]))] := hD
                refine lv_goto (tgt := 141) hx hb dX0_comesToEnd_112 (by decide) ?_
                refine lv_iinc (v := (v1_23 + 1)) (lv' := [(1, .int (v1_23 + 1)), (2, .int r_33), (0, .ref aC)]) hx hb dX0_comesToEnd_141 hl (k := 2) rfl rfl (by decide) rfl (fun ls hl => ?_)
                refine lv_goto (tgt := 2) hx hb dX0_comesToEnd_144 (by decide) ?_
                exact ihn_22 (v1_23 + 1) C_seed_24 (C_place_25 + (R_inches r_33.toNatClampNeg)) (C_slates_26 + 1) C_asides_27 (upd R_many_28 r_33.toNatClampNeg ((R_many_28 r_33.toNatClampNeg) - 1)) ls _ _ h (lv_sub hl [2, 0] rfl) hP hD hS
            · have h := it_n c_36 h
              refine lv_aload_n hx hb dX0_comesToEnd_41 rfl (lv_at hl 1 rfl) ?_
              refine va_get (D := (dC, dI)) (ci := 0) (v := .ref aY) (C := RX0) (T := TX0) (N := 8) hx hb hts (fun _ h => List.mem_cons_of_mem _ (List.mem_append_left _ (List.mem_append_left _ (List.mem_append_right _ h)))) hown hK hP 0 rfl rfl 2 (by decide) (hts (.fieldLink RX0 26 "SlateRows$Course" "laying" "LSlateRows$Laying;") (by decide +kernel)) (fun _ h9 => h9) rfl dX0_comesToEnd_42 ?_
              obtain ⟨r_40, hg, h⟩ := bd_some h
              refine rdV (As := []) (rest := []) (ci := 1) ⟨hx, hb, hml, hown, hts⟩ (k_X1_isMany l dC dI cI cZ cS N aY Y_kind Y_figure r_40 hg) (cwV 0 hts gX0_comesToEnd_X1_isMany rfl rfl rfl cd_X1_isMany ⟨Nat.le_of_ble_eq_true rfl, Nat.le_of_ble_eq_true rfl⟩) hP hD hK [8] (by decide) rfl rfl rfl rfl hl.1 rfl (Nat.le_of_ble_eq_true rfl) dX0_comesToEnd_45 ⟨Nat.zero_le _, Nat.zero_le _⟩ ?_
              refine lv_if_eq (tgt := 58) hx hb dX0_comesToEnd_48 (by decide) (fun c_41 => ?_) (fun c_41 => ?_)
              · have h := it_p c_41 h
                refine lv_aload_n hx hb dX0_comesToEnd_58 rfl (lv_at hl 1 rfl) ?_
                obtain ⟨r_42, hg, h⟩ := bd_some h
                refine mtVi (As := []) (rest := []) (ci := 0) (wr := []) (w2 := [(aC, .inr (0, [.ref aR, .int C_row, .ref aY, .int r_42.2.1, .int C_length, .int C_place_25, .int C_slates_26, .int C_asides_27])), (aR, .inr (3, [.ref aR_inches, .ref aR_many, .ref aR_worth, .ref aR_lengths, .ref aR_laid, .ref aR_slates, .int R_widths, .int R_rows, .int R_lap])), (aR_inches, .inl (cI, 4, .inl R_inches)), (aR_many, .inl (cI, 4, .inl r_42.2.2)), (aR_worth, .inl (cI, 4, .inl R_worth)), (aR_lengths, .inl (cI, 6, .inl R_lengths)), (aR_laid, .inl (cI, 6, .inl R_laid)), (aR_slates, .inl (cI, 72, .inl R_slates)), (aY, .inr (1, [.int Y_kind, .int Y_figure]))]) ⟨hx, hb, hml, hown, hts⟩ (k_X0_handed l dC dI cI cZ cS N aC aR aR_inches aR_many aR_worth aR_lengths aR_laid aR_slates aY _ C_row C_seed_24 C_length C_place_25 C_slates_26 C_asides_27 R_inches R_many_28 R_worth R_lengths R_laid R_slates R_widths R_rows R_lap Y_kind Y_figure r_42 hg) (cwV 0 hts gX0_comesToEnd_X0_handed rfl rfl rfl cd_X0_handed ⟨Nat.le_of_ble_eq_true rfl, Nat.le_of_ble_eq_true rfl⟩) hP hD hK hS hA [0, 1, 2, 3, 4, 5, 6, 7, 8] [] [0, 1, 2, 3, 4, 5, 6, 7, 8] (by decide) (by decide) (by decide) (by decide) rfl rfl rfl rfl rfl rfl hl.1 rfl (Nat.le_of_ble_eq_true rfl) dX0_comesToEnd_59 ⟨Nat.zero_le _, Nat.zero_le _⟩ (fun H locs hP hD hS => ?_)
                refine lv_istore_n (lv' := [(2, .int r_42.1), (0, .ref aC), (1, .int v1_23)]) hx hb dX0_comesToEnd_62 rfl hl (by decide) rfl (fun ls hl => ?_)
                refine lv_goto (tgt := 79) hx hb dX0_comesToEnd_63 (by decide) ?_
                refine lv_iload_n hx hb dX0_comesToEnd_79 rfl (lv_at hl 0 rfl) ?_
                refine lv_iconst (v := (-1)) hx hb dX0_comesToEnd_80 (by decide) ?_
                refine lv_icmp_eq (tgt := 115) hx hb dX0_comesToEnd_81 (by decide) (fun c_43 => ?_) (fun c_43 => ?_)
                · have h := it_p c_43 h
                  refine lv_aload_n hx hb dX0_comesToEnd_115 rfl (lv_at hl 1 rfl) ?_
                  refine va_get (D := (dC, dI)) (ci := 0) (v := .int C_asides_27) (C := RX0) (T := TX0) (N := 8) hx hb hts (fun _ h => List.mem_cons_of_mem _ (List.mem_append_left _ (List.mem_append_left _ (List.mem_append_right _ h)))) hown hK hP 0 rfl rfl 7 (by decide) (hts (.fieldLink RX0 16 "SlateRows$Course" "asides" "I") (by decide +kernel)) (fun _ h9 => h9) rfl dX0_comesToEnd_116 ?_
                  refine lv_aload_n hx hb dX0_comesToEnd_119 rfl (lv_at hl 1 rfl) ?_
                  refine va_get (D := (dC, dI)) (ci := 0) (v := .ref aY) (C := RX0) (T := TX0) (N := 8) hx hb hts (fun _ h => List.mem_cons_of_mem _ (List.mem_append_left _ (List.mem_append_left _ (List.mem_append_right _ h)))) hown hK hP 0 rfl rfl 2 (by decide) (hts (.fieldLink RX0 26 "SlateRows$Course" "laying" "LSlateRows$Laying;") (by decide +kernel)) (fun _ h9 => h9) rfl dX0_comesToEnd_120 ?_
                  obtain ⟨r_44, hg, h⟩ := bd_some h
                  refine rdV (As := []) (rest := [.int C_asides_27]) (ci := 1) ⟨hx, hb, hml, hown, hts⟩ (k_X1_mostAsides l dC dI cI cZ cS N aY Y_kind Y_figure r_44 hg) (cwV 0 hts gX0_comesToEnd_X1_mostAsides rfl rfl rfl cd_X1_mostAsides ⟨Nat.le_of_ble_eq_true rfl, Nat.le_of_ble_eq_true rfl⟩) hP hD hK [8] (by decide) rfl rfl rfl rfl hl.1 rfl (Nat.le_of_ble_eq_true rfl) dX0_comesToEnd_123 ⟨Nat.zero_le _, Nat.zero_le _⟩ ?_
                  refine lv_icmp_lt (tgt := 131) hx hb dX0_comesToEnd_126 (by decide) (fun c_45 => ?_) (fun c_45 => ?_)
                  · have h := it_p c_45 h
                    refine lv_aload_n hx hb dX0_comesToEnd_131 rfl (lv_at hl 1 rfl) ?_
                    refine lv_dup hx hb dX0_comesToEnd_132 rfl ?_
                    refine va_get (D := (dC, dI)) (ci := 0) (v := .int C_asides_27) (C := RX0) (T := TX0) (N := 8) hx hb hts (fun _ h => List.mem_cons_of_mem _ (List.mem_append_left _ (List.mem_append_left _ (List.mem_append_right _ h)))) hown hK hP 0 rfl rfl 7 (by decide) (hts (.fieldLink RX0 16 "SlateRows$Course" "asides" "I") (by decide +kernel)) (fun _ h9 => h9) rfl dX0_comesToEnd_133 ?_
                    refine lv_iconst (v := 1) hx hb dX0_comesToEnd_136 (by decide) ?_
                    refine lv_iadd hx hb dX0_comesToEnd_137 ?_
                    refine va_put (D := (dC, dI)) (ci := 0) (v := .int (C_asides_27 + 1)) (ty := .int) (C := RX0) (T := TX0) (N := 8) hx hb hts (fun _ h => List.mem_cons_of_mem _ (List.mem_append_left _ (List.mem_append_left _ (List.mem_append_right _ h)))) tyX0 tyX0_ok nmX0 hown hK hP hD hS 0 rfl rfl 7 (by decide) (hts (.fieldLink RX0 16 "SlateRows$Course" "asides" "I") (by decide +kernel)) (fun _ h9 => h9) rfl (by decide +kernel) rfl rfl (Nat.le_of_ble_eq_true rfl) dX0_comesToEnd_138 (fun H locs hP hD hS => ?_)
                    have hP : va_P (dC, dI) vwCl [(aC, .inr (0, [.ref aR, .int C_row, .ref aY, .int r_42.2.1, .int C_length, .int C_place_25, .int C_slates_26, .int (C_asides_27 + 1)])), (aR, .inr (3, [.ref aR_inches, .ref aR_many, .ref aR_worth, .ref aR_lengths, .ref aR_laid, .ref aR_slates, .int R_widths, .int R_rows, .int R_lap])), (aR_inches, .inl (cI, 4, .inl R_inches)), (aR_many, .inl (cI, 4, .inl r_42.2.2)), (aR_worth, .inl (cI, 4, .inl R_worth)), (aR_lengths, .inl (cI, 6, .inl R_lengths)), (aR_laid, .inl (cI, 6, .inl R_laid)), (aR_slates, .inl (cI, 72, .inl R_slates)), (aY, .inr (1, [.int Y_kind, .int Y_figure]))] H := hP
                    have hD : va_D A [(aC, .inr (0, [.ref aR, .int C_row, .ref aY, .int r_42.2.1, .int C_length, .int C_place_25, .int C_slates_26, .int (C_asides_27 + 1)])), (aR, .inr (3, [.ref aR_inches, .ref aR_many, .ref aR_worth, .ref aR_lengths, .ref aR_laid, .ref aR_slates, .int R_widths, .int R_rows, .int R_lap])), (aR_inches, .inl (cI, 4, .inl R_inches)), (aR_many, .inl (cI, 4, .inl r_42.2.2)), (aR_worth, .inl (cI, 4, .inl R_worth)), (aR_lengths, .inl (cI, 6, .inl R_lengths)), (aR_laid, .inl (cI, 6, .inl R_laid)), (aR_slates, .inl (cI, 72, .inl R_slates)), (aY, .inr (1, [.int Y_kind, .int Y_figure]))] := hD
                    refine lv_iinc (v := (v1_23 + 1)) (lv' := [(1, .int (v1_23 + 1)), (2, .int r_42.1), (0, .ref aC)]) hx hb dX0_comesToEnd_141 hl (k := 2) rfl rfl (by decide) rfl (fun ls hl => ?_)
                    refine lv_goto (tgt := 2) hx hb dX0_comesToEnd_144 (by decide) ?_
                    exact ihn_22 (v1_23 + 1) r_42.2.1 C_place_25 C_slates_26 (C_asides_27 + 1) r_42.2.2 ls _ _ h (lv_sub hl [2, 0] rfl) hP hD hS
                  · have h := it_n c_45 h
                    refine lv_iconst (v := 0) hx hb dX0_comesToEnd_129 (by decide) ?_
                    have h := Option.some.inj h
                    exact W.zret (v := b2i false) hx hb hr (b2i_nar _) (fun t ht hW => ⟨⟨_, (), rfl, by rw [← h], by (try rw [← h]); rw [ht]; exact hP, va_K.moved hW.alike hK, by (try rw [← h]); exact hD⟩, hS.F ht⟩) hS.2.2 dX0_comesToEnd_130
                · have h := it_n c_43 h
                  refine lv_aload_n hx hb dX0_comesToEnd_84 rfl (lv_at hl 1 rfl) ?_
                  refine lv_dup hx hb dX0_comesToEnd_85 rfl ?_
                  refine va_get (D := (dC, dI)) (ci := 0) (v := .int C_place_25) (C := RX0) (T := TX0) (N := 8) hx hb hts (fun _ h => List.mem_cons_of_mem _ (List.mem_append_left _ (List.mem_append_left _ (List.mem_append_right _ h)))) hown hK hP 0 rfl rfl 5 (by decide) (hts (.fieldLink RX0 7 "SlateRows$Course" "place" "I") (by decide +kernel)) (fun _ h9 => h9) rfl dX0_comesToEnd_86 ?_
                  refine lv_aload_n hx hb dX0_comesToEnd_89 rfl (lv_at hl 1 rfl) ?_
                  refine va_get (D := (dC, dI)) (ci := 0) (v := .ref aR) (C := RX0) (T := TX0) (N := 8) hx hb hts (fun _ h => List.mem_cons_of_mem _ (List.mem_append_left _ (List.mem_append_left _ (List.mem_append_right _ h)))) hown hK hP 0 rfl rfl 0 (by decide) (hts (.fieldLink RX0 19 "SlateRows$Course" "roof" "LSlateRows$Roof;") (by decide +kernel)) (fun _ h9 => h9) rfl dX0_comesToEnd_90 ?_
                  refine va_get (D := (dC, dI)) (ci := 3) (v := .ref aR_inches) (C := RX3) (T := TX3) (N := 9) hx hb hts (fun _ h => List.mem_cons_of_mem _ (List.mem_append_left _ (List.mem_append_right _ h))) hown hK hP 1 rfl rfl 0 (by decide) (hts (.fieldLink RX0 64 "SlateRows$Roof" "inches" "[I") (by decide +kernel)) (fun _ h9 => h9) rfl dX0_comesToEnd_93 ?_
                  refine lv_iload_n hx hb dX0_comesToEnd_96 rfl (lv_at hl 0 rfl) ?_
                  obtain ⟨hi, h⟩ := ck_some h
                  refine va_iald hx hb hK hP 2 0 rfl rfl (gi_in hi) dX0_comesToEnd_97 ?_
                  refine lv_iadd hx hb dX0_comesToEnd_98 ?_
                  refine va_put (D := (dC, dI)) (ci := 0) (v := .int (C_place_25 + (R_inches r_42.1.toNatClampNeg))) (ty := .int) (C := RX0) (T := TX0) (N := 8) hx hb hts (fun _ h => List.mem_cons_of_mem _ (List.mem_append_left _ (List.mem_append_left _ (List.mem_append_right _ h)))) tyX0 tyX0_ok nmX0 hown hK hP hD hS 0 rfl rfl 5 (by decide) (hts (.fieldLink RX0 7 "SlateRows$Course" "place" "I") (by decide +kernel)) (fun _ h9 => h9) rfl (by decide +kernel) rfl rfl (Nat.le_of_ble_eq_true rfl) dX0_comesToEnd_99 (fun H locs hP hD hS => ?_)
                  have hP : va_P (dC, dI) vwCl [(aC, .inr (0, [.ref aR, .int C_row, .ref aY, .int r_42.2.1, .int C_length, .int (C_place_25 + (R_inches r_42.1.toNatClampNeg)), .int C_slates_26, .int C_asides_27])), (aR, .inr (3, [.ref aR_inches, .ref aR_many, .ref aR_worth, .ref aR_lengths, .ref aR_laid, .ref aR_slates, .int R_widths, .int R_rows, .int R_lap])), (aR_inches, .inl (cI, 4, .inl R_inches)), (aR_many, .inl (cI, 4, .inl r_42.2.2)), (aR_worth, .inl (cI, 4, .inl R_worth)), (aR_lengths, .inl (cI, 6, .inl R_lengths)), (aR_laid, .inl (cI, 6, .inl R_laid)), (aR_slates, .inl (cI, 72, .inl R_slates)), (aY, .inr (1, [.int Y_kind, .int Y_figure]))] H := hP
                  have hD : va_D A [(aC, .inr (0, [.ref aR, .int C_row, .ref aY, .int r_42.2.1, .int C_length, .int (C_place_25 + (R_inches r_42.1.toNatClampNeg)), .int C_slates_26, .int C_asides_27])), (aR, .inr (3, [.ref aR_inches, .ref aR_many, .ref aR_worth, .ref aR_lengths, .ref aR_laid, .ref aR_slates, .int R_widths, .int R_rows, .int R_lap])), (aR_inches, .inl (cI, 4, .inl R_inches)), (aR_many, .inl (cI, 4, .inl r_42.2.2)), (aR_worth, .inl (cI, 4, .inl R_worth)), (aR_lengths, .inl (cI, 6, .inl R_lengths)), (aR_laid, .inl (cI, 6, .inl R_laid)), (aR_slates, .inl (cI, 72, .inl R_slates)), (aY, .inr (1, [.int Y_kind, .int Y_figure]))] := hD
                  refine lv_aload_n hx hb dX0_comesToEnd_102 rfl (lv_at hl 1 rfl) ?_
                  refine lv_dup hx hb dX0_comesToEnd_103 rfl ?_
                  refine va_get (D := (dC, dI)) (ci := 0) (v := .int C_slates_26) (C := RX0) (T := TX0) (N := 8) hx hb hts (fun _ h => List.mem_cons_of_mem _ (List.mem_append_left _ (List.mem_append_left _ (List.mem_append_right _ h)))) hown hK hP 0 rfl rfl 6 (by decide) (hts (.fieldLink RX0 13 "SlateRows$Course" "slates" "I") (by decide +kernel)) (fun _ h9 => h9) rfl dX0_comesToEnd_104 ?_
                  refine lv_iconst (v := 1) hx hb dX0_comesToEnd_107 (by decide) ?_
                  refine lv_iadd hx hb dX0_comesToEnd_108 ?_
                  refine va_put (D := (dC, dI)) (ci := 0) (v := .int (C_slates_26 + 1)) (ty := .int) (C := RX0) (T := TX0) (N := 8) hx hb hts (fun _ h => List.mem_cons_of_mem _ (List.mem_append_left _ (List.mem_append_left _ (List.mem_append_right _ h)))) tyX0 tyX0_ok nmX0 hown hK hP hD hS 0 rfl rfl 6 (by decide) (hts (.fieldLink RX0 13 "SlateRows$Course" "slates" "I") (by decide +kernel)) (fun _ h9 => h9) rfl (by decide +kernel) rfl rfl (Nat.le_of_ble_eq_true rfl) dX0_comesToEnd_109 (fun H locs hP hD hS => ?_)
                  have hP : va_P (dC, dI) vwCl [(aC, .inr (0, [.ref aR, .int C_row, .ref aY, .int r_42.2.1, .int C_length, .int (C_place_25 + (R_inches r_42.1.toNatClampNeg)), .int (C_slates_26 + 1), .int C_asides_27])), (aR, .inr (3, [.ref aR_inches, .ref aR_many, .ref aR_worth, .ref aR_lengths, .ref aR_laid, .ref aR_slates, .int R_widths, .int R_rows, .int R_lap])), (aR_inches, .inl (cI, 4, .inl R_inches)), (aR_many, .inl (cI, 4, .inl r_42.2.2)), (aR_worth, .inl (cI, 4, .inl R_worth)), (aR_lengths, .inl (cI, 6, .inl R_lengths)), (aR_laid, .inl (cI, 6, .inl R_laid)), (aR_slates, .inl (cI, 72, .inl R_slates)), (aY, .inr (1, [.int Y_kind, .int Y_figure]))] H := hP
                  have hD : va_D A [(aC, .inr (0, [.ref aR, .int C_row, .ref aY, .int r_42.2.1, .int C_length, .int (C_place_25 + (R_inches r_42.1.toNatClampNeg)), .int (C_slates_26 + 1), .int C_asides_27])), (aR, .inr (3, [.ref aR_inches, .ref aR_many, .ref aR_worth, .ref aR_lengths, .ref aR_laid, .ref aR_slates, .int R_widths, .int R_rows, .int R_lap])), (aR_inches, .inl (cI, 4, .inl R_inches)), (aR_many, .inl (cI, 4, .inl r_42.2.2)), (aR_worth, .inl (cI, 4, .inl R_worth)), (aR_lengths, .inl (cI, 6, .inl R_lengths)), (aR_laid, .inl (cI, 6, .inl R_laid)), (aR_slates, .inl (cI, 72, .inl R_slates)), (aY, .inr (1, [.int Y_kind, .int Y_figure]))] := hD
                  refine lv_goto (tgt := 141) hx hb dX0_comesToEnd_112 (by decide) ?_
                  refine lv_iinc (v := (v1_23 + 1)) (lv' := [(1, .int (v1_23 + 1)), (2, .int r_42.1), (0, .ref aC)]) hx hb dX0_comesToEnd_141 hl (k := 2) rfl rfl (by decide) rfl (fun ls hl => ?_)
                  refine lv_goto (tgt := 2) hx hb dX0_comesToEnd_144 (by decide) ?_
                  exact ihn_22 (v1_23 + 1) r_42.2.1 (C_place_25 + (R_inches r_42.1.toNatClampNeg)) (C_slates_26 + 1) C_asides_27 r_42.2.2 ls _ _ h (lv_sub hl [2, 0] rfl) hP hD hS
              · have h := it_n c_41 h
                refine lv_aload_n hx hb dX0_comesToEnd_51 rfl (lv_at hl 1 rfl) ?_
                obtain ⟨r_46, hg, h⟩ := bd_some h
                refine mtVi (As := []) (rest := []) (ci := 0) (wr := []) (w2 := [(aC, .inr (0, [.ref aR, .int C_row, .ref aY, .int r_46.2.1, .int C_length, .int C_place_25, .int C_slates_26, .int C_asides_27])), (aR, .inr (3, [.ref aR_inches, .ref aR_many, .ref aR_worth, .ref aR_lengths, .ref aR_laid, .ref aR_slates, .int R_widths, .int R_rows, .int R_lap])), (aR_inches, .inl (cI, 4, .inl R_inches)), (aR_many, .inl (cI, 4, .inl r_46.2.2)), (aR_worth, .inl (cI, 4, .inl R_worth)), (aR_lengths, .inl (cI, 6, .inl R_lengths)), (aR_laid, .inl (cI, 6, .inl R_laid)), (aR_slates, .inl (cI, 72, .inl R_slates)), (aY, .inr (1, [.int Y_kind, .int Y_figure]))]) ⟨hx, hb, hml, hown, hts⟩ (k_X0_betterOfTwo l dC dI cI cZ cS N aC aR aR_inches aR_many aR_worth aR_lengths aR_laid aR_slates aY _ C_row C_seed_24 C_length C_place_25 C_slates_26 C_asides_27 R_inches R_many_28 R_worth R_lengths R_laid R_slates R_widths R_rows R_lap Y_kind Y_figure r_46 hg) (cwV 0 hts gX0_comesToEnd_X0_betterOfTwo rfl rfl rfl cd_X0_betterOfTwo ⟨Nat.le_of_ble_eq_true rfl, Nat.le_of_ble_eq_true rfl⟩) hP hD hK hS hA [0, 1, 2, 3, 4, 5, 6, 7, 8] [] [0, 1, 2, 3, 4, 5, 6, 7, 8] (by decide) (by decide) (by decide) (by decide) rfl rfl rfl rfl rfl rfl hl.1 rfl (Nat.le_of_ble_eq_true rfl) dX0_comesToEnd_52 ⟨Nat.zero_le _, Nat.zero_le _⟩ (fun H locs hP hD hS => ?_)
                refine lv_goto (tgt := 62) hx hb dX0_comesToEnd_55 (by decide) ?_
                refine lv_istore_n (lv' := [(2, .int r_46.1), (0, .ref aC), (1, .int v1_23)]) hx hb dX0_comesToEnd_62 rfl hl (by decide) rfl (fun ls hl => ?_)
                refine lv_goto (tgt := 79) hx hb dX0_comesToEnd_63 (by decide) ?_
                refine lv_iload_n hx hb dX0_comesToEnd_79 rfl (lv_at hl 0 rfl) ?_
                refine lv_iconst (v := (-1)) hx hb dX0_comesToEnd_80 (by decide) ?_
                refine lv_icmp_eq (tgt := 115) hx hb dX0_comesToEnd_81 (by decide) (fun c_47 => ?_) (fun c_47 => ?_)
                · have h := it_p c_47 h
                  refine lv_aload_n hx hb dX0_comesToEnd_115 rfl (lv_at hl 1 rfl) ?_
                  refine va_get (D := (dC, dI)) (ci := 0) (v := .int C_asides_27) (C := RX0) (T := TX0) (N := 8) hx hb hts (fun _ h => List.mem_cons_of_mem _ (List.mem_append_left _ (List.mem_append_left _ (List.mem_append_right _ h)))) hown hK hP 0 rfl rfl 7 (by decide) (hts (.fieldLink RX0 16 "SlateRows$Course" "asides" "I") (by decide +kernel)) (fun _ h9 => h9) rfl dX0_comesToEnd_116 ?_
                  refine lv_aload_n hx hb dX0_comesToEnd_119 rfl (lv_at hl 1 rfl) ?_
                  refine va_get (D := (dC, dI)) (ci := 0) (v := .ref aY) (C := RX0) (T := TX0) (N := 8) hx hb hts (fun _ h => List.mem_cons_of_mem _ (List.mem_append_left _ (List.mem_append_left _ (List.mem_append_right _ h)))) hown hK hP 0 rfl rfl 2 (by decide) (hts (.fieldLink RX0 26 "SlateRows$Course" "laying" "LSlateRows$Laying;") (by decide +kernel)) (fun _ h9 => h9) rfl dX0_comesToEnd_120 ?_
                  obtain ⟨r_48, hg, h⟩ := bd_some h
                  refine rdV (As := []) (rest := [.int C_asides_27]) (ci := 1) ⟨hx, hb, hml, hown, hts⟩ (k_X1_mostAsides l dC dI cI cZ cS N aY Y_kind Y_figure r_48 hg) (cwV 0 hts gX0_comesToEnd_X1_mostAsides rfl rfl rfl cd_X1_mostAsides ⟨Nat.le_of_ble_eq_true rfl, Nat.le_of_ble_eq_true rfl⟩) hP hD hK [8] (by decide) rfl rfl rfl rfl hl.1 rfl (Nat.le_of_ble_eq_true rfl) dX0_comesToEnd_123 ⟨Nat.zero_le _, Nat.zero_le _⟩ ?_
                  refine lv_icmp_lt (tgt := 131) hx hb dX0_comesToEnd_126 (by decide) (fun c_49 => ?_) (fun c_49 => ?_)
                  · have h := it_p c_49 h
                    refine lv_aload_n hx hb dX0_comesToEnd_131 rfl (lv_at hl 1 rfl) ?_
                    refine lv_dup hx hb dX0_comesToEnd_132 rfl ?_
                    refine va_get (D := (dC, dI)) (ci := 0) (v := .int C_asides_27) (C := RX0) (T := TX0) (N := 8) hx hb hts (fun _ h => List.mem_cons_of_mem _ (List.mem_append_left _ (List.mem_append_left _ (List.mem_append_right _ h)))) hown hK hP 0 rfl rfl 7 (by decide) (hts (.fieldLink RX0 16 "SlateRows$Course" "asides" "I") (by decide +kernel)) (fun _ h9 => h9) rfl dX0_comesToEnd_133 ?_
                    refine lv_iconst (v := 1) hx hb dX0_comesToEnd_136 (by decide) ?_
                    refine lv_iadd hx hb dX0_comesToEnd_137 ?_
                    refine va_put (D := (dC, dI)) (ci := 0) (v := .int (C_asides_27 + 1)) (ty := .int) (C := RX0) (T := TX0) (N := 8) hx hb hts (fun _ h => List.mem_cons_of_mem _ (List.mem_append_left _ (List.mem_append_left _ (List.mem_append_right _ h)))) tyX0 tyX0_ok nmX0 hown hK hP hD hS 0 rfl rfl 7 (by decide) (hts (.fieldLink RX0 16 "SlateRows$Course" "asides" "I") (by decide +kernel)) (fun _ h9 => h9) rfl (by decide +kernel) rfl rfl (Nat.le_of_ble_eq_true rfl) dX0_comesToEnd_138 (fun H locs hP hD hS => ?_)
                    have hP : va_P (dC, dI) vwCl [(aC, .inr (0, [.ref aR, .int C_row, .ref aY, .int r_46.2.1, .int C_length, .int C_place_25, .int C_slates_26, .int (C_asides_27 + 1)])), (aR, .inr (3, [.ref aR_inches, .ref aR_many, .ref aR_worth, .ref aR_lengths, .ref aR_laid, .ref aR_slates, .int R_widths, .int R_rows, .int R_lap])), (aR_inches, .inl (cI, 4, .inl R_inches)), (aR_many, .inl (cI, 4, .inl r_46.2.2)), (aR_worth, .inl (cI, 4, .inl R_worth)), (aR_lengths, .inl (cI, 6, .inl R_lengths)), (aR_laid, .inl (cI, 6, .inl R_laid)), (aR_slates, .inl (cI, 72, .inl R_slates)), (aY, .inr (1, [.int Y_kind, .int Y_figure]))] H := hP
                    have hD : va_D A [(aC, .inr (0, [.ref aR, .int C_row, .ref aY, .int r_46.2.1, .int C_length, .int C_place_25, .int C_slates_26, .int (C_asides_27 + 1)])), (aR, .inr (3, [.ref aR_inches, .ref aR_many, .ref aR_worth, .ref aR_lengths, .ref aR_laid, .ref aR_slates, .int R_widths, .int R_rows, .int R_lap])), (aR_inches, .inl (cI, 4, .inl R_inches)), (aR_many, .inl (cI, 4, .inl r_46.2.2)), (aR_worth, .inl (cI, 4, .inl R_worth)), (aR_lengths, .inl (cI, 6, .inl R_lengths)), (aR_laid, .inl (cI, 6, .inl R_laid)), (aR_slates, .inl (cI, 72, .inl R_slates)), (aY, .inr (1, [.int Y_kind, .int Y_figure]))] := hD
                    refine lv_iinc (v := (v1_23 + 1)) (lv' := [(1, .int (v1_23 + 1)), (2, .int r_46.1), (0, .ref aC)]) hx hb dX0_comesToEnd_141 hl (k := 2) rfl rfl (by decide) rfl (fun ls hl => ?_)
                    refine lv_goto (tgt := 2) hx hb dX0_comesToEnd_144 (by decide) ?_
                    exact ihn_22 (v1_23 + 1) r_46.2.1 C_place_25 C_slates_26 (C_asides_27 + 1) r_46.2.2 ls _ _ h (lv_sub hl [2, 0] rfl) hP hD hS
                  · have h := it_n c_49 h
                    refine lv_iconst (v := 0) hx hb dX0_comesToEnd_129 (by decide) ?_
                    have h := Option.some.inj h
                    exact W.zret (v := b2i false) hx hb hr (b2i_nar _) (fun t ht hW => ⟨⟨_, (), rfl, by rw [← h], by (try rw [← h]); rw [ht]; exact hP, va_K.moved hW.alike hK, by (try rw [← h]); exact hD⟩, hS.F ht⟩) hS.2.2 dX0_comesToEnd_130
                · have h := it_n c_47 h
                  refine lv_aload_n hx hb dX0_comesToEnd_84 rfl (lv_at hl 1 rfl) ?_
                  refine lv_dup hx hb dX0_comesToEnd_85 rfl ?_
                  refine va_get (D := (dC, dI)) (ci := 0) (v := .int C_place_25) (C := RX0) (T := TX0) (N := 8) hx hb hts (fun _ h => List.mem_cons_of_mem _ (List.mem_append_left _ (List.mem_append_left _ (List.mem_append_right _ h)))) hown hK hP 0 rfl rfl 5 (by decide) (hts (.fieldLink RX0 7 "SlateRows$Course" "place" "I") (by decide +kernel)) (fun _ h9 => h9) rfl dX0_comesToEnd_86 ?_
                  refine lv_aload_n hx hb dX0_comesToEnd_89 rfl (lv_at hl 1 rfl) ?_
                  refine va_get (D := (dC, dI)) (ci := 0) (v := .ref aR) (C := RX0) (T := TX0) (N := 8) hx hb hts (fun _ h => List.mem_cons_of_mem _ (List.mem_append_left _ (List.mem_append_left _ (List.mem_append_right _ h)))) hown hK hP 0 rfl rfl 0 (by decide) (hts (.fieldLink RX0 19 "SlateRows$Course" "roof" "LSlateRows$Roof;") (by decide +kernel)) (fun _ h9 => h9) rfl dX0_comesToEnd_90 ?_
                  refine va_get (D := (dC, dI)) (ci := 3) (v := .ref aR_inches) (C := RX3) (T := TX3) (N := 9) hx hb hts (fun _ h => List.mem_cons_of_mem _ (List.mem_append_left _ (List.mem_append_right _ h))) hown hK hP 1 rfl rfl 0 (by decide) (hts (.fieldLink RX0 64 "SlateRows$Roof" "inches" "[I") (by decide +kernel)) (fun _ h9 => h9) rfl dX0_comesToEnd_93 ?_
                  refine lv_iload_n hx hb dX0_comesToEnd_96 rfl (lv_at hl 0 rfl) ?_
                  obtain ⟨hi, h⟩ := ck_some h
                  refine va_iald hx hb hK hP 2 0 rfl rfl (gi_in hi) dX0_comesToEnd_97 ?_
                  refine lv_iadd hx hb dX0_comesToEnd_98 ?_
                  refine va_put (D := (dC, dI)) (ci := 0) (v := .int (C_place_25 + (R_inches r_46.1.toNatClampNeg))) (ty := .int) (C := RX0) (T := TX0) (N := 8) hx hb hts (fun _ h => List.mem_cons_of_mem _ (List.mem_append_left _ (List.mem_append_left _ (List.mem_append_right _ h)))) tyX0 tyX0_ok nmX0 hown hK hP hD hS 0 rfl rfl 5 (by decide) (hts (.fieldLink RX0 7 "SlateRows$Course" "place" "I") (by decide +kernel)) (fun _ h9 => h9) rfl (by decide +kernel) rfl rfl (Nat.le_of_ble_eq_true rfl) dX0_comesToEnd_99 (fun H locs hP hD hS => ?_)
                  have hP : va_P (dC, dI) vwCl [(aC, .inr (0, [.ref aR, .int C_row, .ref aY, .int r_46.2.1, .int C_length, .int (C_place_25 + (R_inches r_46.1.toNatClampNeg)), .int C_slates_26, .int C_asides_27])), (aR, .inr (3, [.ref aR_inches, .ref aR_many, .ref aR_worth, .ref aR_lengths, .ref aR_laid, .ref aR_slates, .int R_widths, .int R_rows, .int R_lap])), (aR_inches, .inl (cI, 4, .inl R_inches)), (aR_many, .inl (cI, 4, .inl r_46.2.2)), (aR_worth, .inl (cI, 4, .inl R_worth)), (aR_lengths, .inl (cI, 6, .inl R_lengths)), (aR_laid, .inl (cI, 6, .inl R_laid)), (aR_slates, .inl (cI, 72, .inl R_slates)), (aY, .inr (1, [.int Y_kind, .int Y_figure]))] H := hP
                  have hD : va_D A [(aC, .inr (0, [.ref aR, .int C_row, .ref aY, .int r_46.2.1, .int C_length, .int (C_place_25 + (R_inches r_46.1.toNatClampNeg)), .int C_slates_26, .int C_asides_27])), (aR, .inr (3, [.ref aR_inches, .ref aR_many, .ref aR_worth, .ref aR_lengths, .ref aR_laid, .ref aR_slates, .int R_widths, .int R_rows, .int R_lap])), (aR_inches, .inl (cI, 4, .inl R_inches)), (aR_many, .inl (cI, 4, .inl r_46.2.2)), (aR_worth, .inl (cI, 4, .inl R_worth)), (aR_lengths, .inl (cI, 6, .inl R_lengths)), (aR_laid, .inl (cI, 6, .inl R_laid)), (aR_slates, .inl (cI, 72, .inl R_slates)), (aY, .inr (1, [.int Y_kind, .int Y_figure]))] := hD
                  refine lv_aload_n hx hb dX0_comesToEnd_102 rfl (lv_at hl 1 rfl) ?_
                  refine lv_dup hx hb dX0_comesToEnd_103 rfl ?_
                  refine va_get (D := (dC, dI)) (ci := 0) (v := .int C_slates_26) (C := RX0) (T := TX0) (N := 8) hx hb hts (fun _ h => List.mem_cons_of_mem _ (List.mem_append_left _ (List.mem_append_left _ (List.mem_append_right _ h)))) hown hK hP 0 rfl rfl 6 (by decide) (hts (.fieldLink RX0 13 "SlateRows$Course" "slates" "I") (by decide +kernel)) (fun _ h9 => h9) rfl dX0_comesToEnd_104 ?_
                  refine lv_iconst (v := 1) hx hb dX0_comesToEnd_107 (by decide) ?_
                  refine lv_iadd hx hb dX0_comesToEnd_108 ?_
                  refine va_put (D := (dC, dI)) (ci := 0) (v := .int (C_slates_26 + 1)) (ty := .int) (C := RX0) (T := TX0) (N := 8) hx hb hts (fun _ h => List.mem_cons_of_mem _ (List.mem_append_left _ (List.mem_append_left _ (List.mem_append_right _ h)))) tyX0 tyX0_ok nmX0 hown hK hP hD hS 0 rfl rfl 6 (by decide) (hts (.fieldLink RX0 13 "SlateRows$Course" "slates" "I") (by decide +kernel)) (fun _ h9 => h9) rfl (by decide +kernel) rfl rfl (Nat.le_of_ble_eq_true rfl) dX0_comesToEnd_109 (fun H locs hP hD hS => ?_)
                  have hP : va_P (dC, dI) vwCl [(aC, .inr (0, [.ref aR, .int C_row, .ref aY, .int r_46.2.1, .int C_length, .int (C_place_25 + (R_inches r_46.1.toNatClampNeg)), .int (C_slates_26 + 1), .int C_asides_27])), (aR, .inr (3, [.ref aR_inches, .ref aR_many, .ref aR_worth, .ref aR_lengths, .ref aR_laid, .ref aR_slates, .int R_widths, .int R_rows, .int R_lap])), (aR_inches, .inl (cI, 4, .inl R_inches)), (aR_many, .inl (cI, 4, .inl r_46.2.2)), (aR_worth, .inl (cI, 4, .inl R_worth)), (aR_lengths, .inl (cI, 6, .inl R_lengths)), (aR_laid, .inl (cI, 6, .inl R_laid)), (aR_slates, .inl (cI, 72, .inl R_slates)), (aY, .inr (1, [.int Y_kind, .int Y_figure]))] H := hP
                  have hD : va_D A [(aC, .inr (0, [.ref aR, .int C_row, .ref aY, .int r_46.2.1, .int C_length, .int (C_place_25 + (R_inches r_46.1.toNatClampNeg)), .int (C_slates_26 + 1), .int C_asides_27])), (aR, .inr (3, [.ref aR_inches, .ref aR_many, .ref aR_worth, .ref aR_lengths, .ref aR_laid, .ref aR_slates, .int R_widths, .int R_rows, .int R_lap])), (aR_inches, .inl (cI, 4, .inl R_inches)), (aR_many, .inl (cI, 4, .inl r_46.2.2)), (aR_worth, .inl (cI, 4, .inl R_worth)), (aR_lengths, .inl (cI, 6, .inl R_lengths)), (aR_laid, .inl (cI, 6, .inl R_laid)), (aR_slates, .inl (cI, 72, .inl R_slates)), (aY, .inr (1, [.int Y_kind, .int Y_figure]))] := hD
                  refine lv_goto (tgt := 141) hx hb dX0_comesToEnd_112 (by decide) ?_
                  refine lv_iinc (v := (v1_23 + 1)) (lv' := [(1, .int (v1_23 + 1)), (2, .int r_46.1), (0, .ref aC)]) hx hb dX0_comesToEnd_141 hl (k := 2) rfl rfl (by decide) rfl (fun ls hl => ?_)
                  refine lv_goto (tgt := 2) hx hb dX0_comesToEnd_144 (by decide) ?_
                  exact ihn_22 (v1_23 + 1) r_46.2.1 (C_place_25 + (R_inches r_46.1.toNatClampNeg)) (C_slates_26 + 1) C_asides_27 r_46.2.2 ls _ _ h (lv_sub hl [2, 0] rfl) hP hD hS
          · have h := it_p c_34 h
            refine lv_iconst (v := 0) hx hb dX0_comesToEnd_29 (by decide) ?_
            have h := Option.some.inj h
            exact W.zret (v := b2i false) hx hb hr (b2i_nar _) (fun t ht hW => ⟨⟨_, (), rfl, by rw [← h], by (try rw [← h]); rw [ht]; exact hP, va_K.moved hW.alike hK, by (try rw [← h]); exact hD⟩, hS.F ht⟩) hS.2.2 dX0_comesToEnd_30
  exact L2_21 N 0 C_seed C_place C_slates C_asides R_many ls _ _ h (lv_sub hl [1, 0] rfl) hP hD hS
