theorem cd_X1_effort : yX1_effort.cls = RX1 ∧ yX1_effort.cls ≠ "java/lang/invoke/MethodHandle" ∧ yX1_effort.cls ≠ "java/lang/invoke/VarHandle" ∧ (parseMethodDescriptor yX1_effort.desc).map (fun d => d.parameters.length) = some 0 := by decide +kernel
theorem cd_X1_rank : yX1_rank.cls = RX1 ∧ yX1_rank.cls ≠ "java/lang/invoke/MethodHandle" ∧ yX1_rank.cls ≠ "java/lang/invoke/VarHandle" ∧ (parseMethodDescriptor yX1_rank.desc).map (fun d => d.parameters.length) = some 2 := by decide +kernel
theorem cd_X1_isHanded : yX1_isHanded.cls = RX1 ∧ yX1_isHanded.cls ≠ "java/lang/invoke/MethodHandle" ∧ yX1_isHanded.cls ≠ "java/lang/invoke/VarHandle" ∧ (parseMethodDescriptor yX1_isHanded.desc).map (fun d => d.parameters.length) = some 0 := by decide +kernel
theorem cd_X1_isMany : yX1_isMany.cls = RX1 ∧ yX1_isMany.cls ≠ "java/lang/invoke/MethodHandle" ∧ yX1_isMany.cls ≠ "java/lang/invoke/VarHandle" ∧ (parseMethodDescriptor yX1_isMany.desc).map (fun d => d.parameters.length) = some 0 := by decide +kernel
theorem cd_X1_mostAsides : yX1_mostAsides.cls = RX1 ∧ yX1_mostAsides.cls ≠ "java/lang/invoke/MethodHandle" ∧ yX1_mostAsides.cls ≠ "java/lang/invoke/VarHandle" ∧ (parseMethodDescriptor yX1_mostAsides.desc).map (fun d => d.parameters.length) = some 0 := by decide +kernel
theorem cd_X4_hasPlace : yX4_hasPlace.cls = RX4 ∧ yX4_hasPlace.cls ≠ "java/lang/invoke/MethodHandle" ∧ yX4_hasPlace.cls ≠ "java/lang/invoke/VarHandle" ∧ (parseMethodDescriptor yX4_hasPlace.desc).map (fun d => d.parameters.length) = some 1 := by decide +kernel
theorem cd_X4_hasStretch : yX4_hasStretch.cls = RX4 ∧ yX4_hasStretch.cls ≠ "java/lang/invoke/MethodHandle" ∧ yX4_hasStretch.cls ≠ "java/lang/invoke/VarHandle" ∧ (parseMethodDescriptor yX4_hasStretch.desc).map (fun d => d.parameters.length) = some 2 := by decide +kernel
theorem cd_X4_narrowed : yX4_narrowed.cls = RX4 ∧ yX4_narrowed.cls ≠ "java/lang/invoke/MethodHandle" ∧ yX4_narrowed.cls ≠ "java/lang/invoke/VarHandle" ∧ (parseMethodDescriptor yX4_narrowed.desc).map (fun d => d.parameters.length) = some 1 := by decide +kernel
theorem cd_X4_holdNothing : yX4_holdNothing.cls = RX4 ∧ yX4_holdNothing.cls ≠ "java/lang/invoke/MethodHandle" ∧ yX4_holdNothing.cls ≠ "java/lang/invoke/VarHandle" ∧ (parseMethodDescriptor yX4_holdNothing.desc).map (fun d => d.parameters.length) = some 0 := by decide +kernel
theorem cd_X4_holdNumbers : yX4_holdNumbers.cls = RX4 ∧ yX4_holdNumbers.cls ≠ "java/lang/invoke/MethodHandle" ∧ yX4_holdNumbers.cls ≠ "java/lang/invoke/VarHandle" ∧ (parseMethodDescriptor yX4_holdNumbers.desc).map (fun d => d.parameters.length) = some 2 := by decide +kernel
theorem cd_X4_holdLaying : yX4_holdLaying.cls = RX4 ∧ yX4_holdLaying.cls ≠ "java/lang/invoke/MethodHandle" ∧ yX4_holdLaying.cls ≠ "java/lang/invoke/VarHandle" ∧ (parseMethodDescriptor yX4_holdLaying.desc).map (fun d => d.parameters.length) = some 1 := by decide +kernel
theorem cd_X2_signHere : yX2_signHere.cls = RX2 ∧ yX2_signHere.cls ≠ "java/lang/invoke/MethodHandle" ∧ yX2_signHere.cls ≠ "java/lang/invoke/VarHandle" ∧ (parseMethodDescriptor yX2_signHere.desc).map (fun d => d.parameters.length) = some 0 := by decide +kernel
theorem cd_X2_isDigitHere : yX2_isDigitHere.cls = RX2 ∧ yX2_isDigitHere.cls ≠ "java/lang/invoke/MethodHandle" ∧ yX2_isDigitHere.cls ≠ "java/lang/invoke/VarHandle" ∧ (parseMethodDescriptor yX2_isDigitHere.desc).map (fun d => d.parameters.length) = some 0 := by decide +kernel
theorem cd_X2_readSign : yX2_readSign.cls = RX2 ∧ yX2_readSign.cls ≠ "java/lang/invoke/MethodHandle" ∧ yX2_readSign.cls ≠ "java/lang/invoke/VarHandle" ∧ (parseMethodDescriptor yX2_readSign.desc).map (fun d => d.parameters.length) = some 1 := by decide +kernel
theorem cd_X2_readNumber : yX2_readNumber.cls = RX2 ∧ yX2_readNumber.cls ≠ "java/lang/invoke/MethodHandle" ∧ yX2_readNumber.cls ≠ "java/lang/invoke/VarHandle" ∧ (parseMethodDescriptor yX2_readNumber.desc).map (fun d => d.parameters.length) = some 1 := by decide +kernel
theorem cd_X2_readStatement : yX2_readStatement.cls = RX2 ∧ yX2_readStatement.cls ≠ "java/lang/invoke/MethodHandle" ∧ yX2_readStatement.cls ≠ "java/lang/invoke/VarHandle" ∧ (parseMethodDescriptor yX2_readStatement.desc).map (fun d => d.parameters.length) = some 0 := by decide +kernel
theorem cd_X2_carryOut : yX2_carryOut.cls = RX2 ∧ yX2_carryOut.cls ≠ "java/lang/invoke/MethodHandle" ∧ yX2_carryOut.cls ≠ "java/lang/invoke/VarHandle" ∧ (parseMethodDescriptor yX2_carryOut.desc).map (fun d => d.parameters.length) = some 0 := by decide +kernel
theorem cd_X2_read : yX2_read.cls = RX2 ∧ yX2_read.cls ≠ "java/lang/invoke/MethodHandle" ∧ yX2_read.cls ≠ "java/lang/invoke/VarHandle" ∧ (parseMethodDescriptor yX2_read.desc).map (fun d => d.parameters.length) = some 0 := by decide +kernel
def f_X1_effort (N : Nat) (Y_kind : Int32) (Y_figure : Int32) : Option (Int32) :=
  if Y_kind = 1 then (some ((2 + Y_figure))) else (if Y_kind = 2 then (some (6)) else (if Y_kind = 3 then (some (((2 + Y_figure) + 4))) else (if Y_kind = 4 then (some ((2 - Y_figure))) else (if Y_kind = 5 then (some ((6 + Y_figure))) else (if Y_kind = 6 then (some ((((2 + Y_figure) + 4) / 2))) else (some (2)))))))
set_option maxHeartbeats 4000000 in
set_option maxRecDepth 100000 in
theorem k_X1_effort (l : Launch) (dC : Nat → ClassId) (dI : Nat → Nat → Nat) (cI cZ cS : ClassId) (N : Nat) (aY : Nat) (Y_kind : Int32) (Y_figure : Int32) (res : Int32) (h : f_X1_effort N Y_kind Y_figure = some res) : Met l yX1_effort wsX1_effort ({ frames := 0, cells := 0, slots := 0, locals := 0 }) (va_Pc [.ref aY] (wd (dC, dI) cI cZ cS [(aY, .inr (1, [.int Y_kind, .int Y_figure]))])) (vp_Si (fun r => r = res)) 0 0 (fun _ => False) := by
  refine Met.ofW (cc := cX1_effort) (maxL := 1) (ret := (some .int)) (by decide) rfl ?_
  intro p e s m args below meth c s₁ B hml hv
  obtain ⟨rfl, hP, hK, hD⟩ := hv
  have hx := B.exec
  have hb := B.bytes
  have hr := B.returns
  have hts := atoms_spec (ws := wsX1_effort) B.pre
  have hown : s.vm.findClass RX1 = some m.cls := findClass_of_methodNamed B.named
  have hlocks := B.notSynchronized
  have hl := lv_entry ([.ref aY]) (n := 1) (Nat.le_of_ble_eq_true rfl)
  rw [lg_entry_eq]
  generalize (lg_sl ([.ref aY]) ++ List.replicate (1 - (lg_sl ([.ref aY])).length) Slot.unset).toArray = ls at hl ⊢
  have hl : lv_has ls 1 [(0, .ref aY)] := hl
  unfold f_X1_effort at h
  refine lv_aload_n hx hb dX1_effort_0 rfl (lv_at hl 0 rfl) ?_
  refine va_get (D := (dC, dI)) (ci := 1) (v := .int Y_kind) (C := RX1) (T := TX1) (N := 2) hx hb hts (fun _ h => List.mem_cons_of_mem _ (List.mem_append_right _ h)) hown hK hP 0 rfl rfl 0 (by decide) (hts (.fieldLink RX1 9 "SlateRows$Laying" "kind" "I") (by decide +kernel)) (fun _ h9 => h9) rfl dX1_effort_1 ?_
  by_cases c_1 : Y_kind = 1
  · have h := it_p c_1 h
    refine lv_tableIn (tgt := 44) hx hb dX1_effort_4 (by rw [c_1]; decide) (by rw [c_1]; decide) (by rw [c_1]; rfl) (by decide) ?_
    refine lv_iconst (v := 2) hx hb dX1_effort_44 (by decide) ?_
    refine lv_aload_n hx hb dX1_effort_45 rfl (lv_at hl 0 rfl) ?_
    refine va_get (D := (dC, dI)) (ci := 1) (v := .int Y_figure) (C := RX1) (T := TX1) (N := 2) hx hb hts (fun _ h => List.mem_cons_of_mem _ (List.mem_append_right _ h)) hown hK hP 0 rfl rfl 1 (by decide) (hts (.fieldLink RX1 15 "SlateRows$Laying" "figure" "I") (by decide +kernel)) (fun _ h9 => h9) rfl dX1_effort_46 ?_
    refine lv_iadd hx hb dX1_effort_49 ?_
    exact W.iret hx hb hr (fun t ht hW => ⟨_, rfl, Option.some.inj h, ht⟩) (fun q hq => by cases hq) dX1_effort_50
  have h := it_n c_1 h
  by_cases c_2 : Y_kind = 2
  · have h := it_p c_2 h
    refine lv_tableIn (tgt := 51) hx hb dX1_effort_4 (by rw [c_2]; decide) (by rw [c_2]; decide) (by rw [c_2]; rfl) (by decide) ?_
    refine lv_bipush (v := 6) hx hb dX1_effort_51 (by decide) ?_
    exact W.iret hx hb hr (fun t ht hW => ⟨_, rfl, Option.some.inj h, ht⟩) (fun q hq => by cases hq) dX1_effort_53
  have h := it_n c_2 h
  by_cases c_3 : Y_kind = 3
  · have h := it_p c_3 h
    refine lv_tableIn (tgt := 54) hx hb dX1_effort_4 (by rw [c_3]; decide) (by rw [c_3]; decide) (by rw [c_3]; rfl) (by decide) ?_
    refine lv_iconst (v := 2) hx hb dX1_effort_54 (by decide) ?_
    refine lv_aload_n hx hb dX1_effort_55 rfl (lv_at hl 0 rfl) ?_
    refine va_get (D := (dC, dI)) (ci := 1) (v := .int Y_figure) (C := RX1) (T := TX1) (N := 2) hx hb hts (fun _ h => List.mem_cons_of_mem _ (List.mem_append_right _ h)) hown hK hP 0 rfl rfl 1 (by decide) (hts (.fieldLink RX1 15 "SlateRows$Laying" "figure" "I") (by decide +kernel)) (fun _ h9 => h9) rfl dX1_effort_56 ?_
    refine lv_iadd hx hb dX1_effort_59 ?_
    refine lv_iconst (v := 4) hx hb dX1_effort_60 (by decide) ?_
    refine lv_iadd hx hb dX1_effort_61 ?_
    exact W.iret hx hb hr (fun t ht hW => ⟨_, rfl, Option.some.inj h, ht⟩) (fun q hq => by cases hq) dX1_effort_62
  have h := it_n c_3 h
  by_cases c_4 : Y_kind = 4
  · have h := it_p c_4 h
    refine lv_tableIn (tgt := 63) hx hb dX1_effort_4 (by rw [c_4]; decide) (by rw [c_4]; decide) (by rw [c_4]; rfl) (by decide) ?_
    refine lv_iconst (v := 2) hx hb dX1_effort_63 (by decide) ?_
    refine lv_aload_n hx hb dX1_effort_64 rfl (lv_at hl 0 rfl) ?_
    refine va_get (D := (dC, dI)) (ci := 1) (v := .int Y_figure) (C := RX1) (T := TX1) (N := 2) hx hb hts (fun _ h => List.mem_cons_of_mem _ (List.mem_append_right _ h)) hown hK hP 0 rfl rfl 1 (by decide) (hts (.fieldLink RX1 15 "SlateRows$Laying" "figure" "I") (by decide +kernel)) (fun _ h9 => h9) rfl dX1_effort_65 ?_
    refine lv_isub hx hb dX1_effort_68 ?_
    exact W.iret hx hb hr (fun t ht hW => ⟨_, rfl, Option.some.inj h, ht⟩) (fun q hq => by cases hq) dX1_effort_69
  have h := it_n c_4 h
  by_cases c_5 : Y_kind = 5
  · have h := it_p c_5 h
    refine lv_tableIn (tgt := 70) hx hb dX1_effort_4 (by rw [c_5]; decide) (by rw [c_5]; decide) (by rw [c_5]; rfl) (by decide) ?_
    refine lv_bipush (v := 6) hx hb dX1_effort_70 (by decide) ?_
    refine lv_aload_n hx hb dX1_effort_72 rfl (lv_at hl 0 rfl) ?_
    refine va_get (D := (dC, dI)) (ci := 1) (v := .int Y_figure) (C := RX1) (T := TX1) (N := 2) hx hb hts (fun _ h => List.mem_cons_of_mem _ (List.mem_append_right _ h)) hown hK hP 0 rfl rfl 1 (by decide) (hts (.fieldLink RX1 15 "SlateRows$Laying" "figure" "I") (by decide +kernel)) (fun _ h9 => h9) rfl dX1_effort_73 ?_
    refine lv_iadd hx hb dX1_effort_76 ?_
    exact W.iret hx hb hr (fun t ht hW => ⟨_, rfl, Option.some.inj h, ht⟩) (fun q hq => by cases hq) dX1_effort_77
  have h := it_n c_5 h
  by_cases c_6 : Y_kind = 6
  · have h := it_p c_6 h
    refine lv_tableIn (tgt := 78) hx hb dX1_effort_4 (by rw [c_6]; decide) (by rw [c_6]; decide) (by rw [c_6]; rfl) (by decide) ?_
    refine lv_iconst (v := 2) hx hb dX1_effort_78 (by decide) ?_
    refine lv_aload_n hx hb dX1_effort_79 rfl (lv_at hl 0 rfl) ?_
    refine va_get (D := (dC, dI)) (ci := 1) (v := .int Y_figure) (C := RX1) (T := TX1) (N := 2) hx hb hts (fun _ h => List.mem_cons_of_mem _ (List.mem_append_right _ h)) hown hK hP 0 rfl rfl 1 (by decide) (hts (.fieldLink RX1 15 "SlateRows$Laying" "figure" "I") (by decide +kernel)) (fun _ h9 => h9) rfl dX1_effort_80 ?_
    refine lv_iadd hx hb dX1_effort_83 ?_
    refine lv_iconst (v := 4) hx hb dX1_effort_84 (by decide) ?_
    refine lv_iadd hx hb dX1_effort_85 ?_
    refine lv_iconst (v := 2) hx hb dX1_effort_86 (by decide) ?_
    refine lv_idiv hx hb dX1_effort_87 (by decide) ?_
    exact W.iret hx hb hr (fun t ht hW => ⟨_, rfl, Option.some.inj h, ht⟩) (fun q hq => by cases hq) dX1_effort_88
  have h := it_n c_6 h
  refine lv_tableOut (tgt := 89) hx hb dX1_effort_4 (by have qc_1 := lv_neT (a := 1) c_1 rfl; have qc_2 := lv_neT (a := 2) c_2 rfl; have qc_3 := lv_neT (a := 3) c_3 rfl; have qc_4 := lv_neT (a := 4) c_4 rfl; have qc_5 := lv_neT (a := 5) c_5 rfl; have qc_6 := lv_neT (a := 6) c_6 rfl; omega) (by decide) ?_
  refine lv_iconst (v := 2) hx hb dX1_effort_89 (by decide) ?_
  exact W.iret hx hb hr (fun t ht hW => ⟨_, rfl, Option.some.inj h, ht⟩) (fun q hq => by cases hq) dX1_effort_90
def f_X1_rank (N : Nat) (Y_kind : Int32) (Y_figure : Int32) (x1 : Int32) (x2 : Int32) : Option (Int32) :=
  if Y_kind = 1 then (some ((-x2))) else (if Y_kind = 2 then (some (x1)) else (if Y_kind = 3 then (some (x2)) else (if Y_kind = 4 then (some ((-x2))) else (if Y_kind = 5 then (some (x1)) else (if Y_kind = 6 then (some ((ab (x1 - (Y_figure - Y_figure / 4 * 4))))) else (some (x1)))))))
set_option maxHeartbeats 4000000 in
set_option maxRecDepth 100000 in
theorem k_X1_rank (l : Launch) (dC : Nat → ClassId) (dI : Nat → Nat → Nat) (cI cZ cS : ClassId) (N : Nat) (aY : Nat) (Y_kind : Int32) (Y_figure : Int32) (x1 : Int32) (x2 : Int32) (res : Int32) (h : f_X1_rank N Y_kind Y_figure x1 x2 = some res) : Met l yX1_rank wsX1_rank ({ frames := 1, cells := 0, slots := 0, locals := 21 }) (va_Pc [.ref aY, .int x1, .int x2] (wd (dC, dI) cI cZ cS [(aY, .inr (1, [.int Y_kind, .int Y_figure]))])) (vp_Si (fun r => r = res)) 0 0 (fun _ => False) := by
  refine Met.ofW (cc := cX1_rank) (maxL := 3) (ret := (some .int)) (by decide) rfl ?_
  intro p e s m args below meth c s₁ B hml hv
  obtain ⟨rfl, hP, hK, hD⟩ := hv
  have hx := B.exec
  have hb := B.bytes
  have hr := B.returns
  have hts := atoms_spec (ws := wsX1_rank) B.pre
  have hown : s.vm.findClass RX1 = some m.cls := findClass_of_methodNamed B.named
  have hlocks := B.notSynchronized
  have hl := lv_entry ([.ref aY, .int x1, .int x2]) (n := 3) (Nat.le_of_ble_eq_true rfl)
  rw [lg_entry_eq]
  generalize (lg_sl ([.ref aY, .int x1, .int x2]) ++ List.replicate (3 - (lg_sl ([.ref aY, .int x1, .int x2])).length) Slot.unset).toArray = ls at hl ⊢
  have hl : lv_has ls 3 [(0, .ref aY), (1, .int x1), (2, .int x2)] := hl
  unfold f_X1_rank at h
  refine lv_aload_n hx hb dX1_rank_0 rfl (lv_at hl 0 rfl) ?_
  refine va_get (D := (dC, dI)) (ci := 1) (v := .int Y_kind) (C := RX1) (T := TX1) (N := 2) hx hb hts (fun _ h => List.mem_cons_of_mem _ (List.mem_append_right _ h)) hown hK hP 0 rfl rfl 0 (by decide) (hts (.fieldLink RX1 9 "SlateRows$Laying" "kind" "I") (by decide +kernel)) (fun _ h9 => h9) rfl dX1_rank_1 ?_
  by_cases c_1 : Y_kind = 1
  · have h := it_p c_1 h
    refine lv_tableIn (tgt := 44) hx hb dX1_rank_4 (by rw [c_1]; decide) (by rw [c_1]; decide) (by rw [c_1]; rfl) (by decide) ?_
    refine lv_iload_n hx hb dX1_rank_44 rfl (lv_at hl 2 rfl) ?_
    refine lv_ineg hx hb dX1_rank_45 ?_
    exact W.iret hx hb hr (fun t ht hW => ⟨_, rfl, Option.some.inj h, ht⟩) (fun q hq => by cases hq) dX1_rank_46
  have h := it_n c_1 h
  by_cases c_2 : Y_kind = 2
  · have h := it_p c_2 h
    refine lv_tableIn (tgt := 61) hx hb dX1_rank_4 (by rw [c_2]; decide) (by rw [c_2]; decide) (by rw [c_2]; rfl) (by decide) ?_
    refine lv_iload_n hx hb dX1_rank_61 rfl (lv_at hl 1 rfl) ?_
    exact W.iret hx hb hr (fun t ht hW => ⟨_, rfl, Option.some.inj h, ht⟩) (fun q hq => by cases hq) dX1_rank_62
  have h := it_n c_2 h
  by_cases c_3 : Y_kind = 3
  · have h := it_p c_3 h
    refine lv_tableIn (tgt := 47) hx hb dX1_rank_4 (by rw [c_3]; decide) (by rw [c_3]; decide) (by rw [c_3]; rfl) (by decide) ?_
    refine lv_iload_n hx hb dX1_rank_47 rfl (lv_at hl 2 rfl) ?_
    exact W.iret hx hb hr (fun t ht hW => ⟨_, rfl, Option.some.inj h, ht⟩) (fun q hq => by cases hq) dX1_rank_48
  have h := it_n c_3 h
  by_cases c_4 : Y_kind = 4
  · have h := it_p c_4 h
    refine lv_tableIn (tgt := 44) hx hb dX1_rank_4 (by rw [c_4]; decide) (by rw [c_4]; decide) (by rw [c_4]; rfl) (by decide) ?_
    refine lv_iload_n hx hb dX1_rank_44 rfl (lv_at hl 2 rfl) ?_
    refine lv_ineg hx hb dX1_rank_45 ?_
    exact W.iret hx hb hr (fun t ht hW => ⟨_, rfl, Option.some.inj h, ht⟩) (fun q hq => by cases hq) dX1_rank_46
  have h := it_n c_4 h
  by_cases c_5 : Y_kind = 5
  · have h := it_p c_5 h
    refine lv_tableIn (tgt := 61) hx hb dX1_rank_4 (by rw [c_5]; decide) (by rw [c_5]; decide) (by rw [c_5]; rfl) (by decide) ?_
    refine lv_iload_n hx hb dX1_rank_61 rfl (lv_at hl 1 rfl) ?_
    exact W.iret hx hb hr (fun t ht hW => ⟨_, rfl, Option.some.inj h, ht⟩) (fun q hq => by cases hq) dX1_rank_62
  have h := it_n c_5 h
  by_cases c_6 : Y_kind = 6
  · have h := it_p c_6 h
    refine lv_tableIn (tgt := 49) hx hb dX1_rank_4 (by rw [c_6]; decide) (by rw [c_6]; decide) (by rw [c_6]; rfl) (by decide) ?_
    refine lv_iload_n hx hb dX1_rank_49 rfl (lv_at hl 1 rfl) ?_
    refine lv_aload_n hx hb dX1_rank_50 rfl (lv_at hl 0 rfl) ?_
    refine va_get (D := (dC, dI)) (ci := 1) (v := .int Y_figure) (C := RX1) (T := TX1) (N := 2) hx hb hts (fun _ h => List.mem_cons_of_mem _ (List.mem_append_right _ h)) hown hK hP 0 rfl rfl 1 (by decide) (hts (.fieldLink RX1 15 "SlateRows$Laying" "figure" "I") (by decide +kernel)) (fun _ h9 => h9) rfl dX1_rank_51 ?_
    refine lv_iconst (v := 4) hx hb dX1_rank_54 (by decide) ?_
    refine lv_irem hx hb dX1_rank_55 (by decide) ?_
    refine lv_isub hx hb dX1_rank_56 ?_
    refine va_mabs hx hb (hml.trans hl.1.symm) hown (hts (.methodLink RX1 18 Lib.Math.abs.name) (by decide +kernel)) (hts (.static Lib.Math.abs.name) (by decide +kernel)) (hts (.initialized "java/lang/Math") (by decide +kernel)) (hts (.code Lib.Math.abs.name Lib.Math.abs.code 1 (some .int)) (by decide +kernel)) (Nat.le_of_ble_eq_true rfl) (Nat.le_of_ble_eq_true rfl) (Nat.zero_le _) (Nat.zero_le _) dX1_rank_57 ?_
    show W _ _ _ _ _ _ _ _ _ _ _ _ _ _ _ (F0 _ _ _ [.int (ab (x1 - (Y_figure - Y_figure / 4 * 4)))])
    exact W.iret hx hb hr (fun t ht hW => ⟨_, rfl, Option.some.inj h, ht⟩) (fun q hq => by cases hq) dX1_rank_60
  have h := it_n c_6 h
  refine lv_tableOut (tgt := 61) hx hb dX1_rank_4 (by have qc_1 := lv_neT (a := 1) c_1 rfl; have qc_2 := lv_neT (a := 2) c_2 rfl; have qc_3 := lv_neT (a := 3) c_3 rfl; have qc_4 := lv_neT (a := 4) c_4 rfl; have qc_5 := lv_neT (a := 5) c_5 rfl; have qc_6 := lv_neT (a := 6) c_6 rfl; omega) (by decide) ?_
  refine lv_iload_n hx hb dX1_rank_61 rfl (lv_at hl 1 rfl) ?_
  exact W.iret hx hb hr (fun t ht hW => ⟨_, rfl, Option.some.inj h, ht⟩) (fun q hq => by cases hq) dX1_rank_62
def f_X1_isHanded (N : Nat) (Y_kind : Int32) : Option (Bool) :=
  if Y_kind = 2 then (some (true)) else (if Y_kind = 5 then (some (true)) else (some (false)))
set_option maxHeartbeats 4000000 in
set_option maxRecDepth 100000 in
theorem k_X1_isHanded (l : Launch) (dC : Nat → ClassId) (dI : Nat → Nat → Nat) (cI cZ cS : ClassId) (N : Nat) (aY : Nat) (Y_kind : Int32) (Y_figure : Int32) (res : Bool) (h : f_X1_isHanded N Y_kind = some res) : Met l yX1_isHanded wsX1_isHanded ({ frames := 0, cells := 0, slots := 0, locals := 0 }) (va_Pc [.ref aY] (wd (dC, dI) cI cZ cS [(aY, .inr (1, [.int Y_kind, .int Y_figure]))])) (vp_Si (fun r => r = b2i res)) 0 0 (fun _ => False) := by
  refine Met.ofW (cc := cX1_isHanded) (maxL := 1) (ret := (some .boolean)) (by decide) rfl ?_
  intro p e s m args below meth c s₁ B hml hv
  obtain ⟨rfl, hP, hK, hD⟩ := hv
  have hx := B.exec
  have hb := B.bytes
  have hr := B.returns
  have hts := atoms_spec (ws := wsX1_isHanded) B.pre
  have hown : s.vm.findClass RX1 = some m.cls := findClass_of_methodNamed B.named
  have hlocks := B.notSynchronized
  have hl := lv_entry ([.ref aY]) (n := 1) (Nat.le_of_ble_eq_true rfl)
  rw [lg_entry_eq]
  generalize (lg_sl ([.ref aY]) ++ List.replicate (1 - (lg_sl ([.ref aY])).length) Slot.unset).toArray = ls at hl ⊢
  have hl : lv_has ls 1 [(0, .ref aY)] := hl
  unfold f_X1_isHanded at h
  refine lv_aload_n hx hb dX1_isHanded_0 rfl (lv_at hl 0 rfl) ?_
  refine va_get (D := (dC, dI)) (ci := 1) (v := .int Y_kind) (C := RX1) (T := TX1) (N := 2) hx hb hts (fun _ h => List.mem_cons_of_mem _ (List.mem_append_right _ h)) hown hK hP 0 rfl rfl 0 (by decide) (hts (.fieldLink RX1 9 "SlateRows$Laying" "kind" "I") (by decide +kernel)) (fun _ h9 => h9) rfl dX1_isHanded_1 ?_
  refine lv_iconst (v := 2) hx hb dX1_isHanded_4 (by decide) ?_
  refine lv_icmp_eq (tgt := 16) hx hb dX1_isHanded_5 (by decide) (fun c_1 => ?_) (fun c_1 => ?_)
  · have h := it_p c_1 h
    refine lv_iconst (v := 1) hx hb dX1_isHanded_16 (by decide) ?_
    refine lv_goto (tgt := 21) hx hb dX1_isHanded_17 (by decide) ?_
    exact W.zret (v := b2i true) hx hb hr (b2i_nar _) (fun t ht hW => ⟨b2i true, rfl, congrArg b2i (Option.some.inj h), ht⟩) (fun q hq => by cases hq) dX1_isHanded_21
  · have h := it_n c_1 h
    refine lv_aload_n hx hb dX1_isHanded_8 rfl (lv_at hl 0 rfl) ?_
    refine va_get (D := (dC, dI)) (ci := 1) (v := .int Y_kind) (C := RX1) (T := TX1) (N := 2) hx hb hts (fun _ h => List.mem_cons_of_mem _ (List.mem_append_right _ h)) hown hK hP 0 rfl rfl 0 (by decide) (hts (.fieldLink RX1 9 "SlateRows$Laying" "kind" "I") (by decide +kernel)) (fun _ h9 => h9) rfl dX1_isHanded_9 ?_
    refine lv_iconst (v := 5) hx hb dX1_isHanded_12 (by decide) ?_
    refine lv_icmp_ne (tgt := 20) hx hb dX1_isHanded_13 (by decide) (fun c_2 => ?_) (fun c_2 => ?_)
    · have h := it_n c_2 h
      refine lv_iconst (v := 0) hx hb dX1_isHanded_20 (by decide) ?_
      exact W.zret (v := b2i false) hx hb hr (b2i_nar _) (fun t ht hW => ⟨b2i false, rfl, congrArg b2i (Option.some.inj h), ht⟩) (fun q hq => by cases hq) dX1_isHanded_21
    · have h := it_p c_2 h
      refine lv_iconst (v := 1) hx hb dX1_isHanded_16 (by decide) ?_
      refine lv_goto (tgt := 21) hx hb dX1_isHanded_17 (by decide) ?_
      exact W.zret (v := b2i true) hx hb hr (b2i_nar _) (fun t ht hW => ⟨b2i true, rfl, congrArg b2i (Option.some.inj h), ht⟩) (fun q hq => by cases hq) dX1_isHanded_21
def f_X1_isMany (N : Nat) (Y_kind : Int32) : Option (Bool) :=
  if Y_kind = 5 then (some (true)) else (some (false))
set_option maxHeartbeats 4000000 in
set_option maxRecDepth 100000 in
theorem k_X1_isMany (l : Launch) (dC : Nat → ClassId) (dI : Nat → Nat → Nat) (cI cZ cS : ClassId) (N : Nat) (aY : Nat) (Y_kind : Int32) (Y_figure : Int32) (res : Bool) (h : f_X1_isMany N Y_kind = some res) : Met l yX1_isMany wsX1_isMany ({ frames := 0, cells := 0, slots := 0, locals := 0 }) (va_Pc [.ref aY] (wd (dC, dI) cI cZ cS [(aY, .inr (1, [.int Y_kind, .int Y_figure]))])) (vp_Si (fun r => r = b2i res)) 0 0 (fun _ => False) := by
  refine Met.ofW (cc := cX1_isMany) (maxL := 1) (ret := (some .boolean)) (by decide) rfl ?_
  intro p e s m args below meth c s₁ B hml hv
  obtain ⟨rfl, hP, hK, hD⟩ := hv
  have hx := B.exec
  have hb := B.bytes
  have hr := B.returns
  have hts := atoms_spec (ws := wsX1_isMany) B.pre
  have hown : s.vm.findClass RX1 = some m.cls := findClass_of_methodNamed B.named
  have hlocks := B.notSynchronized
  have hl := lv_entry ([.ref aY]) (n := 1) (Nat.le_of_ble_eq_true rfl)
  rw [lg_entry_eq]
  generalize (lg_sl ([.ref aY]) ++ List.replicate (1 - (lg_sl ([.ref aY])).length) Slot.unset).toArray = ls at hl ⊢
  have hl : lv_has ls 1 [(0, .ref aY)] := hl
  unfold f_X1_isMany at h
  refine lv_aload_n hx hb dX1_isMany_0 rfl (lv_at hl 0 rfl) ?_
  refine va_get (D := (dC, dI)) (ci := 1) (v := .int Y_kind) (C := RX1) (T := TX1) (N := 2) hx hb hts (fun _ h => List.mem_cons_of_mem _ (List.mem_append_right _ h)) hown hK hP 0 rfl rfl 0 (by decide) (hts (.fieldLink RX1 9 "SlateRows$Laying" "kind" "I") (by decide +kernel)) (fun _ h9 => h9) rfl dX1_isMany_1 ?_
  refine lv_iconst (v := 5) hx hb dX1_isMany_4 (by decide) ?_
  refine lv_icmp_ne (tgt := 12) hx hb dX1_isMany_5 (by decide) (fun c_1 => ?_) (fun c_1 => ?_)
  · have h := it_n c_1 h
    refine lv_iconst (v := 0) hx hb dX1_isMany_12 (by decide) ?_
    exact W.zret (v := b2i false) hx hb hr (b2i_nar _) (fun t ht hW => ⟨b2i false, rfl, congrArg b2i (Option.some.inj h), ht⟩) (fun q hq => by cases hq) dX1_isMany_13
  · have h := it_p c_1 h
    refine lv_iconst (v := 1) hx hb dX1_isMany_8 (by decide) ?_
    refine lv_goto (tgt := 13) hx hb dX1_isMany_9 (by decide) ?_
    exact W.zret (v := b2i true) hx hb hr (b2i_nar _) (fun t ht hW => ⟨b2i true, rfl, congrArg b2i (Option.some.inj h), ht⟩) (fun q hq => by cases hq) dX1_isMany_13
def f_X1_mostAsides (N : Nat) (Y_figure : Int32) : Option (Int32) :=
  some ((Y_figure + 2))
set_option maxHeartbeats 4000000 in
set_option maxRecDepth 100000 in
theorem k_X1_mostAsides (l : Launch) (dC : Nat → ClassId) (dI : Nat → Nat → Nat) (cI cZ cS : ClassId) (N : Nat) (aY : Nat) (Y_kind : Int32) (Y_figure : Int32) (res : Int32) (h : f_X1_mostAsides N Y_figure = some res) : Met l yX1_mostAsides wsX1_mostAsides ({ frames := 0, cells := 0, slots := 0, locals := 0 }) (va_Pc [.ref aY] (wd (dC, dI) cI cZ cS [(aY, .inr (1, [.int Y_kind, .int Y_figure]))])) (vp_Si (fun r => r = res)) 0 0 (fun _ => False) := by
  refine Met.ofW (cc := cX1_mostAsides) (maxL := 1) (ret := (some .int)) (by decide) rfl ?_
  intro p e s m args below meth c s₁ B hml hv
  obtain ⟨rfl, hP, hK, hD⟩ := hv
  have hx := B.exec
  have hb := B.bytes
  have hr := B.returns
  have hts := atoms_spec (ws := wsX1_mostAsides) B.pre
  have hown : s.vm.findClass RX1 = some m.cls := findClass_of_methodNamed B.named
  have hlocks := B.notSynchronized
  have hl := lv_entry ([.ref aY]) (n := 1) (Nat.le_of_ble_eq_true rfl)
  rw [lg_entry_eq]
  generalize (lg_sl ([.ref aY]) ++ List.replicate (1 - (lg_sl ([.ref aY])).length) Slot.unset).toArray = ls at hl ⊢
  have hl : lv_has ls 1 [(0, .ref aY)] := hl
  unfold f_X1_mostAsides at h
  refine lv_aload_n hx hb dX1_mostAsides_0 rfl (lv_at hl 0 rfl) ?_
  refine va_get (D := (dC, dI)) (ci := 1) (v := .int Y_figure) (C := RX1) (T := TX1) (N := 2) hx hb hts (fun _ h => List.mem_cons_of_mem _ (List.mem_append_right _ h)) hown hK hP 0 rfl rfl 1 (by decide) (hts (.fieldLink RX1 15 "SlateRows$Laying" "figure" "I") (by decide +kernel)) (fun _ h9 => h9) rfl dX1_mostAsides_1 ?_
  refine lv_iconst (v := 2) hx hb dX1_mostAsides_4 (by decide) ?_
  refine lv_iadd hx hb dX1_mostAsides_5 ?_
  exact W.iret hx hb hr (fun t ht hW => ⟨_, rfl, Option.some.inj h, ht⟩) (fun q hq => by cases hq) dX1_mostAsides_6
def f_X4_hasPlace (N : Nat) (T_size : Int32) (x1 : Int32) : Option (Bool) :=
  if x1 < 0 then (some (false)) else (if T_size ≤ x1 then (some (false)) else (some (true)))
set_option maxHeartbeats 4000000 in
set_option maxRecDepth 100000 in
theorem k_X4_hasPlace (l : Launch) (dC : Nat → ClassId) (dI : Nat → Nat → Nat) (cI cZ cS : ClassId) (N : Nat) (aT aT_numbers : Nat) (T_numbers : Nat → Int32) (T_holds : Int32) (T_laying : Option Nat) (T_sort : Int32) (T_size : Int32) (x1 : Int32) (res : Bool) (h : f_X4_hasPlace N T_size x1 = some res) : Met l yX4_hasPlace wsX4_hasPlace ({ frames := 0, cells := 0, slots := 0, locals := 0 }) (va_Pc [.ref aT, .int x1] (wd (dC, dI) cI cZ cS [(aT, .inr (4, [.ref aT_numbers, .int T_holds, va_rf T_laying, .int T_sort, .int T_size])), (aT_numbers, .inl (cI, 100, .inl T_numbers))])) (vp_Si (fun r => r = b2i res)) 0 0 (fun _ => False) := by
  refine Met.ofW (cc := cX4_hasPlace) (maxL := 2) (ret := (some .boolean)) (by decide) rfl ?_
  intro p e s m args below meth c s₁ B hml hv
  obtain ⟨rfl, hP, hK, hD⟩ := hv
  have hx := B.exec
  have hb := B.bytes
  have hr := B.returns
  have hts := atoms_spec (ws := wsX4_hasPlace) B.pre
  have hown : s.vm.findClass RX4 = some m.cls := findClass_of_methodNamed B.named
  have hlocks := B.notSynchronized
  have hl := lv_entry ([.ref aT, .int x1]) (n := 2) (Nat.le_of_ble_eq_true rfl)
  rw [lg_entry_eq]
  generalize (lg_sl ([.ref aT, .int x1]) ++ List.replicate (2 - (lg_sl ([.ref aT, .int x1])).length) Slot.unset).toArray = ls at hl ⊢
  have hl : lv_has ls 2 [(0, .ref aT), (1, .int x1)] := hl
  unfold f_X4_hasPlace at h
  refine lv_iload_n hx hb dX4_hasPlace_0 rfl (lv_at hl 1 rfl) ?_
  refine lv_if_lt (tgt := 16) hx hb dX4_hasPlace_1 (by decide) (fun c_1 => ?_) (fun c_1 => ?_)
  · have h := it_p c_1 h
    refine lv_iconst (v := 0) hx hb dX4_hasPlace_16 (by decide) ?_
    exact W.zret (v := b2i false) hx hb hr (b2i_nar _) (fun t ht hW => ⟨b2i false, rfl, congrArg b2i (Option.some.inj h), ht⟩) (fun q hq => by cases hq) dX4_hasPlace_17
  · have h := it_n c_1 h
    refine lv_iload_n hx hb dX4_hasPlace_4 rfl (lv_at hl 1 rfl) ?_
    refine lv_aload_n hx hb dX4_hasPlace_5 rfl (lv_at hl 0 rfl) ?_
    refine va_get (D := (dC, dI)) (ci := 4) (v := .int T_size) (C := RX4) (T := TX4) (N := 5) hx hb hts (fun _ h => List.mem_cons_of_mem _ (List.mem_append_right _ h)) hown hK hP 0 rfl rfl 4 (by decide) (hts (.fieldLink RX4 26 "SlateRows$Shelf" "size" "I") (by decide +kernel)) (fun _ h9 => h9) rfl dX4_hasPlace_6 ?_
    refine lv_icmp_ge (tgt := 16) hx hb dX4_hasPlace_9 (by decide) (fun c_2 => ?_) (fun c_2 => ?_)
    · have h := it_p c_2 h
      refine lv_iconst (v := 0) hx hb dX4_hasPlace_16 (by decide) ?_
      exact W.zret (v := b2i false) hx hb hr (b2i_nar _) (fun t ht hW => ⟨b2i false, rfl, congrArg b2i (Option.some.inj h), ht⟩) (fun q hq => by cases hq) dX4_hasPlace_17
    · have h := it_n c_2 h
      refine lv_iconst (v := 1) hx hb dX4_hasPlace_12 (by decide) ?_
      refine lv_goto (tgt := 17) hx hb dX4_hasPlace_13 (by decide) ?_
      exact W.zret (v := b2i true) hx hb hr (b2i_nar _) (fun t ht hW => ⟨b2i true, rfl, congrArg b2i (Option.some.inj h), ht⟩) (fun q hq => by cases hq) dX4_hasPlace_17
def f_X4_hasStretch (N : Nat) (T_size : Int32) (x1 : Int32) (x2 : Int32) : Option (Bool) :=
  if x1 < 0 then (some (false)) else (if x2 < 0 then (some (false)) else (if T_size < x1 then (some (false)) else (if (T_size - x1) < x2 then (some (false)) else (some (true)))))
set_option maxHeartbeats 4000000 in
set_option maxRecDepth 100000 in
theorem k_X4_hasStretch (l : Launch) (dC : Nat → ClassId) (dI : Nat → Nat → Nat) (cI cZ cS : ClassId) (N : Nat) (aT aT_numbers : Nat) (T_numbers : Nat → Int32) (T_holds : Int32) (T_laying : Option Nat) (T_sort : Int32) (T_size : Int32) (x1 : Int32) (x2 : Int32) (res : Bool) (h : f_X4_hasStretch N T_size x1 x2 = some res) : Met l yX4_hasStretch wsX4_hasStretch ({ frames := 0, cells := 0, slots := 0, locals := 0 }) (va_Pc [.ref aT, .int x1, .int x2] (wd (dC, dI) cI cZ cS [(aT, .inr (4, [.ref aT_numbers, .int T_holds, va_rf T_laying, .int T_sort, .int T_size])), (aT_numbers, .inl (cI, 100, .inl T_numbers))])) (vp_Si (fun r => r = b2i res)) 0 0 (fun _ => False) := by
  refine Met.ofW (cc := cX4_hasStretch) (maxL := 3) (ret := (some .boolean)) (by decide) rfl ?_
  intro p e s m args below meth c s₁ B hml hv
  obtain ⟨rfl, hP, hK, hD⟩ := hv
  have hx := B.exec
  have hb := B.bytes
  have hr := B.returns
  have hts := atoms_spec (ws := wsX4_hasStretch) B.pre
  have hown : s.vm.findClass RX4 = some m.cls := findClass_of_methodNamed B.named
  have hlocks := B.notSynchronized
  have hl := lv_entry ([.ref aT, .int x1, .int x2]) (n := 3) (Nat.le_of_ble_eq_true rfl)
  rw [lg_entry_eq]
  generalize (lg_sl ([.ref aT, .int x1, .int x2]) ++ List.replicate (3 - (lg_sl ([.ref aT, .int x1, .int x2])).length) Slot.unset).toArray = ls at hl ⊢
  have hl : lv_has ls 3 [(0, .ref aT), (1, .int x1), (2, .int x2)] := hl
  unfold f_X4_hasStretch at h
  refine lv_iload_n hx hb dX4_hasStretch_0 rfl (lv_at hl 1 rfl) ?_
  refine lv_if_lt (tgt := 30) hx hb dX4_hasStretch_1 (by decide) (fun c_1 => ?_) (fun c_1 => ?_)
  · have h := it_p c_1 h
    refine lv_iconst (v := 0) hx hb dX4_hasStretch_30 (by decide) ?_
    exact W.zret (v := b2i false) hx hb hr (b2i_nar _) (fun t ht hW => ⟨b2i false, rfl, congrArg b2i (Option.some.inj h), ht⟩) (fun q hq => by cases hq) dX4_hasStretch_31
  · have h := it_n c_1 h
    refine lv_iload_n hx hb dX4_hasStretch_4 rfl (lv_at hl 2 rfl) ?_
    refine lv_if_lt (tgt := 30) hx hb dX4_hasStretch_5 (by decide) (fun c_2 => ?_) (fun c_2 => ?_)
    · have h := it_p c_2 h
      refine lv_iconst (v := 0) hx hb dX4_hasStretch_30 (by decide) ?_
      exact W.zret (v := b2i false) hx hb hr (b2i_nar _) (fun t ht hW => ⟨b2i false, rfl, congrArg b2i (Option.some.inj h), ht⟩) (fun q hq => by cases hq) dX4_hasStretch_31
    · have h := it_n c_2 h
      refine lv_iload_n hx hb dX4_hasStretch_8 rfl (lv_at hl 1 rfl) ?_
      refine lv_aload_n hx hb dX4_hasStretch_9 rfl (lv_at hl 0 rfl) ?_
      refine va_get (D := (dC, dI)) (ci := 4) (v := .int T_size) (C := RX4) (T := TX4) (N := 5) hx hb hts (fun _ h => List.mem_cons_of_mem _ (List.mem_append_right _ h)) hown hK hP 0 rfl rfl 4 (by decide) (hts (.fieldLink RX4 26 "SlateRows$Shelf" "size" "I") (by decide +kernel)) (fun _ h9 => h9) rfl dX4_hasStretch_10 ?_
      refine lv_icmp_gt (tgt := 30) hx hb dX4_hasStretch_13 (by decide) (fun c_3 => ?_) (fun c_3 => ?_)
      · have h := it_p c_3 h
        refine lv_iconst (v := 0) hx hb dX4_hasStretch_30 (by decide) ?_
        exact W.zret (v := b2i false) hx hb hr (b2i_nar _) (fun t ht hW => ⟨b2i false, rfl, congrArg b2i (Option.some.inj h), ht⟩) (fun q hq => by cases hq) dX4_hasStretch_31
      · have h := it_n c_3 h
        refine lv_iload_n hx hb dX4_hasStretch_16 rfl (lv_at hl 2 rfl) ?_
        refine lv_aload_n hx hb dX4_hasStretch_17 rfl (lv_at hl 0 rfl) ?_
        refine va_get (D := (dC, dI)) (ci := 4) (v := .int T_size) (C := RX4) (T := TX4) (N := 5) hx hb hts (fun _ h => List.mem_cons_of_mem _ (List.mem_append_right _ h)) hown hK hP 0 rfl rfl 4 (by decide) (hts (.fieldLink RX4 26 "SlateRows$Shelf" "size" "I") (by decide +kernel)) (fun _ h9 => h9) rfl dX4_hasStretch_18 ?_
        refine lv_iload_n hx hb dX4_hasStretch_21 rfl (lv_at hl 1 rfl) ?_
        refine lv_isub hx hb dX4_hasStretch_22 ?_
        refine lv_icmp_gt (tgt := 30) hx hb dX4_hasStretch_23 (by decide) (fun c_4 => ?_) (fun c_4 => ?_)
        · have h := it_p c_4 h
          refine lv_iconst (v := 0) hx hb dX4_hasStretch_30 (by decide) ?_
          exact W.zret (v := b2i false) hx hb hr (b2i_nar _) (fun t ht hW => ⟨b2i false, rfl, congrArg b2i (Option.some.inj h), ht⟩) (fun q hq => by cases hq) dX4_hasStretch_31
        · have h := it_n c_4 h
          refine lv_iconst (v := 1) hx hb dX4_hasStretch_26 (by decide) ?_
          refine lv_goto (tgt := 31) hx hb dX4_hasStretch_27 (by decide) ?_
          exact W.zret (v := b2i true) hx hb hr (b2i_nar _) (fun t ht hW => ⟨b2i true, rfl, congrArg b2i (Option.some.inj h), ht⟩) (fun q hq => by cases hq) dX4_hasStretch_31
def f_X4_narrowed (N : Nat) (T_sort : Int32) (x1 : Int32) : Option (Int32) :=
  if T_sort = 0 then (some (x1.toInt8.toInt32)) else (if T_sort = 1 then (some (x1.toInt16.toInt32)) else (some (x1)))
set_option maxHeartbeats 4000000 in
set_option maxRecDepth 100000 in
theorem k_X4_narrowed (l : Launch) (dC : Nat → ClassId) (dI : Nat → Nat → Nat) (cI cZ cS : ClassId) (N : Nat) (aT aT_numbers : Nat) (T_numbers : Nat → Int32) (T_holds : Int32) (T_laying : Option Nat) (T_sort : Int32) (T_size : Int32) (x1 : Int32) (res : Int32) (h : f_X4_narrowed N T_sort x1 = some res) : Met l yX4_narrowed wsX4_narrowed ({ frames := 0, cells := 0, slots := 0, locals := 0 }) (va_Pc [.ref aT, .int x1] (wd (dC, dI) cI cZ cS [(aT, .inr (4, [.ref aT_numbers, .int T_holds, va_rf T_laying, .int T_sort, .int T_size])), (aT_numbers, .inl (cI, 100, .inl T_numbers))])) (vp_Si (fun r => r = res)) 0 0 (fun _ => False) := by
  refine Met.ofW (cc := cX4_narrowed) (maxL := 2) (ret := (some .int)) (by decide) rfl ?_
  intro p e s m args below meth c s₁ B hml hv
  obtain ⟨rfl, hP, hK, hD⟩ := hv
  have hx := B.exec
  have hb := B.bytes
  have hr := B.returns
  have hts := atoms_spec (ws := wsX4_narrowed) B.pre
  have hown : s.vm.findClass RX4 = some m.cls := findClass_of_methodNamed B.named
  have hlocks := B.notSynchronized
  have hl := lv_entry ([.ref aT, .int x1]) (n := 2) (Nat.le_of_ble_eq_true rfl)
  rw [lg_entry_eq]
  generalize (lg_sl ([.ref aT, .int x1]) ++ List.replicate (2 - (lg_sl ([.ref aT, .int x1])).length) Slot.unset).toArray = ls at hl ⊢
  have hl : lv_has ls 2 [(0, .ref aT), (1, .int x1)] := hl
  unfold f_X4_narrowed at h
  refine lv_aload_n hx hb dX4_narrowed_0 rfl (lv_at hl 0 rfl) ?_
  refine va_get (D := (dC, dI)) (ci := 4) (v := .int T_sort) (C := RX4) (T := TX4) (N := 5) hx hb hts (fun _ h => List.mem_cons_of_mem _ (List.mem_append_right _ h)) hown hK hP 0 rfl rfl 3 (by decide) (hts (.fieldLink RX4 23 "SlateRows$Shelf" "sort" "I") (by decide +kernel)) (fun _ h9 => h9) rfl dX4_narrowed_1 ?_
  by_cases c_1 : T_sort = 0
  · have h := it_p c_1 h
    refine lv_lookup (tgt := 32) hx hb dX4_narrowed_4 (by decide) (by first | (rw [c_1]; done) | (rw [c_1]; rfl)) (by decide) ?_
    refine lv_iload_n hx hb dX4_narrowed_32 rfl (lv_at hl 1 rfl) ?_
    refine lv_i2b hx hb dX4_narrowed_33 rfl ?_
    exact W.iret hx hb hr (fun t ht hW => ⟨_, rfl, Option.some.inj h, ht⟩) (fun q hq => by cases hq) dX4_narrowed_34
  have h := it_n c_1 h
  by_cases c_2 : T_sort = 1
  · have h := it_p c_2 h
    refine lv_lookup (tgt := 35) hx hb dX4_narrowed_4 (by decide) (by first | (rw [c_2]; done) | (rw [c_2]; rfl)) (by decide) ?_
    refine lv_iload_n hx hb dX4_narrowed_35 rfl (lv_at hl 1 rfl) ?_
    refine lv_i2s hx hb dX4_narrowed_36 rfl ?_
    exact W.iret hx hb hr (fun t ht hW => ⟨_, rfl, Option.some.inj h, ht⟩) (fun q hq => by cases hq) dX4_narrowed_37
  have h := it_n c_2 h
  refine lv_lookup (tgt := 38) (off := 34) hx hb dX4_narrowed_4 (by decide) (by show Op.lookupswitch.offset [(0, 28), (1, 31)] 34 _ = _; rw [lv_osw (a := 0) c_1 (by decide), lv_osw (a := 1) c_2 (by decide)]; try rfl) (by decide) ?_
  refine lv_iload_n hx hb dX4_narrowed_38 rfl (lv_at hl 1 rfl) ?_
  exact W.iret hx hb hr (fun t ht hW => ⟨_, rfl, Option.some.inj h, ht⟩) (fun q hq => by cases hq) dX4_narrowed_39
def f_X4_holdNothing (N : Nat) (T_holds : Int32) (T_laying : Option Nat) (T_size : Int32) : Option (Int32 × (Option Nat) × Int32) :=
  some (0, none, 0)
set_option maxHeartbeats 4000000 in
set_option maxRecDepth 100000 in
theorem k_X4_holdNothing (l : Launch) (dC : Nat → ClassId) (dI : Nat → Nat → Nat) (cI cZ cS : ClassId) (N : Nat) (aT aT_numbers : Nat) (sz : Nat) (T_numbers : Nat → Int32) (T_holds : Int32) (T_laying : Option Nat) (T_sort : Int32) (T_size : Int32) (res : Int32 × (Option Nat) × Int32) (h : f_X4_holdNothing N T_holds T_laying T_size = some res) : Met l yX4_holdNothing wsX4_holdNothing ({ frames := 0, cells := 0, slots := 0, locals := 0 }) (va_Pc [.ref aT] (preW (dC, dI) cI cZ cS [(aT, .inr (4, [.ref aT_numbers, .int T_holds, va_rf T_laying, .int T_sort, .int T_size])), (aT_numbers, .inl (cI, 100, .inl T_numbers))] sz)) (va_Qv (fun _ : Unit => True) (fun _ => qW (dC, dI) cI cZ cS (va_A [(aT, .inr (4, [.ref aT_numbers, .int T_holds, va_rf T_laying, .int T_sort, .int T_size])), (aT_numbers, .inl (cI, 100, .inl T_numbers))] sz) [(aT, .inr (4, [.ref aT_numbers, .int res.1, va_rf res.2.1, .int T_sort, .int res.2.2])), (aT_numbers, .inl (cI, 100, .inl T_numbers))]) (va_A [(aT, .inr (4, [.ref aT_numbers, .int T_holds, va_rf T_laying, .int T_sort, .int T_size])), (aT_numbers, .inl (cI, 100, .inl T_numbers))] sz)) 0 0 (va_A [(aT, .inr (4, [.ref aT_numbers, .int T_holds, va_rf T_laying, .int T_sort, .int T_size])), (aT_numbers, .inl (cI, 100, .inl T_numbers))] sz) := by
  refine Met.ofW (cc := cX4_holdNothing) (maxL := 1) (ret := none) (by decide) rfl ?_
  intro p e s m args below meth c s₁ B hml hv
  obtain ⟨rfl, hsz, hP, hK, hD0⟩ := hv
  have hx := B.exec
  have hb := B.bytes
  have hr := B.returns
  have hts := atoms_spec (ws := wsX4_holdNothing) B.pre
  have hown : s.vm.findClass RX4 = some m.cls := findClass_of_methodNamed B.named
  have hlocks := B.notSynchronized
  subst hsz
  have hD := hD0.self (sz := s.heap.size)
  generalize hAe : va_A [(aT, .inr (4, [.ref aT_numbers, .int T_holds, va_rf T_laying, .int T_sort, .int T_size])), (aT_numbers, .inl (cI, 100, .inl T_numbers))] s.heap.size = A at hD ⊢
  have hA : ∀ q : Nat, s.heap.size ≤ q → A q := fun q h => by rw [← hAe]; exact Or.inr h
  have hS : va_S A s.heap s.heap [] := va_S.rf
  have hl := lv_entry ([.ref aT]) (n := 1) (Nat.le_of_ble_eq_true rfl)
  rw [lg_entry_eq]
  generalize (lg_sl ([.ref aT]) ++ List.replicate (1 - (lg_sl ([.ref aT])).length) Slot.unset).toArray = ls at hl ⊢
  have hl : lv_has ls 1 [(0, .ref aT)] := hl
  unfold f_X4_holdNothing at h
  refine lv_aload_n hx hb dX4_holdNothing_0 rfl (lv_at hl 0 rfl) ?_
  refine lv_iconst (v := 0) hx hb dX4_holdNothing_1 (by decide) ?_
  refine va_put (D := (dC, dI)) (ci := 4) (v := .int 0) (ty := .int) (C := RX4) (T := TX4) (N := 5) hx hb hts (fun _ h => List.mem_cons_of_mem _ (List.mem_append_right _ h)) tyX4 tyX4_ok nmX4 hown hK hP hD hS 0 rfl rfl 1 (by decide) (hts (.fieldLink RX4 15 "SlateRows$Shelf" "holds" "I") (by decide +kernel)) (fun _ h9 => h9) rfl (by decide +kernel) rfl rfl (Nat.le_of_ble_eq_true rfl) dX4_holdNothing_2 (fun H locs hP hD hS => ?_)
  have hP : va_P (dC, dI) vwCl [(aT, .inr (4, [.ref aT_numbers, .int 0, va_rf T_laying, .int T_sort, .int T_size])), (aT_numbers, .inl (cI, 100, .inl T_numbers))] H := hP
  have hD : va_D A [(aT, .inr (4, [.ref aT_numbers, .int 0, va_rf T_laying, .int T_sort, .int T_size])), (aT_numbers, .inl (cI, 100, .inl T_numbers))] := hD
  refine lv_aload_n hx hb dX4_holdNothing_5 rfl (lv_at hl 0 rfl) ?_
  refine lv_null hx hb dX4_holdNothing_6 ?_
  refine va_put (D := (dC, dI)) (ci := 4) (v := .null) (ty := (.object "SlateRows$Laying")) (C := RX4) (T := TX4) (N := 5) hx hb hts (fun _ h => List.mem_cons_of_mem _ (List.mem_append_right _ h)) tyX4 tyX4_ok nmX4 hown hK hP hD hS 0 rfl rfl 2 (by decide) (hts (.fieldLink RX4 19 "SlateRows$Shelf" "laying" "LSlateRows$Laying;") (by decide +kernel)) (fun _ h9 => h9) rfl (by decide +kernel) rfl rfl (Nat.le_of_ble_eq_true rfl) dX4_holdNothing_7 (fun H locs hP hD hS => ?_)
  have hP : va_P (dC, dI) vwCl [(aT, .inr (4, [.ref aT_numbers, .int 0, va_rf none, .int T_sort, .int T_size])), (aT_numbers, .inl (cI, 100, .inl T_numbers))] H := hP
  have hD : va_D A [(aT, .inr (4, [.ref aT_numbers, .int 0, va_rf none, .int T_sort, .int T_size])), (aT_numbers, .inl (cI, 100, .inl T_numbers))] := hD
  refine lv_aload_n hx hb dX4_holdNothing_10 rfl (lv_at hl 0 rfl) ?_
  refine lv_iconst (v := 0) hx hb dX4_holdNothing_11 (by decide) ?_
  refine va_put (D := (dC, dI)) (ci := 4) (v := .int 0) (ty := .int) (C := RX4) (T := TX4) (N := 5) hx hb hts (fun _ h => List.mem_cons_of_mem _ (List.mem_append_right _ h)) tyX4 tyX4_ok nmX4 hown hK hP hD hS 0 rfl rfl 4 (by decide) (hts (.fieldLink RX4 26 "SlateRows$Shelf" "size" "I") (by decide +kernel)) (fun _ h9 => h9) rfl (by decide +kernel) rfl rfl (Nat.le_of_ble_eq_true rfl) dX4_holdNothing_12 (fun H locs hP hD hS => ?_)
  have hP : va_P (dC, dI) vwCl [(aT, .inr (4, [.ref aT_numbers, .int 0, va_rf none, .int T_sort, .int 0])), (aT_numbers, .inl (cI, 100, .inl T_numbers))] H := hP
  have hD : va_D A [(aT, .inr (4, [.ref aT_numbers, .int 0, va_rf none, .int T_sort, .int 0])), (aT_numbers, .inl (cI, 100, .inl T_numbers))] := hD
  have h := Option.some.inj h
  exact W.vret hx hb hr (fun t ht hW => ⟨⟨(), rfl, trivial, by (try rw [← h]); rw [ht]; exact hP, va_K.moved hW.alike hK, by (try rw [← h]); exact hD⟩, hS.F ht⟩) hS.2.2 dX4_holdNothing_15
def f_X4_holdNumbers_L22 (N : Nat) (T_holds : Int32) (T_laying : Option Nat) (T_sort : Int32) (T_size : Int32) : Nat → Int32 → (Nat → Int32) → Option ((Nat → Int32) × Int32 × (Option Nat) × Int32 × Int32)
  | 0, _, _ => none
  | n + 1, v3, T_numbers =>
    if 100 ≤ v3 then (some (T_numbers, T_holds, T_laying, T_sort, T_size)) else (ck (gi v3 100) (f_X4_holdNumbers_L22 N T_holds T_laying T_sort T_size n (v3 + 1) (upd T_numbers v3.toNatClampNeg 0)))
def f_X4_holdNumbers (N : Nat) (T_numbers : Nat → Int32) (T_holds : Int32) (T_laying : Option Nat) (T_sort : Int32) (T_size : Int32) (x1 : Int32) (x2 : Int32) : Option ((Nat → Int32) × Int32 × (Option Nat) × Int32 × Int32) :=
  f_X4_holdNumbers_L22 N 2 none x1 x2 N 0 T_numbers
set_option maxHeartbeats 4000000 in
set_option maxRecDepth 100000 in
theorem k_X4_holdNumbers (l : Launch) (dC : Nat → ClassId) (dI : Nat → Nat → Nat) (cI cZ cS : ClassId) (N : Nat) (aT aT_numbers : Nat) (sz : Nat) (T_numbers : Nat → Int32) (T_holds : Int32) (T_laying : Option Nat) (T_sort : Int32) (T_size : Int32) (x1 : Int32) (x2 : Int32) (res : (Nat → Int32) × Int32 × (Option Nat) × Int32 × Int32) (h : f_X4_holdNumbers N T_numbers T_holds T_laying T_sort T_size x1 x2 = some res) : Met l yX4_holdNumbers wsX4_holdNumbers ({ frames := 0, cells := 0, slots := 0, locals := 0 }) (va_Pc [.ref aT, .int x1, .int x2] (preW (dC, dI) cI cZ cS [(aT, .inr (4, [.ref aT_numbers, .int T_holds, va_rf T_laying, .int T_sort, .int T_size])), (aT_numbers, .inl (cI, 100, .inl T_numbers))] sz)) (va_Qv (fun _ : Unit => True) (fun _ => qW (dC, dI) cI cZ cS (va_A [(aT, .inr (4, [.ref aT_numbers, .int T_holds, va_rf T_laying, .int T_sort, .int T_size])), (aT_numbers, .inl (cI, 100, .inl T_numbers))] sz) [(aT, .inr (4, [.ref aT_numbers, .int res.2.1, va_rf res.2.2.1, .int res.2.2.2.1, .int res.2.2.2.2])), (aT_numbers, .inl (cI, 100, .inl res.1))]) (va_A [(aT, .inr (4, [.ref aT_numbers, .int T_holds, va_rf T_laying, .int T_sort, .int T_size])), (aT_numbers, .inl (cI, 100, .inl T_numbers))] sz)) 0 0 (va_A [(aT, .inr (4, [.ref aT_numbers, .int T_holds, va_rf T_laying, .int T_sort, .int T_size])), (aT_numbers, .inl (cI, 100, .inl T_numbers))] sz) := by
  refine Met.ofW (cc := cX4_holdNumbers) (maxL := 4) (ret := none) (by decide) rfl ?_
  intro p e s m args below meth c s₁ B hml hv
  obtain ⟨rfl, hsz, hP, hK, hD0⟩ := hv
  have hx := B.exec
  have hb := B.bytes
  have hr := B.returns
  have hts := atoms_spec (ws := wsX4_holdNumbers) B.pre
  have hown : s.vm.findClass RX4 = some m.cls := findClass_of_methodNamed B.named
  have hlocks := B.notSynchronized
  subst hsz
  have hD := hD0.self (sz := s.heap.size)
  generalize hAe : va_A [(aT, .inr (4, [.ref aT_numbers, .int T_holds, va_rf T_laying, .int T_sort, .int T_size])), (aT_numbers, .inl (cI, 100, .inl T_numbers))] s.heap.size = A at hD ⊢
  have hA : ∀ q : Nat, s.heap.size ≤ q → A q := fun q h => by rw [← hAe]; exact Or.inr h
  have hS : va_S A s.heap s.heap [] := va_S.rf
  have hl := lv_entry ([.ref aT, .int x1, .int x2]) (n := 4) (Nat.le_of_ble_eq_true rfl)
  rw [lg_entry_eq]
  generalize (lg_sl ([.ref aT, .int x1, .int x2]) ++ List.replicate (4 - (lg_sl ([.ref aT, .int x1, .int x2])).length) Slot.unset).toArray = ls at hl ⊢
  have hl : lv_has ls 4 [(0, .ref aT), (1, .int x1), (2, .int x2)] := hl
  unfold f_X4_holdNumbers at h
  refine lv_aload_n hx hb dX4_holdNumbers_0 rfl (lv_at hl 0 rfl) ?_
  refine lv_iconst (v := 2) hx hb dX4_holdNumbers_1 (by decide) ?_
  refine va_put (D := (dC, dI)) (ci := 4) (v := .int 2) (ty := .int) (C := RX4) (T := TX4) (N := 5) hx hb hts (fun _ h => List.mem_cons_of_mem _ (List.mem_append_right _ h)) tyX4 tyX4_ok nmX4 hown hK hP hD hS 0 rfl rfl 1 (by decide) (hts (.fieldLink RX4 15 "SlateRows$Shelf" "holds" "I") (by decide +kernel)) (fun _ h9 => h9) rfl (by decide +kernel) rfl rfl (Nat.le_of_ble_eq_true rfl) dX4_holdNumbers_2 (fun H locs hP hD hS => ?_)
  have hP : va_P (dC, dI) vwCl [(aT, .inr (4, [.ref aT_numbers, .int 2, va_rf T_laying, .int T_sort, .int T_size])), (aT_numbers, .inl (cI, 100, .inl T_numbers))] H := hP
  have hD : va_D A [(aT, .inr (4, [.ref aT_numbers, .int 2, va_rf T_laying, .int T_sort, .int T_size])), (aT_numbers, .inl (cI, 100, .inl T_numbers))] := hD
  refine lv_aload_n hx hb dX4_holdNumbers_5 rfl (lv_at hl 0 rfl) ?_
  refine lv_null hx hb dX4_holdNumbers_6 ?_
  refine va_put (D := (dC, dI)) (ci := 4) (v := .null) (ty := (.object "SlateRows$Laying")) (C := RX4) (T := TX4) (N := 5) hx hb hts (fun _ h => List.mem_cons_of_mem _ (List.mem_append_right _ h)) tyX4 tyX4_ok nmX4 hown hK hP hD hS 0 rfl rfl 2 (by decide) (hts (.fieldLink RX4 19 "SlateRows$Shelf" "laying" "LSlateRows$Laying;") (by decide +kernel)) (fun _ h9 => h9) rfl (by decide +kernel) rfl rfl (Nat.le_of_ble_eq_true rfl) dX4_holdNumbers_7 (fun H locs hP hD hS => ?_)
  have hP : va_P (dC, dI) vwCl [(aT, .inr (4, [.ref aT_numbers, .int 2, va_rf none, .int T_sort, .int T_size])), (aT_numbers, .inl (cI, 100, .inl T_numbers))] H := hP
  have hD : va_D A [(aT, .inr (4, [.ref aT_numbers, .int 2, va_rf none, .int T_sort, .int T_size])), (aT_numbers, .inl (cI, 100, .inl T_numbers))] := hD
  refine lv_aload_n hx hb dX4_holdNumbers_10 rfl (lv_at hl 0 rfl) ?_
  refine lv_iload_n hx hb dX4_holdNumbers_11 rfl (lv_at hl 1 rfl) ?_
  refine va_put (D := (dC, dI)) (ci := 4) (v := .int x1) (ty := .int) (C := RX4) (T := TX4) (N := 5) hx hb hts (fun _ h => List.mem_cons_of_mem _ (List.mem_append_right _ h)) tyX4 tyX4_ok nmX4 hown hK hP hD hS 0 rfl rfl 3 (by decide) (hts (.fieldLink RX4 23 "SlateRows$Shelf" "sort" "I") (by decide +kernel)) (fun _ h9 => h9) rfl (by decide +kernel) rfl rfl (Nat.le_of_ble_eq_true rfl) dX4_holdNumbers_12 (fun H locs hP hD hS => ?_)
  have hP : va_P (dC, dI) vwCl [(aT, .inr (4, [.ref aT_numbers, .int 2, va_rf none, .int x1, .int T_size])), (aT_numbers, .inl (cI, 100, .inl T_numbers))] H := hP
  have hD : va_D A [(aT, .inr (4, [.ref aT_numbers, .int 2, va_rf none, .int x1, .int T_size])), (aT_numbers, .inl (cI, 100, .inl T_numbers))] := hD
  refine lv_aload_n hx hb dX4_holdNumbers_15 rfl (lv_at hl 0 rfl) ?_
  refine lv_iload_n hx hb dX4_holdNumbers_16 rfl (lv_at hl 2 rfl) ?_
  refine va_put (D := (dC, dI)) (ci := 4) (v := .int x2) (ty := .int) (C := RX4) (T := TX4) (N := 5) hx hb hts (fun _ h => List.mem_cons_of_mem _ (List.mem_append_right _ h)) tyX4 tyX4_ok nmX4 hown hK hP hD hS 0 rfl rfl 4 (by decide) (hts (.fieldLink RX4 26 "SlateRows$Shelf" "size" "I") (by decide +kernel)) (fun _ h9 => h9) rfl (by decide +kernel) rfl rfl (Nat.le_of_ble_eq_true rfl) dX4_holdNumbers_17 (fun H locs hP hD hS => ?_)
  have hP : va_P (dC, dI) vwCl [(aT, .inr (4, [.ref aT_numbers, .int 2, va_rf none, .int x1, .int x2])), (aT_numbers, .inl (cI, 100, .inl T_numbers))] H := hP
  have hD : va_D A [(aT, .inr (4, [.ref aT_numbers, .int 2, va_rf none, .int x1, .int x2])), (aT_numbers, .inl (cI, 100, .inl T_numbers))] := hD
  refine lv_iconst (v := 0) hx hb dX4_holdNumbers_20 (by decide) ?_
  refine lv_istore_n (lv' := [(3, .int 0), (0, .ref aT), (1, .int x1), (2, .int x2)]) hx hb dX4_holdNumbers_21 rfl hl (by decide) rfl (fun ls hl => ?_)
  have L22_1 : ∀ (n_2 : Nat) (v3_3 : Int32) (T_numbers_4 : Nat → Int32) (ls : Array Slot) (H : Heap) (locs : List Loc), f_X4_holdNumbers_L22 N 2 none x1 x2 n_2 v3_3 T_numbers_4 = some res → lv_has ls 4 [(0, .ref aT), (3, .int v3_3)] → va_P (dC, dI) vwCl [(aT, .inr (4, [.ref aT_numbers, .int 2, va_rf none, .int x1, .int x2])), (aT_numbers, .inl (cI, 100, .inl T_numbers_4))] H → va_D A [(aT, .inr (4, [.ref aT_numbers, .int 2, va_rf none, .int x1, .int x2])), (aT_numbers, .inl (cI, 100, .inl T_numbers_4))] → va_S A s.heap H locs → W p l e (headSpec wsX4_holdNumbers ({ frames := 0, cells := 0, slots := 0, locals := 0 })).room s m ([.ref aT, .int x1, .int x2] : List Value).toArray below meth c H locs 0 0 (MQ below (va_Qv (fun _ : Unit => True) (fun _ => qW (dC, dI) cI cZ cS A [(aT, .inr (4, [.ref aT_numbers, .int res.2.1, va_rf res.2.2.1, .int res.2.2.2.1, .int res.2.2.2.2])), (aT_numbers, .inl (cI, 100, .inl res.1))]) A) ([.ref aT, .int x1, .int x2] : List Value).toArray s 0 0 A) (F0 m 22 ls []) := by
    intro n_2
    induction n_2 with
    | zero =>
      intro v3_3 T_numbers_4 ls H locs h
      simp only [f_X4_holdNumbers_L22] at h
      try exact absurd h (by simp)
    | succ n_2 ihn_2 =>
      intro v3_3 T_numbers_4 ls H locs h hl hP hD hS
      rw [f_X4_holdNumbers_L22] at h
      refine lv_iload_n hx hb dX4_holdNumbers_22 rfl (lv_at hl 1 rfl) ?_
      refine lv_bipush (v := 100) hx hb dX4_holdNumbers_23 (by decide) ?_
      refine lv_icmp_ge (tgt := 41) hx hb dX4_holdNumbers_25 (by decide) (fun c_5 => ?_) (fun c_5 => ?_)
      · have h := it_p c_5 h
        have h := Option.some.inj h
        exact W.vret hx hb hr (fun t ht hW => ⟨⟨(), rfl, trivial, by (try rw [← h]); rw [ht]; exact hP, va_K.moved hW.alike hK, by (try rw [← h]); exact hD⟩, hS.F ht⟩) hS.2.2 dX4_holdNumbers_41
      · have h := it_n c_5 h
        refine lv_aload_n hx hb dX4_holdNumbers_28 rfl (lv_at hl 0 rfl) ?_
        refine va_get (D := (dC, dI)) (ci := 4) (v := .ref aT_numbers) (C := RX4) (T := TX4) (N := 5) hx hb hts (fun _ h => List.mem_cons_of_mem _ (List.mem_append_right _ h)) hown hK hP 0 rfl rfl 0 (by decide) (hts (.fieldLink RX4 9 "SlateRows$Shelf" "numbers" "[I") (by decide +kernel)) (fun _ h9 => h9) rfl dX4_holdNumbers_29 ?_
        refine lv_iload_n hx hb dX4_holdNumbers_32 rfl (lv_at hl 1 rfl) ?_
        refine lv_iconst (v := 0) hx hb dX4_holdNumbers_33 (by decide) ?_
        obtain ⟨hi, h⟩ := ck_some h
        refine va_iast hx hb hK hP hD hS 1 0 rfl rfl (gi_in hi) dX4_holdNumbers_34 (fun H locs hP hD hS => ?_)
        have hP : va_P (dC, dI) vwCl [(aT, .inr (4, [.ref aT_numbers, .int 2, va_rf none, .int x1, .int x2])), (aT_numbers, .inl (cI, 100, .inl (upd T_numbers_4 v3_3.toNatClampNeg 0)))] H := hP
        have hD : va_D A [(aT, .inr (4, [.ref aT_numbers, .int 2, va_rf none, .int x1, .int x2])), (aT_numbers, .inl (cI, 100, .inl (upd T_numbers_4 v3_3.toNatClampNeg 0)))] := hD
        refine lv_iinc (v := (v3_3 + 1)) (lv' := [(3, .int (v3_3 + 1)), (0, .ref aT)]) hx hb dX4_holdNumbers_35 hl (k := 1) rfl rfl (by decide) rfl (fun ls hl => ?_)
        refine lv_goto (tgt := 22) hx hb dX4_holdNumbers_38 (by decide) ?_
        exact ihn_2 (v3_3 + 1) (upd T_numbers_4 v3_3.toNatClampNeg 0) ls _ _ h (lv_sub hl [1, 0] rfl) hP hD hS
  exact L22_1 N 0 T_numbers ls _ _ h (lv_sub hl [1, 0] rfl) hP hD hS
def f_X4_holdLaying (N : Nat) (T_holds : Int32) (T_laying : Option Nat) (T_size : Int32) (aG : Nat) : Option (Int32 × (Option Nat) × Int32) :=
  some (1, (some aG), 0)
set_option maxHeartbeats 4000000 in
set_option maxRecDepth 100000 in
theorem k_X4_holdLaying (l : Launch) (dC : Nat → ClassId) (dI : Nat → Nat → Nat) (cI cZ cS : ClassId) (N : Nat) (aT aT_numbers : Nat) (sz : Nat) (T_numbers : Nat → Int32) (T_holds : Int32) (T_laying : Option Nat) (T_sort : Int32) (T_size : Int32) (aG : Nat) (res : Int32 × (Option Nat) × Int32) (h : f_X4_holdLaying N T_holds T_laying T_size aG = some res) : Met l yX4_holdLaying wsX4_holdLaying ({ frames := 0, cells := 0, slots := 0, locals := 0 }) (va_Pc [.ref aT, .ref aG] (preW (dC, dI) cI cZ cS [(aT, .inr (4, [.ref aT_numbers, .int T_holds, va_rf T_laying, .int T_sort, .int T_size])), (aT_numbers, .inl (cI, 100, .inl T_numbers))] sz)) (va_Qv (fun _ : Unit => True) (fun _ => qW (dC, dI) cI cZ cS (va_A [(aT, .inr (4, [.ref aT_numbers, .int T_holds, va_rf T_laying, .int T_sort, .int T_size])), (aT_numbers, .inl (cI, 100, .inl T_numbers))] sz) [(aT, .inr (4, [.ref aT_numbers, .int res.1, va_rf res.2.1, .int T_sort, .int res.2.2])), (aT_numbers, .inl (cI, 100, .inl T_numbers))]) (va_A [(aT, .inr (4, [.ref aT_numbers, .int T_holds, va_rf T_laying, .int T_sort, .int T_size])), (aT_numbers, .inl (cI, 100, .inl T_numbers))] sz)) 0 0 (va_A [(aT, .inr (4, [.ref aT_numbers, .int T_holds, va_rf T_laying, .int T_sort, .int T_size])), (aT_numbers, .inl (cI, 100, .inl T_numbers))] sz) := by
  refine Met.ofW (cc := cX4_holdLaying) (maxL := 2) (ret := none) (by decide) rfl ?_
  intro p e s m args below meth c s₁ B hml hv
  obtain ⟨rfl, hsz, hP, hK, hD0⟩ := hv
  have hx := B.exec
  have hb := B.bytes
  have hr := B.returns
  have hts := atoms_spec (ws := wsX4_holdLaying) B.pre
  have hown : s.vm.findClass RX4 = some m.cls := findClass_of_methodNamed B.named
  have hlocks := B.notSynchronized
  subst hsz
  have hD := hD0.self (sz := s.heap.size)
  generalize hAe : va_A [(aT, .inr (4, [.ref aT_numbers, .int T_holds, va_rf T_laying, .int T_sort, .int T_size])), (aT_numbers, .inl (cI, 100, .inl T_numbers))] s.heap.size = A at hD ⊢
  have hA : ∀ q : Nat, s.heap.size ≤ q → A q := fun q h => by rw [← hAe]; exact Or.inr h
  have hS : va_S A s.heap s.heap [] := va_S.rf
  have hl := lv_entry ([.ref aT, .ref aG]) (n := 2) (Nat.le_of_ble_eq_true rfl)
  rw [lg_entry_eq]
  generalize (lg_sl ([.ref aT, .ref aG]) ++ List.replicate (2 - (lg_sl ([.ref aT, .ref aG])).length) Slot.unset).toArray = ls at hl ⊢
  have hl : lv_has ls 2 [(0, .ref aT), (1, .ref aG)] := hl
  unfold f_X4_holdLaying at h
  refine lv_aload_n hx hb dX4_holdLaying_0 rfl (lv_at hl 0 rfl) ?_
  refine lv_iconst (v := 1) hx hb dX4_holdLaying_1 (by decide) ?_
  refine va_put (D := (dC, dI)) (ci := 4) (v := .int 1) (ty := .int) (C := RX4) (T := TX4) (N := 5) hx hb hts (fun _ h => List.mem_cons_of_mem _ (List.mem_append_right _ h)) tyX4 tyX4_ok nmX4 hown hK hP hD hS 0 rfl rfl 1 (by decide) (hts (.fieldLink RX4 15 "SlateRows$Shelf" "holds" "I") (by decide +kernel)) (fun _ h9 => h9) rfl (by decide +kernel) rfl rfl (Nat.le_of_ble_eq_true rfl) dX4_holdLaying_2 (fun H locs hP hD hS => ?_)
  have hP : va_P (dC, dI) vwCl [(aT, .inr (4, [.ref aT_numbers, .int 1, va_rf T_laying, .int T_sort, .int T_size])), (aT_numbers, .inl (cI, 100, .inl T_numbers))] H := hP
  have hD : va_D A [(aT, .inr (4, [.ref aT_numbers, .int 1, va_rf T_laying, .int T_sort, .int T_size])), (aT_numbers, .inl (cI, 100, .inl T_numbers))] := hD
  refine lv_aload_n hx hb dX4_holdLaying_5 rfl (lv_at hl 0 rfl) ?_
  refine lv_aload_n hx hb dX4_holdLaying_6 rfl (lv_at hl 1 rfl) ?_
  refine va_put (D := (dC, dI)) (ci := 4) (v := .ref aG) (ty := (.object "SlateRows$Laying")) (C := RX4) (T := TX4) (N := 5) hx hb hts (fun _ h => List.mem_cons_of_mem _ (List.mem_append_right _ h)) tyX4 tyX4_ok nmX4 hown hK hP hD hS 0 rfl rfl 2 (by decide) (hts (.fieldLink RX4 19 "SlateRows$Shelf" "laying" "LSlateRows$Laying;") (by decide +kernel)) (fun _ h9 => h9) rfl (by decide +kernel) rfl rfl (Nat.le_of_ble_eq_true rfl) dX4_holdLaying_7 (fun H locs hP hD hS => ?_)
  have hP : va_P (dC, dI) vwCl [(aT, .inr (4, [.ref aT_numbers, .int 1, va_rf (some aG), .int T_sort, .int T_size])), (aT_numbers, .inl (cI, 100, .inl T_numbers))] H := hP
  have hD : va_D A [(aT, .inr (4, [.ref aT_numbers, .int 1, va_rf (some aG), .int T_sort, .int T_size])), (aT_numbers, .inl (cI, 100, .inl T_numbers))] := hD
  refine lv_aload_n hx hb dX4_holdLaying_10 rfl (lv_at hl 0 rfl) ?_
  refine lv_iconst (v := 0) hx hb dX4_holdLaying_11 (by decide) ?_
  refine va_put (D := (dC, dI)) (ci := 4) (v := .int 0) (ty := .int) (C := RX4) (T := TX4) (N := 5) hx hb hts (fun _ h => List.mem_cons_of_mem _ (List.mem_append_right _ h)) tyX4 tyX4_ok nmX4 hown hK hP hD hS 0 rfl rfl 4 (by decide) (hts (.fieldLink RX4 26 "SlateRows$Shelf" "size" "I") (by decide +kernel)) (fun _ h9 => h9) rfl (by decide +kernel) rfl rfl (Nat.le_of_ble_eq_true rfl) dX4_holdLaying_12 (fun H locs hP hD hS => ?_)
  have hP : va_P (dC, dI) vwCl [(aT, .inr (4, [.ref aT_numbers, .int 1, va_rf (some aG), .int T_sort, .int 0])), (aT_numbers, .inl (cI, 100, .inl T_numbers))] H := hP
  have hD : va_D A [(aT, .inr (4, [.ref aT_numbers, .int 1, va_rf (some aG), .int T_sort, .int 0])), (aT_numbers, .inl (cI, 100, .inl T_numbers))] := hD
  have h := Option.some.inj h
  exact W.vret hx hb hr (fun t ht hW => ⟨⟨(), rfl, trivial, by (try rw [← h]); rw [ht]; exact hP, va_K.moved hW.alike hK, by (try rw [← h]); exact hD⟩, hS.F ht⟩) hS.2.2 dX4_holdLaying_15
def f_X2_signHere (N : Nat) (D_at : Int32) (T_numbers : Nat → Int32) (T_size : Int32) : Option (Int32) :=
  (f_X4_hasPlace N T_size D_at).bind fun r_1 => if (b2i r_1) = 0 then (some (0)) else (ck (gi D_at 100) (some ((T_numbers D_at.toNatClampNeg))))
set_option maxHeartbeats 4000000 in
set_option maxRecDepth 100000 in
theorem k_X2_signHere (l : Launch) (dC : Nat → ClassId) (dI : Nat → Nat → Nat) (cI cZ cS : ClassId) (N : Nat) (aD aD_numbers aT aT_numbers aR aR_inches aR_many aR_worth aR_lengths aR_laid aR_slates : Nat) (D_numbers : Nat → Int32) (D_letter : Int32) (D_at : Int32) (T_numbers : Nat → Int32) (T_holds : Int32) (T_laying : Option Nat) (T_sort : Int32) (T_size : Int32) (R_inches : Nat → Int32) (R_many : Nat → Int32) (R_worth : Nat → Int32) (R_lengths : Nat → Int32) (R_laid : Nat → Int32) (R_slates : Nat → Int32) (R_widths : Int32) (R_rows : Int32) (R_lap : Int32) (res : Int32) (h : f_X2_signHere N D_at T_numbers T_size = some res) : Met l yX2_signHere wsX2_signHere ({ frames := 1, cells := 0, slots := 0, locals := 21 }) (va_Pc [.ref aD] (wd (dC, dI) cI cZ cS [(aD, .inr (2, [.ref aT, .ref aR, .ref aD_numbers, .int D_letter, .int D_at])), (aD_numbers, .inl (cI, 3, .inl D_numbers)), (aT, .inr (4, [.ref aT_numbers, .int T_holds, va_rf T_laying, .int T_sort, .int T_size])), (aT_numbers, .inl (cI, 100, .inl T_numbers)), (aR, .inr (3, [.ref aR_inches, .ref aR_many, .ref aR_worth, .ref aR_lengths, .ref aR_laid, .ref aR_slates, .int R_widths, .int R_rows, .int R_lap])), (aR_inches, .inl (cI, 4, .inl R_inches)), (aR_many, .inl (cI, 4, .inl R_many)), (aR_worth, .inl (cI, 4, .inl R_worth)), (aR_lengths, .inl (cI, 6, .inl R_lengths)), (aR_laid, .inl (cI, 6, .inl R_laid)), (aR_slates, .inl (cI, 72, .inl R_slates))])) (vp_Si (fun r => r = res)) 0 0 (fun _ => False) := by
  refine Met.ofW (cc := cX2_signHere) (maxL := 1) (ret := (some .int)) (by decide) rfl ?_
  intro p e s m args below meth c s₁ B hml hv
  obtain ⟨rfl, hP, hK, hD⟩ := hv
  have hx := B.exec
  have hb := B.bytes
  have hr := B.returns
  have hts := atoms_spec (ws := wsX2_signHere) B.pre
  have hown : s.vm.findClass RX2 = some m.cls := findClass_of_methodNamed B.named
  have hlocks := B.notSynchronized
  have hl := lv_entry ([.ref aD]) (n := 1) (Nat.le_of_ble_eq_true rfl)
  rw [lg_entry_eq]
  generalize (lg_sl ([.ref aD]) ++ List.replicate (1 - (lg_sl ([.ref aD])).length) Slot.unset).toArray = ls at hl ⊢
  have hl : lv_has ls 1 [(0, .ref aD)] := hl
  unfold f_X2_signHere at h
  refine lv_aload_n hx hb dX2_signHere_0 rfl (lv_at hl 0 rfl) ?_
  refine va_get (D := (dC, dI)) (ci := 2) (v := .ref aT) (C := RX2) (T := TX2) (N := 5) hx hb hts (fun _ h => List.mem_cons_of_mem _ (List.mem_append_left _ (List.mem_append_right _ h))) hown hK hP 0 rfl rfl 0 (by decide) (hts (.fieldLink RX2 22 "SlateRows$Reader" "text" "LSlateRows$Shelf;") (by decide +kernel)) (fun _ h9 => h9) rfl dX2_signHere_1 ?_
  refine lv_aload_n hx hb dX2_signHere_4 rfl (lv_at hl 0 rfl) ?_
  refine va_get (D := (dC, dI)) (ci := 2) (v := .int D_at) (C := RX2) (T := TX2) (N := 5) hx hb hts (fun _ h => List.mem_cons_of_mem _ (List.mem_append_left _ (List.mem_append_right _ h))) hown hK hP 0 rfl rfl 4 (by decide) (hts (.fieldLink RX2 19 "SlateRows$Reader" "at" "I") (by decide +kernel)) (fun _ h9 => h9) rfl dX2_signHere_5 ?_
  obtain ⟨r_1, hg, h⟩ := bd_some h
  refine rdV (As := [.int D_at]) (rest := []) (ci := 4) ⟨hx, hb, hml, hown, hts⟩ (k_X4_hasPlace l dC dI cI cZ cS N aT aT_numbers T_numbers T_holds T_laying T_sort T_size D_at r_1 hg) (cwV 1 hts gX2_signHere_X4_hasPlace rfl rfl rfl cd_X4_hasPlace ⟨Nat.le_of_ble_eq_true rfl, Nat.le_of_ble_eq_true rfl⟩) hP hD hK [2, 3] (by decide) rfl rfl rfl rfl hl.1 rfl (Nat.le_of_ble_eq_true rfl) dX2_signHere_8 ⟨Nat.zero_le _, Nat.zero_le _⟩ ?_
  refine lv_if_eq (tgt := 29) hx hb dX2_signHere_11 (by decide) (fun c_2 => ?_) (fun c_2 => ?_)
  · have h := it_p c_2 h
    refine lv_iconst (v := 0) hx hb dX2_signHere_29 (by decide) ?_
    exact W.iret hx hb hr (fun t ht hW => ⟨_, rfl, Option.some.inj h, ht⟩) (fun q hq => by cases hq) dX2_signHere_30
  · have h := it_n c_2 h
    refine lv_aload_n hx hb dX2_signHere_14 rfl (lv_at hl 0 rfl) ?_
    refine va_get (D := (dC, dI)) (ci := 2) (v := .ref aT) (C := RX2) (T := TX2) (N := 5) hx hb hts (fun _ h => List.mem_cons_of_mem _ (List.mem_append_left _ (List.mem_append_right _ h))) hown hK hP 0 rfl rfl 0 (by decide) (hts (.fieldLink RX2 22 "SlateRows$Reader" "text" "LSlateRows$Shelf;") (by decide +kernel)) (fun _ h9 => h9) rfl dX2_signHere_15 ?_
    refine va_get (D := (dC, dI)) (ci := 4) (v := .ref aT_numbers) (C := RX4) (T := TX4) (N := 5) hx hb hts (fun _ h => List.mem_cons_of_mem _ (List.mem_append_right _ h)) hown hK hP 2 rfl rfl 0 (by decide) (hts (.fieldLink RX2 59 "SlateRows$Shelf" "numbers" "[I") (by decide +kernel)) (fun _ h9 => h9) rfl dX2_signHere_18 ?_
    refine lv_aload_n hx hb dX2_signHere_21 rfl (lv_at hl 0 rfl) ?_
    refine va_get (D := (dC, dI)) (ci := 2) (v := .int D_at) (C := RX2) (T := TX2) (N := 5) hx hb hts (fun _ h => List.mem_cons_of_mem _ (List.mem_append_left _ (List.mem_append_right _ h))) hown hK hP 0 rfl rfl 4 (by decide) (hts (.fieldLink RX2 19 "SlateRows$Reader" "at" "I") (by decide +kernel)) (fun _ h9 => h9) rfl dX2_signHere_22 ?_
    obtain ⟨hi, h⟩ := ck_some h
    refine va_iald hx hb hK hP 3 0 rfl rfl (gi_in hi) dX2_signHere_25 ?_
    refine lv_goto (tgt := 30) hx hb dX2_signHere_26 (by decide) ?_
    exact W.iret hx hb hr (fun t ht hW => ⟨_, rfl, Option.some.inj h, ht⟩) (fun q hq => by cases hq) dX2_signHere_30
def f_X2_isDigitHere (N : Nat) (D_at : Int32) (T_numbers : Nat → Int32) (T_size : Int32) : Option (Bool) :=
  (f_X2_signHere N D_at T_numbers T_size).bind fun r_1 => if r_1 < 48 then (some (false)) else ((f_X2_signHere N D_at T_numbers T_size).bind fun r_3 => if 57 < r_3 then (some (false)) else (some (true)))
set_option maxHeartbeats 4000000 in
set_option maxRecDepth 100000 in
theorem k_X2_isDigitHere (l : Launch) (dC : Nat → ClassId) (dI : Nat → Nat → Nat) (cI cZ cS : ClassId) (N : Nat) (aD aD_numbers aT aT_numbers aR aR_inches aR_many aR_worth aR_lengths aR_laid aR_slates : Nat) (D_numbers : Nat → Int32) (D_letter : Int32) (D_at : Int32) (T_numbers : Nat → Int32) (T_holds : Int32) (T_laying : Option Nat) (T_sort : Int32) (T_size : Int32) (R_inches : Nat → Int32) (R_many : Nat → Int32) (R_worth : Nat → Int32) (R_lengths : Nat → Int32) (R_laid : Nat → Int32) (R_slates : Nat → Int32) (R_widths : Int32) (R_rows : Int32) (R_lap : Int32) (res : Bool) (h : f_X2_isDigitHere N D_at T_numbers T_size = some res) : Met l yX2_isDigitHere wsX2_isDigitHere ({ frames := 2, cells := 0, slots := 0, locals := 41 }) (va_Pc [.ref aD] (wd (dC, dI) cI cZ cS [(aD, .inr (2, [.ref aT, .ref aR, .ref aD_numbers, .int D_letter, .int D_at])), (aD_numbers, .inl (cI, 3, .inl D_numbers)), (aT, .inr (4, [.ref aT_numbers, .int T_holds, va_rf T_laying, .int T_sort, .int T_size])), (aT_numbers, .inl (cI, 100, .inl T_numbers)), (aR, .inr (3, [.ref aR_inches, .ref aR_many, .ref aR_worth, .ref aR_lengths, .ref aR_laid, .ref aR_slates, .int R_widths, .int R_rows, .int R_lap])), (aR_inches, .inl (cI, 4, .inl R_inches)), (aR_many, .inl (cI, 4, .inl R_many)), (aR_worth, .inl (cI, 4, .inl R_worth)), (aR_lengths, .inl (cI, 6, .inl R_lengths)), (aR_laid, .inl (cI, 6, .inl R_laid)), (aR_slates, .inl (cI, 72, .inl R_slates))])) (vp_Si (fun r => r = b2i res)) 0 0 (fun _ => False) := by
  refine Met.ofW (cc := cX2_isDigitHere) (maxL := 1) (ret := (some .boolean)) (by decide) rfl ?_
  intro p e s m args below meth c s₁ B hml hv
  obtain ⟨rfl, hP, hK, hD⟩ := hv
  have hx := B.exec
  have hb := B.bytes
  have hr := B.returns
  have hts := atoms_spec (ws := wsX2_isDigitHere) B.pre
  have hown : s.vm.findClass RX2 = some m.cls := findClass_of_methodNamed B.named
  have hlocks := B.notSynchronized
  have hl := lv_entry ([.ref aD]) (n := 1) (Nat.le_of_ble_eq_true rfl)
  rw [lg_entry_eq]
  generalize (lg_sl ([.ref aD]) ++ List.replicate (1 - (lg_sl ([.ref aD])).length) Slot.unset).toArray = ls at hl ⊢
  have hl : lv_has ls 1 [(0, .ref aD)] := hl
  unfold f_X2_isDigitHere at h
  refine lv_aload_n hx hb dX2_isDigitHere_0 rfl (lv_at hl 0 rfl) ?_
  obtain ⟨r_1, hg, h⟩ := bd_some h
  refine rdV (As := []) (rest := []) (ci := 2) ⟨hx, hb, hml, hown, hts⟩ (k_X2_signHere l dC dI cI cZ cS N aD aD_numbers aT aT_numbers aR aR_inches aR_many aR_worth aR_lengths aR_laid aR_slates D_numbers D_letter D_at T_numbers T_holds T_laying T_sort T_size R_inches R_many R_worth R_lengths R_laid R_slates R_widths R_rows R_lap r_1 hg) (cwV 0 hts gX2_isDigitHere_X2_signHere rfl rfl rfl cd_X2_signHere ⟨Nat.le_of_ble_eq_true rfl, Nat.le_of_ble_eq_true rfl⟩) hP hD hK [0, 1, 2, 3, 4, 5, 6, 7, 8, 9, 10] (by decide) rfl rfl rfl rfl hl.1 rfl (Nat.le_of_ble_eq_true rfl) dX2_isDigitHere_1 ⟨Nat.zero_le _, Nat.zero_le _⟩ ?_
  refine lv_bipush (v := 48) hx hb dX2_isDigitHere_4 (by decide) ?_
  refine lv_icmp_lt (tgt := 22) hx hb dX2_isDigitHere_6 (by decide) (fun c_2 => ?_) (fun c_2 => ?_)
  · have h := it_p c_2 h
    refine lv_iconst (v := 0) hx hb dX2_isDigitHere_22 (by decide) ?_
    exact W.zret (v := b2i false) hx hb hr (b2i_nar _) (fun t ht hW => ⟨b2i false, rfl, congrArg b2i (Option.some.inj h), ht⟩) (fun q hq => by cases hq) dX2_isDigitHere_23
  · have h := it_n c_2 h
    refine lv_aload_n hx hb dX2_isDigitHere_9 rfl (lv_at hl 0 rfl) ?_
    obtain ⟨r_3, hg, h⟩ := bd_some h
    refine rdV (As := []) (rest := []) (ci := 2) ⟨hx, hb, hml, hown, hts⟩ (k_X2_signHere l dC dI cI cZ cS N aD aD_numbers aT aT_numbers aR aR_inches aR_many aR_worth aR_lengths aR_laid aR_slates D_numbers D_letter D_at T_numbers T_holds T_laying T_sort T_size R_inches R_many R_worth R_lengths R_laid R_slates R_widths R_rows R_lap r_3 hg) (cwV 0 hts gX2_isDigitHere_X2_signHere rfl rfl rfl cd_X2_signHere ⟨Nat.le_of_ble_eq_true rfl, Nat.le_of_ble_eq_true rfl⟩) hP hD hK [0, 1, 2, 3, 4, 5, 6, 7, 8, 9, 10] (by decide) rfl rfl rfl rfl hl.1 rfl (Nat.le_of_ble_eq_true rfl) dX2_isDigitHere_10 ⟨Nat.zero_le _, Nat.zero_le _⟩ ?_
    refine lv_bipush (v := 57) hx hb dX2_isDigitHere_13 (by decide) ?_
    refine lv_icmp_gt (tgt := 22) hx hb dX2_isDigitHere_15 (by decide) (fun c_4 => ?_) (fun c_4 => ?_)
    · have h := it_p c_4 h
      refine lv_iconst (v := 0) hx hb dX2_isDigitHere_22 (by decide) ?_
      exact W.zret (v := b2i false) hx hb hr (b2i_nar _) (fun t ht hW => ⟨b2i false, rfl, congrArg b2i (Option.some.inj h), ht⟩) (fun q hq => by cases hq) dX2_isDigitHere_23
    · have h := it_n c_4 h
      refine lv_iconst (v := 1) hx hb dX2_isDigitHere_18 (by decide) ?_
      refine lv_goto (tgt := 23) hx hb dX2_isDigitHere_19 (by decide) ?_
      exact W.zret (v := b2i true) hx hb hr (b2i_nar _) (fun t ht hW => ⟨b2i true, rfl, congrArg b2i (Option.some.inj h), ht⟩) (fun q hq => by cases hq) dX2_isDigitHere_23
def f_X2_readSign (N : Nat) (D_at : Int32) (T_numbers : Nat → Int32) (T_size : Int32) (x1 : Int32) : Option (Bool × Int32) :=
  (f_X2_signHere N D_at T_numbers T_size).bind fun r_1 => if r_1 = x1 then (some (true, (D_at + 1))) else (some (false, D_at))
set_option maxHeartbeats 4000000 in
set_option maxRecDepth 100000 in
theorem k_X2_readSign (l : Launch) (dC : Nat → ClassId) (dI : Nat → Nat → Nat) (cI cZ cS : ClassId) (N : Nat) (aD aD_numbers aT aT_numbers aR aR_inches aR_many aR_worth aR_lengths aR_laid aR_slates : Nat) (sz : Nat) (D_numbers : Nat → Int32) (D_letter : Int32) (D_at : Int32) (T_numbers : Nat → Int32) (T_holds : Int32) (T_laying : Option Nat) (T_sort : Int32) (T_size : Int32) (R_inches : Nat → Int32) (R_many : Nat → Int32) (R_worth : Nat → Int32) (R_lengths : Nat → Int32) (R_laid : Nat → Int32) (R_slates : Nat → Int32) (R_widths : Int32) (R_rows : Int32) (R_lap : Int32) (x1 : Int32) (res : Bool × Int32) (h : f_X2_readSign N D_at T_numbers T_size x1 = some res) : Met l yX2_readSign wsX2_readSign ({ frames := 2, cells := 0, slots := 0, locals := 41 }) (va_Pc [.ref aD, .int x1] (preW (dC, dI) cI cZ cS [(aD, .inr (2, [.ref aT, .ref aR, .ref aD_numbers, .int D_letter, .int D_at])), (aD_numbers, .inl (cI, 3, .inl D_numbers)), (aT, .inr (4, [.ref aT_numbers, .int T_holds, va_rf T_laying, .int T_sort, .int T_size])), (aT_numbers, .inl (cI, 100, .inl T_numbers)), (aR, .inr (3, [.ref aR_inches, .ref aR_many, .ref aR_worth, .ref aR_lengths, .ref aR_laid, .ref aR_slates, .int R_widths, .int R_rows, .int R_lap])), (aR_inches, .inl (cI, 4, .inl R_inches)), (aR_many, .inl (cI, 4, .inl R_many)), (aR_worth, .inl (cI, 4, .inl R_worth)), (aR_lengths, .inl (cI, 6, .inl R_lengths)), (aR_laid, .inl (cI, 6, .inl R_laid)), (aR_slates, .inl (cI, 72, .inl R_slates))] sz)) (va_Qi (fun (r : Int32) (_ : Unit) => r = b2i res.1) (fun _ => qW (dC, dI) cI cZ cS (va_A [(aD, .inr (2, [.ref aT, .ref aR, .ref aD_numbers, .int D_letter, .int D_at])), (aD_numbers, .inl (cI, 3, .inl D_numbers)), (aT, .inr (4, [.ref aT_numbers, .int T_holds, va_rf T_laying, .int T_sort, .int T_size])), (aT_numbers, .inl (cI, 100, .inl T_numbers)), (aR, .inr (3, [.ref aR_inches, .ref aR_many, .ref aR_worth, .ref aR_lengths, .ref aR_laid, .ref aR_slates, .int R_widths, .int R_rows, .int R_lap])), (aR_inches, .inl (cI, 4, .inl R_inches)), (aR_many, .inl (cI, 4, .inl R_many)), (aR_worth, .inl (cI, 4, .inl R_worth)), (aR_lengths, .inl (cI, 6, .inl R_lengths)), (aR_laid, .inl (cI, 6, .inl R_laid)), (aR_slates, .inl (cI, 72, .inl R_slates))] sz) [(aD, .inr (2, [.ref aT, .ref aR, .ref aD_numbers, .int D_letter, .int res.2])), (aD_numbers, .inl (cI, 3, .inl D_numbers)), (aT, .inr (4, [.ref aT_numbers, .int T_holds, va_rf T_laying, .int T_sort, .int T_size])), (aT_numbers, .inl (cI, 100, .inl T_numbers)), (aR, .inr (3, [.ref aR_inches, .ref aR_many, .ref aR_worth, .ref aR_lengths, .ref aR_laid, .ref aR_slates, .int R_widths, .int R_rows, .int R_lap])), (aR_inches, .inl (cI, 4, .inl R_inches)), (aR_many, .inl (cI, 4, .inl R_many)), (aR_worth, .inl (cI, 4, .inl R_worth)), (aR_lengths, .inl (cI, 6, .inl R_lengths)), (aR_laid, .inl (cI, 6, .inl R_laid)), (aR_slates, .inl (cI, 72, .inl R_slates))]) (va_A [(aD, .inr (2, [.ref aT, .ref aR, .ref aD_numbers, .int D_letter, .int D_at])), (aD_numbers, .inl (cI, 3, .inl D_numbers)), (aT, .inr (4, [.ref aT_numbers, .int T_holds, va_rf T_laying, .int T_sort, .int T_size])), (aT_numbers, .inl (cI, 100, .inl T_numbers)), (aR, .inr (3, [.ref aR_inches, .ref aR_many, .ref aR_worth, .ref aR_lengths, .ref aR_laid, .ref aR_slates, .int R_widths, .int R_rows, .int R_lap])), (aR_inches, .inl (cI, 4, .inl R_inches)), (aR_many, .inl (cI, 4, .inl R_many)), (aR_worth, .inl (cI, 4, .inl R_worth)), (aR_lengths, .inl (cI, 6, .inl R_lengths)), (aR_laid, .inl (cI, 6, .inl R_laid)), (aR_slates, .inl (cI, 72, .inl R_slates))] sz)) 0 0 (va_A [(aD, .inr (2, [.ref aT, .ref aR, .ref aD_numbers, .int D_letter, .int D_at])), (aD_numbers, .inl (cI, 3, .inl D_numbers)), (aT, .inr (4, [.ref aT_numbers, .int T_holds, va_rf T_laying, .int T_sort, .int T_size])), (aT_numbers, .inl (cI, 100, .inl T_numbers)), (aR, .inr (3, [.ref aR_inches, .ref aR_many, .ref aR_worth, .ref aR_lengths, .ref aR_laid, .ref aR_slates, .int R_widths, .int R_rows, .int R_lap])), (aR_inches, .inl (cI, 4, .inl R_inches)), (aR_many, .inl (cI, 4, .inl R_many)), (aR_worth, .inl (cI, 4, .inl R_worth)), (aR_lengths, .inl (cI, 6, .inl R_lengths)), (aR_laid, .inl (cI, 6, .inl R_laid)), (aR_slates, .inl (cI, 72, .inl R_slates))] sz) := by
  refine Met.ofW (cc := cX2_readSign) (maxL := 2) (ret := (some .boolean)) (by decide) rfl ?_
  intro p e s m args below meth c s₁ B hml hv
  obtain ⟨rfl, hsz, hP, hK, hD0⟩ := hv
  have hx := B.exec
  have hb := B.bytes
  have hr := B.returns
  have hts := atoms_spec (ws := wsX2_readSign) B.pre
  have hown : s.vm.findClass RX2 = some m.cls := findClass_of_methodNamed B.named
  have hlocks := B.notSynchronized
  subst hsz
  have hD := hD0.self (sz := s.heap.size)
  generalize hAe : va_A [(aD, .inr (2, [.ref aT, .ref aR, .ref aD_numbers, .int D_letter, .int D_at])), (aD_numbers, .inl (cI, 3, .inl D_numbers)), (aT, .inr (4, [.ref aT_numbers, .int T_holds, va_rf T_laying, .int T_sort, .int T_size])), (aT_numbers, .inl (cI, 100, .inl T_numbers)), (aR, .inr (3, [.ref aR_inches, .ref aR_many, .ref aR_worth, .ref aR_lengths, .ref aR_laid, .ref aR_slates, .int R_widths, .int R_rows, .int R_lap])), (aR_inches, .inl (cI, 4, .inl R_inches)), (aR_many, .inl (cI, 4, .inl R_many)), (aR_worth, .inl (cI, 4, .inl R_worth)), (aR_lengths, .inl (cI, 6, .inl R_lengths)), (aR_laid, .inl (cI, 6, .inl R_laid)), (aR_slates, .inl (cI, 72, .inl R_slates))] s.heap.size = A at hD ⊢
  have hA : ∀ q : Nat, s.heap.size ≤ q → A q := fun q h => by rw [← hAe]; exact Or.inr h
  have hS : va_S A s.heap s.heap [] := va_S.rf
  have hl := lv_entry ([.ref aD, .int x1]) (n := 2) (Nat.le_of_ble_eq_true rfl)
  rw [lg_entry_eq]
  generalize (lg_sl ([.ref aD, .int x1]) ++ List.replicate (2 - (lg_sl ([.ref aD, .int x1])).length) Slot.unset).toArray = ls at hl ⊢
  have hl : lv_has ls 2 [(0, .ref aD), (1, .int x1)] := hl
  unfold f_X2_readSign at h
  refine lv_aload_n hx hb dX2_readSign_0 rfl (lv_at hl 0 rfl) ?_
  obtain ⟨r_1, hg, h⟩ := bd_some h
  refine rdV (As := []) (rest := []) (ci := 2) ⟨hx, hb, hml, hown, hts⟩ (k_X2_signHere l dC dI cI cZ cS N aD aD_numbers aT aT_numbers aR aR_inches aR_many aR_worth aR_lengths aR_laid aR_slates D_numbers D_letter D_at T_numbers T_holds T_laying T_sort T_size R_inches R_many R_worth R_lengths R_laid R_slates R_widths R_rows R_lap r_1 hg) (cwV 0 hts gX2_readSign_X2_signHere rfl rfl rfl cd_X2_signHere ⟨Nat.le_of_ble_eq_true rfl, Nat.le_of_ble_eq_true rfl⟩) hP hD hK [0, 1, 2, 3, 4, 5, 6, 7, 8, 9, 10] (by decide) rfl rfl rfl rfl hl.1 rfl (Nat.le_of_ble_eq_true rfl) dX2_readSign_1 ⟨Nat.zero_le _, Nat.zero_le _⟩ ?_
  refine lv_iload_n hx hb dX2_readSign_4 rfl (lv_at hl 1 rfl) ?_
  refine lv_icmp_eq (tgt := 10) hx hb dX2_readSign_5 (by decide) (fun c_2 => ?_) (fun c_2 => ?_)
  · have h := it_p c_2 h
    refine lv_aload_n hx hb dX2_readSign_10 rfl (lv_at hl 0 rfl) ?_
    refine lv_dup hx hb dX2_readSign_11 rfl ?_
    refine va_get (D := (dC, dI)) (ci := 2) (v := .int D_at) (C := RX2) (T := TX2) (N := 5) hx hb hts (fun _ h => List.mem_cons_of_mem _ (List.mem_append_left _ (List.mem_append_right _ h))) hown hK hP 0 rfl rfl 4 (by decide) (hts (.fieldLink RX2 19 "SlateRows$Reader" "at" "I") (by decide +kernel)) (fun _ h9 => h9) rfl dX2_readSign_12 ?_
    refine lv_iconst (v := 1) hx hb dX2_readSign_15 (by decide) ?_
    refine lv_iadd hx hb dX2_readSign_16 ?_
    refine va_put (D := (dC, dI)) (ci := 2) (v := .int (D_at + 1)) (ty := .int) (C := RX2) (T := TX2) (N := 5) hx hb hts (fun _ h => List.mem_cons_of_mem _ (List.mem_append_left _ (List.mem_append_right _ h))) tyX2 tyX2_ok nmX2 hown hK hP hD hS 0 rfl rfl 4 (by decide) (hts (.fieldLink RX2 19 "SlateRows$Reader" "at" "I") (by decide +kernel)) (fun _ h9 => h9) rfl (by decide +kernel) rfl rfl (Nat.le_of_ble_eq_true rfl) dX2_readSign_17 (fun H locs hP hD hS => ?_)
    have hP : va_P (dC, dI) vwCl [(aD, .inr (2, [.ref aT, .ref aR, .ref aD_numbers, .int D_letter, .int (D_at + 1)])), (aD_numbers, .inl (cI, 3, .inl D_numbers)), (aT, .inr (4, [.ref aT_numbers, .int T_holds, va_rf T_laying, .int T_sort, .int T_size])), (aT_numbers, .inl (cI, 100, .inl T_numbers)), (aR, .inr (3, [.ref aR_inches, .ref aR_many, .ref aR_worth, .ref aR_lengths, .ref aR_laid, .ref aR_slates, .int R_widths, .int R_rows, .int R_lap])), (aR_inches, .inl (cI, 4, .inl R_inches)), (aR_many, .inl (cI, 4, .inl R_many)), (aR_worth, .inl (cI, 4, .inl R_worth)), (aR_lengths, .inl (cI, 6, .inl R_lengths)), (aR_laid, .inl (cI, 6, .inl R_laid)), (aR_slates, .inl (cI, 72, .inl R_slates))] H := hP
    have hD : va_D A [(aD, .inr (2, [.ref aT, .ref aR, .ref aD_numbers, .int D_letter, .int (D_at + 1)])), (aD_numbers, .inl (cI, 3, .inl D_numbers)), (aT, .inr (4, [.ref aT_numbers, .int T_holds, va_rf T_laying, .int T_sort, .int T_size])), (aT_numbers, .inl (cI, 100, .inl T_numbers)), (aR, .inr (3, [.ref aR_inches, .ref aR_many, .ref aR_worth, .ref aR_lengths, .ref aR_laid, .ref aR_slates, .int R_widths, .int R_rows, .int R_lap])), (aR_inches, .inl (cI, 4, .inl R_inches)), (aR_many, .inl (cI, 4, .inl R_many)), (aR_worth, .inl (cI, 4, .inl R_worth)), (aR_lengths, .inl (cI, 6, .inl R_lengths)), (aR_laid, .inl (cI, 6, .inl R_laid)), (aR_slates, .inl (cI, 72, .inl R_slates))] := hD
    refine lv_iconst (v := 1) hx hb dX2_readSign_20 (by decide) ?_
    have h := Option.some.inj h
    exact W.zret (v := b2i true) hx hb hr (b2i_nar _) (fun t ht hW => ⟨⟨_, (), rfl, by rw [← h], by (try rw [← h]); rw [ht]; exact hP, va_K.moved hW.alike hK, by (try rw [← h]); exact hD⟩, hS.F ht⟩) hS.2.2 dX2_readSign_21
  · have h := it_n c_2 h
    refine lv_iconst (v := 0) hx hb dX2_readSign_8 (by decide) ?_
    have h := Option.some.inj h
    exact W.zret (v := b2i false) hx hb hr (b2i_nar _) (fun t ht hW => ⟨⟨_, (), rfl, by rw [← h], by (try rw [← h]); rw [ht]; exact hP, va_K.moved hW.alike hK, by (try rw [← h]); exact hD⟩, hS.F ht⟩) hS.2.2 dX2_readSign_9
def f_X2_readNumber (N : Nat) (D_numbers : Nat → Int32) (D_at : Int32) (T_numbers : Nat → Int32) (T_size : Int32) (x1 : Int32) : Option (Bool × (Nat → Int32) × Int32) :=
  (f_X2_isDigitHere N D_at T_numbers T_size).bind fun r_1 => if (b2i r_1) = 0 then (some (false, D_numbers, D_at)) else ((f_X2_signHere N D_at T_numbers T_size).bind fun r_3 => ck (gi x1 3) (ck (gi x1 3) (if ((upd D_numbers x1.toNatClampNeg (r_3 - 48)) x1.toNatClampNeg) ≤ 0 then (some (true, (upd D_numbers x1.toNatClampNeg (r_3 - 48)), (D_at + 1))) else ((f_X2_isDigitHere N (D_at + 1) T_numbers T_size).bind fun r_5 => if (b2i r_5) = 0 then (some (true, (upd D_numbers x1.toNatClampNeg (r_3 - 48)), (D_at + 1))) else (ck (gi x1 3) ((f_X2_signHere N (D_at + 1) T_numbers T_size).bind fun r_7 => ck (gi x1 3) (some (true, (upd (upd D_numbers x1.toNatClampNeg (r_3 - 48)) x1.toNatClampNeg (((((upd D_numbers x1.toNatClampNeg (r_3 - 48)) x1.toNatClampNeg) * 10) + r_7) - 48)), ((D_at + 1) + 1)))))))))
set_option maxHeartbeats 4000000 in
set_option maxRecDepth 100000 in
theorem k_X2_readNumber (l : Launch) (dC : Nat → ClassId) (dI : Nat → Nat → Nat) (cI cZ cS : ClassId) (N : Nat) (aD aD_numbers aT aT_numbers aR aR_inches aR_many aR_worth aR_lengths aR_laid aR_slates : Nat) (sz : Nat) (D_numbers : Nat → Int32) (D_letter : Int32) (D_at : Int32) (T_numbers : Nat → Int32) (T_holds : Int32) (T_laying : Option Nat) (T_sort : Int32) (T_size : Int32) (R_inches : Nat → Int32) (R_many : Nat → Int32) (R_worth : Nat → Int32) (R_lengths : Nat → Int32) (R_laid : Nat → Int32) (R_slates : Nat → Int32) (R_widths : Int32) (R_rows : Int32) (R_lap : Int32) (x1 : Int32) (res : Bool × (Nat → Int32) × Int32) (h : f_X2_readNumber N D_numbers D_at T_numbers T_size x1 = some res) : Met l yX2_readNumber wsX2_readNumber ({ frames := 3, cells := 0, slots := 0, locals := 61 }) (va_Pc [.ref aD, .int x1] (preW (dC, dI) cI cZ cS [(aD, .inr (2, [.ref aT, .ref aR, .ref aD_numbers, .int D_letter, .int D_at])), (aD_numbers, .inl (cI, 3, .inl D_numbers)), (aT, .inr (4, [.ref aT_numbers, .int T_holds, va_rf T_laying, .int T_sort, .int T_size])), (aT_numbers, .inl (cI, 100, .inl T_numbers)), (aR, .inr (3, [.ref aR_inches, .ref aR_many, .ref aR_worth, .ref aR_lengths, .ref aR_laid, .ref aR_slates, .int R_widths, .int R_rows, .int R_lap])), (aR_inches, .inl (cI, 4, .inl R_inches)), (aR_many, .inl (cI, 4, .inl R_many)), (aR_worth, .inl (cI, 4, .inl R_worth)), (aR_lengths, .inl (cI, 6, .inl R_lengths)), (aR_laid, .inl (cI, 6, .inl R_laid)), (aR_slates, .inl (cI, 72, .inl R_slates))] sz)) (va_Qi (fun (r : Int32) (_ : Unit) => r = b2i res.1) (fun _ => qW (dC, dI) cI cZ cS (va_A [(aD, .inr (2, [.ref aT, .ref aR, .ref aD_numbers, .int D_letter, .int D_at])), (aD_numbers, .inl (cI, 3, .inl D_numbers)), (aT, .inr (4, [.ref aT_numbers, .int T_holds, va_rf T_laying, .int T_sort, .int T_size])), (aT_numbers, .inl (cI, 100, .inl T_numbers)), (aR, .inr (3, [.ref aR_inches, .ref aR_many, .ref aR_worth, .ref aR_lengths, .ref aR_laid, .ref aR_slates, .int R_widths, .int R_rows, .int R_lap])), (aR_inches, .inl (cI, 4, .inl R_inches)), (aR_many, .inl (cI, 4, .inl R_many)), (aR_worth, .inl (cI, 4, .inl R_worth)), (aR_lengths, .inl (cI, 6, .inl R_lengths)), (aR_laid, .inl (cI, 6, .inl R_laid)), (aR_slates, .inl (cI, 72, .inl R_slates))] sz) [(aD, .inr (2, [.ref aT, .ref aR, .ref aD_numbers, .int D_letter, .int res.2.2])), (aD_numbers, .inl (cI, 3, .inl res.2.1)), (aT, .inr (4, [.ref aT_numbers, .int T_holds, va_rf T_laying, .int T_sort, .int T_size])), (aT_numbers, .inl (cI, 100, .inl T_numbers)), (aR, .inr (3, [.ref aR_inches, .ref aR_many, .ref aR_worth, .ref aR_lengths, .ref aR_laid, .ref aR_slates, .int R_widths, .int R_rows, .int R_lap])), (aR_inches, .inl (cI, 4, .inl R_inches)), (aR_many, .inl (cI, 4, .inl R_many)), (aR_worth, .inl (cI, 4, .inl R_worth)), (aR_lengths, .inl (cI, 6, .inl R_lengths)), (aR_laid, .inl (cI, 6, .inl R_laid)), (aR_slates, .inl (cI, 72, .inl R_slates))]) (va_A [(aD, .inr (2, [.ref aT, .ref aR, .ref aD_numbers, .int D_letter, .int D_at])), (aD_numbers, .inl (cI, 3, .inl D_numbers)), (aT, .inr (4, [.ref aT_numbers, .int T_holds, va_rf T_laying, .int T_sort, .int T_size])), (aT_numbers, .inl (cI, 100, .inl T_numbers)), (aR, .inr (3, [.ref aR_inches, .ref aR_many, .ref aR_worth, .ref aR_lengths, .ref aR_laid, .ref aR_slates, .int R_widths, .int R_rows, .int R_lap])), (aR_inches, .inl (cI, 4, .inl R_inches)), (aR_many, .inl (cI, 4, .inl R_many)), (aR_worth, .inl (cI, 4, .inl R_worth)), (aR_lengths, .inl (cI, 6, .inl R_lengths)), (aR_laid, .inl (cI, 6, .inl R_laid)), (aR_slates, .inl (cI, 72, .inl R_slates))] sz)) 0 0 (va_A [(aD, .inr (2, [.ref aT, .ref aR, .ref aD_numbers, .int D_letter, .int D_at])), (aD_numbers, .inl (cI, 3, .inl D_numbers)), (aT, .inr (4, [.ref aT_numbers, .int T_holds, va_rf T_laying, .int T_sort, .int T_size])), (aT_numbers, .inl (cI, 100, .inl T_numbers)), (aR, .inr (3, [.ref aR_inches, .ref aR_many, .ref aR_worth, .ref aR_lengths, .ref aR_laid, .ref aR_slates, .int R_widths, .int R_rows, .int R_lap])), (aR_inches, .inl (cI, 4, .inl R_inches)), (aR_many, .inl (cI, 4, .inl R_many)), (aR_worth, .inl (cI, 4, .inl R_worth)), (aR_lengths, .inl (cI, 6, .inl R_lengths)), (aR_laid, .inl (cI, 6, .inl R_laid)), (aR_slates, .inl (cI, 72, .inl R_slates))] sz) := by
  refine Met.ofW (cc := cX2_readNumber) (maxL := 2) (ret := (some .boolean)) (by decide) rfl ?_
  intro p e s m args below meth c s₁ B hml hv
  obtain ⟨rfl, hsz, hP, hK, hD0⟩ := hv
  have hx := B.exec
  have hb := B.bytes
  have hr := B.returns
  have hts := atoms_spec (ws := wsX2_readNumber) B.pre
  have hown : s.vm.findClass RX2 = some m.cls := findClass_of_methodNamed B.named
  have hlocks := B.notSynchronized
  subst hsz
  have hD := hD0.self (sz := s.heap.size)
  generalize hAe : va_A [(aD, .inr (2, [.ref aT, .ref aR, .ref aD_numbers, .int D_letter, .int D_at])), (aD_numbers, .inl (cI, 3, .inl D_numbers)), (aT, .inr (4, [.ref aT_numbers, .int T_holds, va_rf T_laying, .int T_sort, .int T_size])), (aT_numbers, .inl (cI, 100, .inl T_numbers)), (aR, .inr (3, [.ref aR_inches, .ref aR_many, .ref aR_worth, .ref aR_lengths, .ref aR_laid, .ref aR_slates, .int R_widths, .int R_rows, .int R_lap])), (aR_inches, .inl (cI, 4, .inl R_inches)), (aR_many, .inl (cI, 4, .inl R_many)), (aR_worth, .inl (cI, 4, .inl R_worth)), (aR_lengths, .inl (cI, 6, .inl R_lengths)), (aR_laid, .inl (cI, 6, .inl R_laid)), (aR_slates, .inl (cI, 72, .inl R_slates))] s.heap.size = A at hD ⊢
  have hA : ∀ q : Nat, s.heap.size ≤ q → A q := fun q h => by rw [← hAe]; exact Or.inr h
  have hS : va_S A s.heap s.heap [] := va_S.rf
  have hl := lv_entry ([.ref aD, .int x1]) (n := 2) (Nat.le_of_ble_eq_true rfl)
  rw [lg_entry_eq]
  generalize (lg_sl ([.ref aD, .int x1]) ++ List.replicate (2 - (lg_sl ([.ref aD, .int x1])).length) Slot.unset).toArray = ls at hl ⊢
  have hl : lv_has ls 2 [(0, .ref aD), (1, .int x1)] := hl
  unfold f_X2_readNumber at h
  refine lv_aload_n hx hb dX2_readNumber_0 rfl (lv_at hl 0 rfl) ?_
  obtain ⟨r_1, hg, h⟩ := bd_some h
  refine rdV (As := []) (rest := []) (ci := 2) ⟨hx, hb, hml, hown, hts⟩ (k_X2_isDigitHere l dC dI cI cZ cS N aD aD_numbers aT aT_numbers aR aR_inches aR_many aR_worth aR_lengths aR_laid aR_slates D_numbers D_letter D_at T_numbers T_holds T_laying T_sort T_size R_inches R_many R_worth R_lengths R_laid R_slates R_widths R_rows R_lap r_1 hg) (cwV 0 hts gX2_readNumber_X2_isDigitHere rfl rfl rfl cd_X2_isDigitHere ⟨Nat.le_of_ble_eq_true rfl, Nat.le_of_ble_eq_true rfl⟩) hP hD hK [0, 1, 2, 3, 4, 5, 6, 7, 8, 9, 10] (by decide) rfl rfl rfl rfl hl.1 rfl (Nat.le_of_ble_eq_true rfl) dX2_readNumber_1 ⟨Nat.zero_le _, Nat.zero_le _⟩ ?_
  refine lv_if_ne (tgt := 9) hx hb dX2_readNumber_4 (by decide) (fun c_2 => ?_) (fun c_2 => ?_)
  · have h := it_n c_2 h
    refine lv_aload_n hx hb dX2_readNumber_9 rfl (lv_at hl 0 rfl) ?_
    refine va_get (D := (dC, dI)) (ci := 2) (v := .ref aD_numbers) (C := RX2) (T := TX2) (N := 5) hx hb hts (fun _ h => List.mem_cons_of_mem _ (List.mem_append_left _ (List.mem_append_right _ h))) hown hK hP 0 rfl rfl 2 (by decide) (hts (.fieldLink RX2 9 "SlateRows$Reader" "numbers" "[I") (by decide +kernel)) (fun _ h9 => h9) rfl dX2_readNumber_10 ?_
    refine lv_iload_n hx hb dX2_readNumber_13 rfl (lv_at hl 1 rfl) ?_
    refine lv_aload_n hx hb dX2_readNumber_14 rfl (lv_at hl 0 rfl) ?_
    obtain ⟨r_3, hg, h⟩ := bd_some h
    refine rdV (As := []) (rest := [.int x1, .ref aD_numbers]) (ci := 2) ⟨hx, hb, hml, hown, hts⟩ (k_X2_signHere l dC dI cI cZ cS N aD aD_numbers aT aT_numbers aR aR_inches aR_many aR_worth aR_lengths aR_laid aR_slates D_numbers D_letter D_at T_numbers T_holds T_laying T_sort T_size R_inches R_many R_worth R_lengths R_laid R_slates R_widths R_rows R_lap r_3 hg) (cwV 0 hts gX2_readNumber_X2_signHere rfl rfl rfl cd_X2_signHere ⟨Nat.le_of_ble_eq_true rfl, Nat.le_of_ble_eq_true rfl⟩) hP hD hK [0, 1, 2, 3, 4, 5, 6, 7, 8, 9, 10] (by decide) rfl rfl rfl rfl hl.1 rfl (Nat.le_of_ble_eq_true rfl) dX2_readNumber_15 ⟨Nat.zero_le _, Nat.zero_le _⟩ ?_
    refine lv_bipush (v := 48) hx hb dX2_readNumber_18 (by decide) ?_
    refine lv_isub hx hb dX2_readNumber_20 ?_
    obtain ⟨hi, h⟩ := ck_some h
    refine va_iast hx hb hK hP hD hS 1 0 rfl rfl (gi_in hi) dX2_readNumber_21 (fun H locs hP hD hS => ?_)
    have hP : va_P (dC, dI) vwCl [(aD, .inr (2, [.ref aT, .ref aR, .ref aD_numbers, .int D_letter, .int D_at])), (aD_numbers, .inl (cI, 3, .inl (upd D_numbers x1.toNatClampNeg (r_3 - 48)))), (aT, .inr (4, [.ref aT_numbers, .int T_holds, va_rf T_laying, .int T_sort, .int T_size])), (aT_numbers, .inl (cI, 100, .inl T_numbers)), (aR, .inr (3, [.ref aR_inches, .ref aR_many, .ref aR_worth, .ref aR_lengths, .ref aR_laid, .ref aR_slates, .int R_widths, .int R_rows, .int R_lap])), (aR_inches, .inl (cI, 4, .inl R_inches)), (aR_many, .inl (cI, 4, .inl R_many)), (aR_worth, .inl (cI, 4, .inl R_worth)), (aR_lengths, .inl (cI, 6, .inl R_lengths)), (aR_laid, .inl (cI, 6, .inl R_laid)), (aR_slates, .inl (cI, 72, .inl R_slates))] H := hP
    have hD : va_D A [(aD, .inr (2, [.ref aT, .ref aR, .ref aD_numbers, .int D_letter, .int D_at])), (aD_numbers, .inl (cI, 3, .inl (upd D_numbers x1.toNatClampNeg (r_3 - 48)))), (aT, .inr (4, [.ref aT_numbers, .int T_holds, va_rf T_laying, .int T_sort, .int T_size])), (aT_numbers, .inl (cI, 100, .inl T_numbers)), (aR, .inr (3, [.ref aR_inches, .ref aR_many, .ref aR_worth, .ref aR_lengths, .ref aR_laid, .ref aR_slates, .int R_widths, .int R_rows, .int R_lap])), (aR_inches, .inl (cI, 4, .inl R_inches)), (aR_many, .inl (cI, 4, .inl R_many)), (aR_worth, .inl (cI, 4, .inl R_worth)), (aR_lengths, .inl (cI, 6, .inl R_lengths)), (aR_laid, .inl (cI, 6, .inl R_laid)), (aR_slates, .inl (cI, 72, .inl R_slates))] := hD
    refine lv_aload_n hx hb dX2_readNumber_22 rfl (lv_at hl 0 rfl) ?_
    refine lv_dup hx hb dX2_readNumber_23 rfl ?_
    refine va_get (D := (dC, dI)) (ci := 2) (v := .int D_at) (C := RX2) (T := TX2) (N := 5) hx hb hts (fun _ h => List.mem_cons_of_mem _ (List.mem_append_left _ (List.mem_append_right _ h))) hown hK hP 0 rfl rfl 4 (by decide) (hts (.fieldLink RX2 19 "SlateRows$Reader" "at" "I") (by decide +kernel)) (fun _ h9 => h9) rfl dX2_readNumber_24 ?_
    refine lv_iconst (v := 1) hx hb dX2_readNumber_27 (by decide) ?_
    refine lv_iadd hx hb dX2_readNumber_28 ?_
    refine va_put (D := (dC, dI)) (ci := 2) (v := .int (D_at + 1)) (ty := .int) (C := RX2) (T := TX2) (N := 5) hx hb hts (fun _ h => List.mem_cons_of_mem _ (List.mem_append_left _ (List.mem_append_right _ h))) tyX2 tyX2_ok nmX2 hown hK hP hD hS 0 rfl rfl 4 (by decide) (hts (.fieldLink RX2 19 "SlateRows$Reader" "at" "I") (by decide +kernel)) (fun _ h9 => h9) rfl (by decide +kernel) rfl rfl (Nat.le_of_ble_eq_true rfl) dX2_readNumber_29 (fun H locs hP hD hS => ?_)
    have hP : va_P (dC, dI) vwCl [(aD, .inr (2, [.ref aT, .ref aR, .ref aD_numbers, .int D_letter, .int (D_at + 1)])), (aD_numbers, .inl (cI, 3, .inl (upd D_numbers x1.toNatClampNeg (r_3 - 48)))), (aT, .inr (4, [.ref aT_numbers, .int T_holds, va_rf T_laying, .int T_sort, .int T_size])), (aT_numbers, .inl (cI, 100, .inl T_numbers)), (aR, .inr (3, [.ref aR_inches, .ref aR_many, .ref aR_worth, .ref aR_lengths, .ref aR_laid, .ref aR_slates, .int R_widths, .int R_rows, .int R_lap])), (aR_inches, .inl (cI, 4, .inl R_inches)), (aR_many, .inl (cI, 4, .inl R_many)), (aR_worth, .inl (cI, 4, .inl R_worth)), (aR_lengths, .inl (cI, 6, .inl R_lengths)), (aR_laid, .inl (cI, 6, .inl R_laid)), (aR_slates, .inl (cI, 72, .inl R_slates))] H := hP
    have hD : va_D A [(aD, .inr (2, [.ref aT, .ref aR, .ref aD_numbers, .int D_letter, .int (D_at + 1)])), (aD_numbers, .inl (cI, 3, .inl (upd D_numbers x1.toNatClampNeg (r_3 - 48)))), (aT, .inr (4, [.ref aT_numbers, .int T_holds, va_rf T_laying, .int T_sort, .int T_size])), (aT_numbers, .inl (cI, 100, .inl T_numbers)), (aR, .inr (3, [.ref aR_inches, .ref aR_many, .ref aR_worth, .ref aR_lengths, .ref aR_laid, .ref aR_slates, .int R_widths, .int R_rows, .int R_lap])), (aR_inches, .inl (cI, 4, .inl R_inches)), (aR_many, .inl (cI, 4, .inl R_many)), (aR_worth, .inl (cI, 4, .inl R_worth)), (aR_lengths, .inl (cI, 6, .inl R_lengths)), (aR_laid, .inl (cI, 6, .inl R_laid)), (aR_slates, .inl (cI, 72, .inl R_slates))] := hD
    refine lv_aload_n hx hb dX2_readNumber_32 rfl (lv_at hl 0 rfl) ?_
    refine va_get (D := (dC, dI)) (ci := 2) (v := .ref aD_numbers) (C := RX2) (T := TX2) (N := 5) hx hb hts (fun _ h => List.mem_cons_of_mem _ (List.mem_append_left _ (List.mem_append_right _ h))) hown hK hP 0 rfl rfl 2 (by decide) (hts (.fieldLink RX2 9 "SlateRows$Reader" "numbers" "[I") (by decide +kernel)) (fun _ h9 => h9) rfl dX2_readNumber_33 ?_
    refine lv_iload_n hx hb dX2_readNumber_36 rfl (lv_at hl 1 rfl) ?_
    obtain ⟨hi, h⟩ := ck_some h
    refine va_iald hx hb hK hP 1 0 rfl rfl (gi_in hi) dX2_readNumber_37 ?_
    refine lv_if_le (tgt := 81) hx hb dX2_readNumber_38 (by decide) (fun c_4 => ?_) (fun c_4 => ?_)
    · have h := it_p c_4 h
      refine lv_iconst (v := 1) hx hb dX2_readNumber_81 (by decide) ?_
      have h := Option.some.inj h
      exact W.zret (v := b2i true) hx hb hr (b2i_nar _) (fun t ht hW => ⟨⟨_, (), rfl, by rw [← h], by (try rw [← h]); rw [ht]; exact hP, va_K.moved hW.alike hK, by (try rw [← h]); exact hD⟩, hS.F ht⟩) hS.2.2 dX2_readNumber_82
    · have h := it_n c_4 h
      refine lv_aload_n hx hb dX2_readNumber_41 rfl (lv_at hl 0 rfl) ?_
      obtain ⟨r_5, hg, h⟩ := bd_some h
      refine rdV (As := []) (rest := []) (ci := 2) ⟨hx, hb, hml, hown, hts⟩ (k_X2_isDigitHere l dC dI cI cZ cS N aD aD_numbers aT aT_numbers aR aR_inches aR_many aR_worth aR_lengths aR_laid aR_slates (upd D_numbers x1.toNatClampNeg (r_3 - 48)) D_letter (D_at + 1) T_numbers T_holds T_laying T_sort T_size R_inches R_many R_worth R_lengths R_laid R_slates R_widths R_rows R_lap r_5 hg) (cwV 0 hts gX2_readNumber_X2_isDigitHere rfl rfl rfl cd_X2_isDigitHere ⟨Nat.le_of_ble_eq_true rfl, Nat.le_of_ble_eq_true rfl⟩) hP hD hK [0, 1, 2, 3, 4, 5, 6, 7, 8, 9, 10] (by decide) rfl rfl rfl rfl hl.1 rfl (Nat.le_of_ble_eq_true rfl) dX2_readNumber_42 ⟨Nat.zero_le _, Nat.zero_le _⟩ ?_
      refine lv_if_eq (tgt := 81) hx hb dX2_readNumber_45 (by decide) (fun c_6 => ?_) (fun c_6 => ?_)
      · have h := it_p c_6 h
        refine lv_iconst (v := 1) hx hb dX2_readNumber_81 (by decide) ?_
        have h := Option.some.inj h
        exact W.zret (v := b2i true) hx hb hr (b2i_nar _) (fun t ht hW => ⟨⟨_, (), rfl, by rw [← h], by (try rw [← h]); rw [ht]; exact hP, va_K.moved hW.alike hK, by (try rw [← h]); exact hD⟩, hS.F ht⟩) hS.2.2 dX2_readNumber_82
      · have h := it_n c_6 h
        refine lv_aload_n hx hb dX2_readNumber_48 rfl (lv_at hl 0 rfl) ?_
        refine va_get (D := (dC, dI)) (ci := 2) (v := .ref aD_numbers) (C := RX2) (T := TX2) (N := 5) hx hb hts (fun _ h => List.mem_cons_of_mem _ (List.mem_append_left _ (List.mem_append_right _ h))) hown hK hP 0 rfl rfl 2 (by decide) (hts (.fieldLink RX2 9 "SlateRows$Reader" "numbers" "[I") (by decide +kernel)) (fun _ h9 => h9) rfl dX2_readNumber_49 ?_
        refine lv_iload_n hx hb dX2_readNumber_52 rfl (lv_at hl 1 rfl) ?_
        refine lv_aload_n hx hb dX2_readNumber_53 rfl (lv_at hl 0 rfl) ?_
        refine va_get (D := (dC, dI)) (ci := 2) (v := .ref aD_numbers) (C := RX2) (T := TX2) (N := 5) hx hb hts (fun _ h => List.mem_cons_of_mem _ (List.mem_append_left _ (List.mem_append_right _ h))) hown hK hP 0 rfl rfl 2 (by decide) (hts (.fieldLink RX2 9 "SlateRows$Reader" "numbers" "[I") (by decide +kernel)) (fun _ h9 => h9) rfl dX2_readNumber_54 ?_
        refine lv_iload_n hx hb dX2_readNumber_57 rfl (lv_at hl 1 rfl) ?_
        obtain ⟨hi, h⟩ := ck_some h
        refine va_iald hx hb hK hP 1 0 rfl rfl (gi_in hi) dX2_readNumber_58 ?_
        refine lv_bipush (v := 10) hx hb dX2_readNumber_59 (by decide) ?_
        refine lv_imul hx hb dX2_readNumber_61 ?_
        refine lv_aload_n hx hb dX2_readNumber_62 rfl (lv_at hl 0 rfl) ?_
        obtain ⟨r_7, hg, h⟩ := bd_some h
        refine rdV (As := []) (rest := [.int (((upd D_numbers x1.toNatClampNeg (r_3 - 48)) x1.toNatClampNeg) * 10), .int x1, .ref aD_numbers]) (ci := 2) ⟨hx, hb, hml, hown, hts⟩ (k_X2_signHere l dC dI cI cZ cS N aD aD_numbers aT aT_numbers aR aR_inches aR_many aR_worth aR_lengths aR_laid aR_slates (upd D_numbers x1.toNatClampNeg (r_3 - 48)) D_letter (D_at + 1) T_numbers T_holds T_laying T_sort T_size R_inches R_many R_worth R_lengths R_laid R_slates R_widths R_rows R_lap r_7 hg) (cwV 0 hts gX2_readNumber_X2_signHere rfl rfl rfl cd_X2_signHere ⟨Nat.le_of_ble_eq_true rfl, Nat.le_of_ble_eq_true rfl⟩) hP hD hK [0, 1, 2, 3, 4, 5, 6, 7, 8, 9, 10] (by decide) rfl rfl rfl rfl hl.1 rfl (Nat.le_of_ble_eq_true rfl) dX2_readNumber_63 ⟨Nat.zero_le _, Nat.zero_le _⟩ ?_
        refine lv_iadd hx hb dX2_readNumber_66 ?_
        refine lv_bipush (v := 48) hx hb dX2_readNumber_67 (by decide) ?_
        refine lv_isub hx hb dX2_readNumber_69 ?_
        obtain ⟨hi, h⟩ := ck_some h
        refine va_iast hx hb hK hP hD hS 1 0 rfl rfl (gi_in hi) dX2_readNumber_70 (fun H locs hP hD hS => ?_)
        have hP : va_P (dC, dI) vwCl [(aD, .inr (2, [.ref aT, .ref aR, .ref aD_numbers, .int D_letter, .int (D_at + 1)])), (aD_numbers, .inl (cI, 3, .inl (upd (upd D_numbers x1.toNatClampNeg (r_3 - 48)) x1.toNatClampNeg (((((upd D_numbers x1.toNatClampNeg (r_3 - 48)) x1.toNatClampNeg) * 10) + r_7) - 48)))), (aT, .inr (4, [.ref aT_numbers, .int T_holds, va_rf T_laying, .int T_sort, .int T_size])), (aT_numbers, .inl (cI, 100, .inl T_numbers)), (aR, .inr (3, [.ref aR_inches, .ref aR_many, .ref aR_worth, .ref aR_lengths, .ref aR_laid, .ref aR_slates, .int R_widths, .int R_rows, .int R_lap])), (aR_inches, .inl (cI, 4, .inl R_inches)), (aR_many, .inl (cI, 4, .inl R_many)), (aR_worth, .inl (cI, 4, .inl R_worth)), (aR_lengths, .inl (cI, 6, .inl R_lengths)), (aR_laid, .inl (cI, 6, .inl R_laid)), (aR_slates, .inl (cI, 72, .inl R_slates))] H := hP
        have hD : va_D A [(aD, .inr (2, [.ref aT, .ref aR, .ref aD_numbers, .int D_letter, .int (D_at + 1)])), (aD_numbers, .inl (cI, 3, .inl (upd (upd D_numbers x1.toNatClampNeg (r_3 - 48)) x1.toNatClampNeg (((((upd D_numbers x1.toNatClampNeg (r_3 - 48)) x1.toNatClampNeg) * 10) + r_7) - 48)))), (aT, .inr (4, [.ref aT_numbers, .int T_holds, va_rf T_laying, .int T_sort, .int T_size])), (aT_numbers, .inl (cI, 100, .inl T_numbers)), (aR, .inr (3, [.ref aR_inches, .ref aR_many, .ref aR_worth, .ref aR_lengths, .ref aR_laid, .ref aR_slates, .int R_widths, .int R_rows, .int R_lap])), (aR_inches, .inl (cI, 4, .inl R_inches)), (aR_many, .inl (cI, 4, .inl R_many)), (aR_worth, .inl (cI, 4, .inl R_worth)), (aR_lengths, .inl (cI, 6, .inl R_lengths)), (aR_laid, .inl (cI, 6, .inl R_laid)), (aR_slates, .inl (cI, 72, .inl R_slates))] := hD
        refine lv_aload_n hx hb dX2_readNumber_71 rfl (lv_at hl 0 rfl) ?_
        refine lv_dup hx hb dX2_readNumber_72 rfl ?_
        refine va_get (D := (dC, dI)) (ci := 2) (v := .int (D_at + 1)) (C := RX2) (T := TX2) (N := 5) hx hb hts (fun _ h => List.mem_cons_of_mem _ (List.mem_append_left _ (List.mem_append_right _ h))) hown hK hP 0 rfl rfl 4 (by decide) (hts (.fieldLink RX2 19 "SlateRows$Reader" "at" "I") (by decide +kernel)) (fun _ h9 => h9) rfl dX2_readNumber_73 ?_
        refine lv_iconst (v := 1) hx hb dX2_readNumber_76 (by decide) ?_
        refine lv_iadd hx hb dX2_readNumber_77 ?_
        refine va_put (D := (dC, dI)) (ci := 2) (v := .int ((D_at + 1) + 1)) (ty := .int) (C := RX2) (T := TX2) (N := 5) hx hb hts (fun _ h => List.mem_cons_of_mem _ (List.mem_append_left _ (List.mem_append_right _ h))) tyX2 tyX2_ok nmX2 hown hK hP hD hS 0 rfl rfl 4 (by decide) (hts (.fieldLink RX2 19 "SlateRows$Reader" "at" "I") (by decide +kernel)) (fun _ h9 => h9) rfl (by decide +kernel) rfl rfl (Nat.le_of_ble_eq_true rfl) dX2_readNumber_78 (fun H locs hP hD hS => ?_)
        have hP : va_P (dC, dI) vwCl [(aD, .inr (2, [.ref aT, .ref aR, .ref aD_numbers, .int D_letter, .int ((D_at + 1) + 1)])), (aD_numbers, .inl (cI, 3, .inl (upd (upd D_numbers x1.toNatClampNeg (r_3 - 48)) x1.toNatClampNeg (((((upd D_numbers x1.toNatClampNeg (r_3 - 48)) x1.toNatClampNeg) * 10) + r_7) - 48)))), (aT, .inr (4, [.ref aT_numbers, .int T_holds, va_rf T_laying, .int T_sort, .int T_size])), (aT_numbers, .inl (cI, 100, .inl T_numbers)), (aR, .inr (3, [.ref aR_inches, .ref aR_many, .ref aR_worth, .ref aR_lengths, .ref aR_laid, .ref aR_slates, .int R_widths, .int R_rows, .int R_lap])), (aR_inches, .inl (cI, 4, .inl R_inches)), (aR_many, .inl (cI, 4, .inl R_many)), (aR_worth, .inl (cI, 4, .inl R_worth)), (aR_lengths, .inl (cI, 6, .inl R_lengths)), (aR_laid, .inl (cI, 6, .inl R_laid)), (aR_slates, .inl (cI, 72, .inl R_slates))] H := hP
        have hD : va_D A [(aD, .inr (2, [.ref aT, .ref aR, .ref aD_numbers, .int D_letter, .int ((D_at + 1) + 1)])), (aD_numbers, .inl (cI, 3, .inl (upd (upd D_numbers x1.toNatClampNeg (r_3 - 48)) x1.toNatClampNeg (((((upd D_numbers x1.toNatClampNeg (r_3 - 48)) x1.toNatClampNeg) * 10) + r_7) - 48)))), (aT, .inr (4, [.ref aT_numbers, .int T_holds, va_rf T_laying, .int T_sort, .int T_size])), (aT_numbers, .inl (cI, 100, .inl T_numbers)), (aR, .inr (3, [.ref aR_inches, .ref aR_many, .ref aR_worth, .ref aR_lengths, .ref aR_laid, .ref aR_slates, .int R_widths, .int R_rows, .int R_lap])), (aR_inches, .inl (cI, 4, .inl R_inches)), (aR_many, .inl (cI, 4, .inl R_many)), (aR_worth, .inl (cI, 4, .inl R_worth)), (aR_lengths, .inl (cI, 6, .inl R_lengths)), (aR_laid, .inl (cI, 6, .inl R_laid)), (aR_slates, .inl (cI, 72, .inl R_slates))] := hD
        refine lv_iconst (v := 1) hx hb dX2_readNumber_81 (by decide) ?_
        have h := Option.some.inj h
        exact W.zret (v := b2i true) hx hb hr (b2i_nar _) (fun t ht hW => ⟨⟨_, (), rfl, by rw [← h], by (try rw [← h]); rw [ht]; exact hP, va_K.moved hW.alike hK, by (try rw [← h]); exact hD⟩, hS.F ht⟩) hS.2.2 dX2_readNumber_82
  · have h := it_p c_2 h
    refine lv_iconst (v := 0) hx hb dX2_readNumber_7 (by decide) ?_
    have h := Option.some.inj h
    exact W.zret (v := b2i false) hx hb hr (b2i_nar _) (fun t ht hW => ⟨⟨_, (), rfl, by rw [← h], by (try rw [← h]); rw [ht]; exact hP, va_K.moved hW.alike hK, by (try rw [← h]); exact hD⟩, hS.F ht⟩) hS.2.2 dX2_readNumber_8
def f_X2_readStatement_L64 (N : Nat) (D_letter : Int32) (T_numbers : Nat → Int32) (T_size : Int32) (x1 : Int32) : Nat → Int32 → (Nat → Int32) → Int32 → Option (Bool × (Nat → Int32) × Int32 × Int32)
  | 0, _, _, _ => none
  | n + 1, v2, D_numbers, D_at =>
    if x1 < v2 then (some (true, D_numbers, D_letter, D_at)) else ((f_X2_readNumber N D_numbers D_at T_numbers T_size v2).bind fun r_5 => if (b2i r_5.1) = 0 then (some (false, r_5.2.1, D_letter, r_5.2.2)) else (if v2 = x1 then ((f_X2_readSign N r_5.2.2 T_numbers T_size 59).bind fun r_10 => if (b2i r_10.1) = 0 then (some (false, r_5.2.1, D_letter, r_10.2)) else (f_X2_readStatement_L64 N D_letter T_numbers T_size x1 n (v2 + 1) r_5.2.1 r_10.2)) else ((f_X2_readSign N r_5.2.2 T_numbers T_size 32).bind fun r_8 => if (b2i r_8.1) = 0 then (some (false, r_5.2.1, D_letter, r_8.2)) else (f_X2_readStatement_L64 N D_letter T_numbers T_size x1 n (v2 + 1) r_5.2.1 r_8.2))))
def f_X2_readStatement (N : Nat) (D_numbers : Nat → Int32) (D_letter : Int32) (D_at : Int32) (T_numbers : Nat → Int32) (T_size : Int32) : Option (Bool × (Nat → Int32) × Int32 × Int32) :=
  (f_X2_signHere N D_at T_numbers T_size).bind fun r_1 => if r_1 = 119 then (if r_1 = 119 then (f_X2_readStatement_L64 N r_1 T_numbers T_size 2 N 0 D_numbers (D_at + 1)) else (f_X2_readStatement_L64 N r_1 T_numbers T_size 0 N 0 D_numbers (D_at + 1))) else (if r_1 = 114 then (if r_1 = 119 then (f_X2_readStatement_L64 N r_1 T_numbers T_size 2 N 0 D_numbers (D_at + 1)) else (f_X2_readStatement_L64 N r_1 T_numbers T_size 0 N 0 D_numbers (D_at + 1))) else (if r_1 = 108 then (if r_1 = 119 then (f_X2_readStatement_L64 N r_1 T_numbers T_size 2 N 0 D_numbers (D_at + 1)) else (f_X2_readStatement_L64 N r_1 T_numbers T_size 0 N 0 D_numbers (D_at + 1))) else (some (false, D_numbers, r_1, D_at))))
set_option maxHeartbeats 4000000 in
set_option maxRecDepth 100000 in
theorem k_X2_readStatement (l : Launch) (dC : Nat → ClassId) (dI : Nat → Nat → Nat) (cI cZ cS : ClassId) (N : Nat) (aD aD_numbers aT aT_numbers aR aR_inches aR_many aR_worth aR_lengths aR_laid aR_slates : Nat) (sz : Nat) (D_numbers : Nat → Int32) (D_letter : Int32) (D_at : Int32) (T_numbers : Nat → Int32) (T_holds : Int32) (T_laying : Option Nat) (T_sort : Int32) (T_size : Int32) (R_inches : Nat → Int32) (R_many : Nat → Int32) (R_worth : Nat → Int32) (R_lengths : Nat → Int32) (R_laid : Nat → Int32) (R_slates : Nat → Int32) (R_widths : Int32) (R_rows : Int32) (R_lap : Int32) (res : Bool × (Nat → Int32) × Int32 × Int32) (h : f_X2_readStatement N D_numbers D_letter D_at T_numbers T_size = some res) : Met l yX2_readStatement wsX2_readStatement ({ frames := 4, cells := 0, slots := 0, locals := 82 }) (va_Pc [.ref aD] (preW (dC, dI) cI cZ cS [(aD, .inr (2, [.ref aT, .ref aR, .ref aD_numbers, .int D_letter, .int D_at])), (aD_numbers, .inl (cI, 3, .inl D_numbers)), (aT, .inr (4, [.ref aT_numbers, .int T_holds, va_rf T_laying, .int T_sort, .int T_size])), (aT_numbers, .inl (cI, 100, .inl T_numbers)), (aR, .inr (3, [.ref aR_inches, .ref aR_many, .ref aR_worth, .ref aR_lengths, .ref aR_laid, .ref aR_slates, .int R_widths, .int R_rows, .int R_lap])), (aR_inches, .inl (cI, 4, .inl R_inches)), (aR_many, .inl (cI, 4, .inl R_many)), (aR_worth, .inl (cI, 4, .inl R_worth)), (aR_lengths, .inl (cI, 6, .inl R_lengths)), (aR_laid, .inl (cI, 6, .inl R_laid)), (aR_slates, .inl (cI, 72, .inl R_slates))] sz)) (va_Qi (fun (r : Int32) (_ : Unit) => r = b2i res.1) (fun _ => qW (dC, dI) cI cZ cS (va_A [(aD, .inr (2, [.ref aT, .ref aR, .ref aD_numbers, .int D_letter, .int D_at])), (aD_numbers, .inl (cI, 3, .inl D_numbers)), (aT, .inr (4, [.ref aT_numbers, .int T_holds, va_rf T_laying, .int T_sort, .int T_size])), (aT_numbers, .inl (cI, 100, .inl T_numbers)), (aR, .inr (3, [.ref aR_inches, .ref aR_many, .ref aR_worth, .ref aR_lengths, .ref aR_laid, .ref aR_slates, .int R_widths, .int R_rows, .int R_lap])), (aR_inches, .inl (cI, 4, .inl R_inches)), (aR_many, .inl (cI, 4, .inl R_many)), (aR_worth, .inl (cI, 4, .inl R_worth)), (aR_lengths, .inl (cI, 6, .inl R_lengths)), (aR_laid, .inl (cI, 6, .inl R_laid)), (aR_slates, .inl (cI, 72, .inl R_slates))] sz) [(aD, .inr (2, [.ref aT, .ref aR, .ref aD_numbers, .int res.2.2.1, .int res.2.2.2])), (aD_numbers, .inl (cI, 3, .inl res.2.1)), (aT, .inr (4, [.ref aT_numbers, .int T_holds, va_rf T_laying, .int T_sort, .int T_size])), (aT_numbers, .inl (cI, 100, .inl T_numbers)), (aR, .inr (3, [.ref aR_inches, .ref aR_many, .ref aR_worth, .ref aR_lengths, .ref aR_laid, .ref aR_slates, .int R_widths, .int R_rows, .int R_lap])), (aR_inches, .inl (cI, 4, .inl R_inches)), (aR_many, .inl (cI, 4, .inl R_many)), (aR_worth, .inl (cI, 4, .inl R_worth)), (aR_lengths, .inl (cI, 6, .inl R_lengths)), (aR_laid, .inl (cI, 6, .inl R_laid)), (aR_slates, .inl (cI, 72, .inl R_slates))]) (va_A [(aD, .inr (2, [.ref aT, .ref aR, .ref aD_numbers, .int D_letter, .int D_at])), (aD_numbers, .inl (cI, 3, .inl D_numbers)), (aT, .inr (4, [.ref aT_numbers, .int T_holds, va_rf T_laying, .int T_sort, .int T_size])), (aT_numbers, .inl (cI, 100, .inl T_numbers)), (aR, .inr (3, [.ref aR_inches, .ref aR_many, .ref aR_worth, .ref aR_lengths, .ref aR_laid, .ref aR_slates, .int R_widths, .int R_rows, .int R_lap])), (aR_inches, .inl (cI, 4, .inl R_inches)), (aR_many, .inl (cI, 4, .inl R_many)), (aR_worth, .inl (cI, 4, .inl R_worth)), (aR_lengths, .inl (cI, 6, .inl R_lengths)), (aR_laid, .inl (cI, 6, .inl R_laid)), (aR_slates, .inl (cI, 72, .inl R_slates))] sz)) 0 0 (va_A [(aD, .inr (2, [.ref aT, .ref aR, .ref aD_numbers, .int D_letter, .int D_at])), (aD_numbers, .inl (cI, 3, .inl D_numbers)), (aT, .inr (4, [.ref aT_numbers, .int T_holds, va_rf T_laying, .int T_sort, .int T_size])), (aT_numbers, .inl (cI, 100, .inl T_numbers)), (aR, .inr (3, [.ref aR_inches, .ref aR_many, .ref aR_worth, .ref aR_lengths, .ref aR_laid, .ref aR_slates, .int R_widths, .int R_rows, .int R_lap])), (aR_inches, .inl (cI, 4, .inl R_inches)), (aR_many, .inl (cI, 4, .inl R_many)), (aR_worth, .inl (cI, 4, .inl R_worth)), (aR_lengths, .inl (cI, 6, .inl R_lengths)), (aR_laid, .inl (cI, 6, .inl R_laid)), (aR_slates, .inl (cI, 72, .inl R_slates))] sz) := by
  refine Met.ofW (cc := cX2_readStatement) (maxL := 3) (ret := (some .boolean)) (by decide) rfl ?_
  intro p e s m args below meth c s₁ B hml hv
  obtain ⟨rfl, hsz, hP, hK, hD0⟩ := hv
  have hx := B.exec
  have hb := B.bytes
  have hr := B.returns
  have hts := atoms_spec (ws := wsX2_readStatement) B.pre
  have hown : s.vm.findClass RX2 = some m.cls := findClass_of_methodNamed B.named
  have hlocks := B.notSynchronized
  subst hsz
  have hD := hD0.self (sz := s.heap.size)
  generalize hAe : va_A [(aD, .inr (2, [.ref aT, .ref aR, .ref aD_numbers, .int D_letter, .int D_at])), (aD_numbers, .inl (cI, 3, .inl D_numbers)), (aT, .inr (4, [.ref aT_numbers, .int T_holds, va_rf T_laying, .int T_sort, .int T_size])), (aT_numbers, .inl (cI, 100, .inl T_numbers)), (aR, .inr (3, [.ref aR_inches, .ref aR_many, .ref aR_worth, .ref aR_lengths, .ref aR_laid, .ref aR_slates, .int R_widths, .int R_rows, .int R_lap])), (aR_inches, .inl (cI, 4, .inl R_inches)), (aR_many, .inl (cI, 4, .inl R_many)), (aR_worth, .inl (cI, 4, .inl R_worth)), (aR_lengths, .inl (cI, 6, .inl R_lengths)), (aR_laid, .inl (cI, 6, .inl R_laid)), (aR_slates, .inl (cI, 72, .inl R_slates))] s.heap.size = A at hD ⊢
  have hA : ∀ q : Nat, s.heap.size ≤ q → A q := fun q h => by rw [← hAe]; exact Or.inr h
  have hS : va_S A s.heap s.heap [] := va_S.rf
  have hl := lv_entry ([.ref aD]) (n := 3) (Nat.le_of_ble_eq_true rfl)
  rw [lg_entry_eq]
  generalize (lg_sl ([.ref aD]) ++ List.replicate (3 - (lg_sl ([.ref aD])).length) Slot.unset).toArray = ls at hl ⊢
  have hl : lv_has ls 3 [(0, .ref aD)] := hl
  unfold f_X2_readStatement at h
  refine lv_aload_n hx hb dX2_readStatement_0 rfl (lv_at hl 0 rfl) ?_
  refine lv_aload_n hx hb dX2_readStatement_1 rfl (lv_at hl 0 rfl) ?_
  obtain ⟨r_1, hg, h⟩ := bd_some h
  refine rdV (As := []) (rest := [.ref aD]) (ci := 2) ⟨hx, hb, hml, hown, hts⟩ (k_X2_signHere l dC dI cI cZ cS N aD aD_numbers aT aT_numbers aR aR_inches aR_many aR_worth aR_lengths aR_laid aR_slates D_numbers D_letter D_at T_numbers T_holds T_laying T_sort T_size R_inches R_many R_worth R_lengths R_laid R_slates R_widths R_rows R_lap r_1 hg) (cwV 0 hts gX2_readStatement_X2_signHere rfl rfl rfl cd_X2_signHere ⟨Nat.le_of_ble_eq_true rfl, Nat.le_of_ble_eq_true rfl⟩) hP hD hK [0, 1, 2, 3, 4, 5, 6, 7, 8, 9, 10] (by decide) rfl rfl rfl rfl hl.1 rfl (Nat.le_of_ble_eq_true rfl) dX2_readStatement_2 ⟨Nat.zero_le _, Nat.zero_le _⟩ ?_
  refine va_put (D := (dC, dI)) (ci := 2) (v := .int r_1) (ty := .int) (C := RX2) (T := TX2) (N := 5) hx hb hts (fun _ h => List.mem_cons_of_mem _ (List.mem_append_left _ (List.mem_append_right _ h))) tyX2 tyX2_ok nmX2 hown hK hP hD hS 0 rfl rfl 3 (by decide) (hts (.fieldLink RX2 15 "SlateRows$Reader" "letter" "I") (by decide +kernel)) (fun _ h9 => h9) rfl (by decide +kernel) rfl rfl (Nat.le_of_ble_eq_true rfl) dX2_readStatement_5 (fun H locs hP hD hS => ?_)
  have hP : va_P (dC, dI) vwCl [(aD, .inr (2, [.ref aT, .ref aR, .ref aD_numbers, .int r_1, .int D_at])), (aD_numbers, .inl (cI, 3, .inl D_numbers)), (aT, .inr (4, [.ref aT_numbers, .int T_holds, va_rf T_laying, .int T_sort, .int T_size])), (aT_numbers, .inl (cI, 100, .inl T_numbers)), (aR, .inr (3, [.ref aR_inches, .ref aR_many, .ref aR_worth, .ref aR_lengths, .ref aR_laid, .ref aR_slates, .int R_widths, .int R_rows, .int R_lap])), (aR_inches, .inl (cI, 4, .inl R_inches)), (aR_many, .inl (cI, 4, .inl R_many)), (aR_worth, .inl (cI, 4, .inl R_worth)), (aR_lengths, .inl (cI, 6, .inl R_lengths)), (aR_laid, .inl (cI, 6, .inl R_laid)), (aR_slates, .inl (cI, 72, .inl R_slates))] H := hP
  have hD : va_D A [(aD, .inr (2, [.ref aT, .ref aR, .ref aD_numbers, .int r_1, .int D_at])), (aD_numbers, .inl (cI, 3, .inl D_numbers)), (aT, .inr (4, [.ref aT_numbers, .int T_holds, va_rf T_laying, .int T_sort, .int T_size])), (aT_numbers, .inl (cI, 100, .inl T_numbers)), (aR, .inr (3, [.ref aR_inches, .ref aR_many, .ref aR_worth, .ref aR_lengths, .ref aR_laid, .ref aR_slates, .int R_widths, .int R_rows, .int R_lap])), (aR_inches, .inl (cI, 4, .inl R_inches)), (aR_many, .inl (cI, 4, .inl R_many)), (aR_worth, .inl (cI, 4, .inl R_worth)), (aR_lengths, .inl (cI, 6, .inl R_lengths)), (aR_laid, .inl (cI, 6, .inl R_laid)), (aR_slates, .inl (cI, 72, .inl R_slates))] := hD
  refine lv_aload_n hx hb dX2_readStatement_8 rfl (lv_at hl 0 rfl) ?_
  refine va_get (D := (dC, dI)) (ci := 2) (v := .int r_1) (C := RX2) (T := TX2) (N := 5) hx hb hts (fun _ h => List.mem_cons_of_mem _ (List.mem_append_left _ (List.mem_append_right _ h))) hown hK hP 0 rfl rfl 3 (by decide) (hts (.fieldLink RX2 15 "SlateRows$Reader" "letter" "I") (by decide +kernel)) (fun _ h9 => h9) rfl dX2_readStatement_9 ?_
  refine lv_bipush (v := 119) hx hb dX2_readStatement_12 (by decide) ?_
  refine lv_icmp_eq (tgt := 37) hx hb dX2_readStatement_14 (by decide) (fun c_2 => ?_) (fun c_2 => ?_)
  · have h := it_p c_2 h
    refine lv_aload_n hx hb dX2_readStatement_37 rfl (lv_at hl 0 rfl) ?_
    refine lv_dup hx hb dX2_readStatement_38 rfl ?_
    refine va_get (D := (dC, dI)) (ci := 2) (v := .int D_at) (C := RX2) (T := TX2) (N := 5) hx hb hts (fun _ h => List.mem_cons_of_mem _ (List.mem_append_left _ (List.mem_append_right _ h))) hown hK hP 0 rfl rfl 4 (by decide) (hts (.fieldLink RX2 19 "SlateRows$Reader" "at" "I") (by decide +kernel)) (fun _ h9 => h9) rfl dX2_readStatement_39 ?_
    refine lv_iconst (v := 1) hx hb dX2_readStatement_42 (by decide) ?_
    refine lv_iadd hx hb dX2_readStatement_43 ?_
    refine va_put (D := (dC, dI)) (ci := 2) (v := .int (D_at + 1)) (ty := .int) (C := RX2) (T := TX2) (N := 5) hx hb hts (fun _ h => List.mem_cons_of_mem _ (List.mem_append_left _ (List.mem_append_right _ h))) tyX2 tyX2_ok nmX2 hown hK hP hD hS 0 rfl rfl 4 (by decide) (hts (.fieldLink RX2 19 "SlateRows$Reader" "at" "I") (by decide +kernel)) (fun _ h9 => h9) rfl (by decide +kernel) rfl rfl (Nat.le_of_ble_eq_true rfl) dX2_readStatement_44 (fun H locs hP hD hS => ?_)
    have hP : va_P (dC, dI) vwCl [(aD, .inr (2, [.ref aT, .ref aR, .ref aD_numbers, .int r_1, .int (D_at + 1)])), (aD_numbers, .inl (cI, 3, .inl D_numbers)), (aT, .inr (4, [.ref aT_numbers, .int T_holds, va_rf T_laying, .int T_sort, .int T_size])), (aT_numbers, .inl (cI, 100, .inl T_numbers)), (aR, .inr (3, [.ref aR_inches, .ref aR_many, .ref aR_worth, .ref aR_lengths, .ref aR_laid, .ref aR_slates, .int R_widths, .int R_rows, .int R_lap])), (aR_inches, .inl (cI, 4, .inl R_inches)), (aR_many, .inl (cI, 4, .inl R_many)), (aR_worth, .inl (cI, 4, .inl R_worth)), (aR_lengths, .inl (cI, 6, .inl R_lengths)), (aR_laid, .inl (cI, 6, .inl R_laid)), (aR_slates, .inl (cI, 72, .inl R_slates))] H := hP
    have hD : va_D A [(aD, .inr (2, [.ref aT, .ref aR, .ref aD_numbers, .int r_1, .int (D_at + 1)])), (aD_numbers, .inl (cI, 3, .inl D_numbers)), (aT, .inr (4, [.ref aT_numbers, .int T_holds, va_rf T_laying, .int T_sort, .int T_size])), (aT_numbers, .inl (cI, 100, .inl T_numbers)), (aR, .inr (3, [.ref aR_inches, .ref aR_many, .ref aR_worth, .ref aR_lengths, .ref aR_laid, .ref aR_slates, .int R_widths, .int R_rows, .int R_lap])), (aR_inches, .inl (cI, 4, .inl R_inches)), (aR_many, .inl (cI, 4, .inl R_many)), (aR_worth, .inl (cI, 4, .inl R_worth)), (aR_lengths, .inl (cI, 6, .inl R_lengths)), (aR_laid, .inl (cI, 6, .inl R_laid)), (aR_slates, .inl (cI, 72, .inl R_slates))] := hD
    refine lv_aload_n hx hb dX2_readStatement_47 rfl (lv_at hl 0 rfl) ?_
    refine va_get (D := (dC, dI)) (ci := 2) (v := .int r_1) (C := RX2) (T := TX2) (N := 5) hx hb hts (fun _ h => List.mem_cons_of_mem _ (List.mem_append_left _ (List.mem_append_right _ h))) hown hK hP 0 rfl rfl 3 (by decide) (hts (.fieldLink RX2 15 "SlateRows$Reader" "letter" "I") (by decide +kernel)) (fun _ h9 => h9) rfl dX2_readStatement_48 ?_
    refine lv_bipush (v := 119) hx hb dX2_readStatement_51 (by decide) ?_
    refine lv_icmp_ne (tgt := 60) hx hb dX2_readStatement_53 (by decide) (fun c_3 => ?_) (fun c_3 => ?_)
    · have h := it_n c_3 h
      refine lv_iconst (v := 0) hx hb dX2_readStatement_60 (by decide) ?_
      refine lv_istore_n (lv' := [(1, .int 0), (0, .ref aD)]) hx hb dX2_readStatement_61 rfl hl (by decide) rfl (fun ls hl => ?_)
      refine lv_iconst (v := 0) hx hb dX2_readStatement_62 (by decide) ?_
      refine lv_istore_n (lv' := [(2, .int 0), (1, .int 0), (0, .ref aD)]) hx hb dX2_readStatement_63 rfl hl (by decide) rfl (fun ls hl => ?_)
      have L64_11 : ∀ (n_12 : Nat) (v2_13 : Int32) (D_numbers_14 : Nat → Int32) (D_at_15 : Int32) (ls : Array Slot) (H : Heap) (locs : List Loc), f_X2_readStatement_L64 N r_1 T_numbers T_size 0 n_12 v2_13 D_numbers_14 D_at_15 = some res → lv_has ls 3 [(0, .ref aD), (1, .int 0), (2, .int v2_13)] → va_P (dC, dI) vwCl [(aD, .inr (2, [.ref aT, .ref aR, .ref aD_numbers, .int r_1, .int D_at_15])), (aD_numbers, .inl (cI, 3, .inl D_numbers_14)), (aT, .inr (4, [.ref aT_numbers, .int T_holds, va_rf T_laying, .int T_sort, .int T_size])), (aT_numbers, .inl (cI, 100, .inl T_numbers)), (aR, .inr (3, [.ref aR_inches, .ref aR_many, .ref aR_worth, .ref aR_lengths, .ref aR_laid, .ref aR_slates, .int R_widths, .int R_rows, .int R_lap])), (aR_inches, .inl (cI, 4, .inl R_inches)), (aR_many, .inl (cI, 4, .inl R_many)), (aR_worth, .inl (cI, 4, .inl R_worth)), (aR_lengths, .inl (cI, 6, .inl R_lengths)), (aR_laid, .inl (cI, 6, .inl R_laid)), (aR_slates, .inl (cI, 72, .inl R_slates))] H → va_D A [(aD, .inr (2, [.ref aT, .ref aR, .ref aD_numbers, .int r_1, .int D_at_15])), (aD_numbers, .inl (cI, 3, .inl D_numbers_14)), (aT, .inr (4, [.ref aT_numbers, .int T_holds, va_rf T_laying, .int T_sort, .int T_size])), (aT_numbers, .inl (cI, 100, .inl T_numbers)), (aR, .inr (3, [.ref aR_inches, .ref aR_many, .ref aR_worth, .ref aR_lengths, .ref aR_laid, .ref aR_slates, .int R_widths, .int R_rows, .int R_lap])), (aR_inches, .inl (cI, 4, .inl R_inches)), (aR_many, .inl (cI, 4, .inl R_many)), (aR_worth, .inl (cI, 4, .inl R_worth)), (aR_lengths, .inl (cI, 6, .inl R_lengths)), (aR_laid, .inl (cI, 6, .inl R_laid)), (aR_slates, .inl (cI, 72, .inl R_slates))] → va_S A s.heap H locs → W p l e (headSpec wsX2_readStatement ({ frames := 4, cells := 0, slots := 0, locals := 82 })).room s m ([.ref aD] : List Value).toArray below meth c H locs 0 0 (MQ below (va_Qi (fun (r : Int32) (_ : Unit) => r = b2i res.1) (fun _ => qW (dC, dI) cI cZ cS A [(aD, .inr (2, [.ref aT, .ref aR, .ref aD_numbers, .int res.2.2.1, .int res.2.2.2])), (aD_numbers, .inl (cI, 3, .inl res.2.1)), (aT, .inr (4, [.ref aT_numbers, .int T_holds, va_rf T_laying, .int T_sort, .int T_size])), (aT_numbers, .inl (cI, 100, .inl T_numbers)), (aR, .inr (3, [.ref aR_inches, .ref aR_many, .ref aR_worth, .ref aR_lengths, .ref aR_laid, .ref aR_slates, .int R_widths, .int R_rows, .int R_lap])), (aR_inches, .inl (cI, 4, .inl R_inches)), (aR_many, .inl (cI, 4, .inl R_many)), (aR_worth, .inl (cI, 4, .inl R_worth)), (aR_lengths, .inl (cI, 6, .inl R_lengths)), (aR_laid, .inl (cI, 6, .inl R_laid)), (aR_slates, .inl (cI, 72, .inl R_slates))]) A) ([.ref aD] : List Value).toArray s 0 0 A) (F0 m 64 ls []) := by
        intro n_12
        induction n_12 with
        | zero =>
          intro v2_13 D_numbers_14 D_at_15 ls H locs h
          simp only [f_X2_readStatement_L64] at h
          try exact absurd h (by simp)
        | succ n_12 ihn_12 =>
          intro v2_13 D_numbers_14 D_at_15 ls H locs h hl hP hD hS
          rw [f_X2_readStatement_L64] at h
          refine lv_iload_n hx hb dX2_readStatement_64 rfl (lv_at hl 2 rfl) ?_
          refine lv_iload_n hx hb dX2_readStatement_65 rfl (lv_at hl 1 rfl) ?_
          refine lv_icmp_gt (tgt := 104) hx hb dX2_readStatement_66 (by decide) (fun c_16 => ?_) (fun c_16 => ?_)
          · have h := it_p c_16 h
            refine lv_iconst (v := 1) hx hb dX2_readStatement_104 (by decide) ?_
            have h := Option.some.inj h
            exact W.zret (v := b2i true) hx hb hr (b2i_nar _) (fun t ht hW => ⟨⟨_, (), rfl, by rw [← h], by (try rw [← h]); rw [ht]; exact hP, va_K.moved hW.alike hK, by (try rw [← h]); exact hD⟩, hS.F ht⟩) hS.2.2 dX2_readStatement_105
          · have h := it_n c_16 h
            refine lv_aload_n hx hb dX2_readStatement_69 rfl (lv_at hl 0 rfl) ?_
            refine lv_iload_n hx hb dX2_readStatement_70 rfl (lv_at hl 2 rfl) ?_
            obtain ⟨r_17, hg, h⟩ := bd_some h
            refine mtVi (As := [.int v2_13]) (rest := []) (ci := 2) (wr := []) (w2 := [(aD, .inr (2, [.ref aT, .ref aR, .ref aD_numbers, .int r_1, .int r_17.2.2])), (aD_numbers, .inl (cI, 3, .inl r_17.2.1)), (aT, .inr (4, [.ref aT_numbers, .int T_holds, va_rf T_laying, .int T_sort, .int T_size])), (aT_numbers, .inl (cI, 100, .inl T_numbers)), (aR, .inr (3, [.ref aR_inches, .ref aR_many, .ref aR_worth, .ref aR_lengths, .ref aR_laid, .ref aR_slates, .int R_widths, .int R_rows, .int R_lap])), (aR_inches, .inl (cI, 4, .inl R_inches)), (aR_many, .inl (cI, 4, .inl R_many)), (aR_worth, .inl (cI, 4, .inl R_worth)), (aR_lengths, .inl (cI, 6, .inl R_lengths)), (aR_laid, .inl (cI, 6, .inl R_laid)), (aR_slates, .inl (cI, 72, .inl R_slates))]) ⟨hx, hb, hml, hown, hts⟩ (k_X2_readNumber l dC dI cI cZ cS N aD aD_numbers aT aT_numbers aR aR_inches aR_many aR_worth aR_lengths aR_laid aR_slates _ D_numbers_14 r_1 D_at_15 T_numbers T_holds T_laying T_sort T_size R_inches R_many R_worth R_lengths R_laid R_slates R_widths R_rows R_lap v2_13 r_17 hg) (cwV 1 hts gX2_readStatement_X2_readNumber rfl rfl rfl cd_X2_readNumber ⟨Nat.le_of_ble_eq_true rfl, Nat.le_of_ble_eq_true rfl⟩) hP hD hK hS hA [0, 1, 2, 3, 4, 5, 6, 7, 8, 9, 10] [] [0, 1, 2, 3, 4, 5, 6, 7, 8, 9, 10] (by decide) (by decide) (by decide) (by decide) rfl rfl rfl rfl rfl rfl hl.1 rfl (Nat.le_of_ble_eq_true rfl) dX2_readStatement_71 ⟨Nat.zero_le _, Nat.zero_le _⟩ (fun H locs hP hD hS => ?_)
            refine lv_if_eq (tgt := 96) hx hb dX2_readStatement_74 (by decide) (fun c_18 => ?_) (fun c_18 => ?_)
            · have h := it_p c_18 h
              refine lv_iconst (v := 0) hx hb dX2_readStatement_96 (by decide) ?_
              have h := Option.some.inj h
              exact W.zret (v := b2i false) hx hb hr (b2i_nar _) (fun t ht hW => ⟨⟨_, (), rfl, by rw [← h], by (try rw [← h]); rw [ht]; exact hP, va_K.moved hW.alike hK, by (try rw [← h]); exact hD⟩, hS.F ht⟩) hS.2.2 dX2_readStatement_97
            · have h := it_n c_18 h
              refine lv_aload_n hx hb dX2_readStatement_77 rfl (lv_at hl 0 rfl) ?_
              refine lv_iload_n hx hb dX2_readStatement_78 rfl (lv_at hl 2 rfl) ?_
              refine lv_iload_n hx hb dX2_readStatement_79 rfl (lv_at hl 1 rfl) ?_
              refine lv_icmp_ne (tgt := 88) hx hb dX2_readStatement_80 (by decide) (fun c_19 => ?_) (fun c_19 => ?_)
              · have h := it_n c_19 h
                refine lv_bipush (v := 32) hx hb dX2_readStatement_88 (by decide) ?_
                obtain ⟨r_20, hg, h⟩ := bd_some h
                refine mtVi (As := [.int 32]) (rest := []) (ci := 2) (wr := []) (w2 := [(aD, .inr (2, [.ref aT, .ref aR, .ref aD_numbers, .int r_1, .int r_20.2])), (aD_numbers, .inl (cI, 3, .inl r_17.2.1)), (aT, .inr (4, [.ref aT_numbers, .int T_holds, va_rf T_laying, .int T_sort, .int T_size])), (aT_numbers, .inl (cI, 100, .inl T_numbers)), (aR, .inr (3, [.ref aR_inches, .ref aR_many, .ref aR_worth, .ref aR_lengths, .ref aR_laid, .ref aR_slates, .int R_widths, .int R_rows, .int R_lap])), (aR_inches, .inl (cI, 4, .inl R_inches)), (aR_many, .inl (cI, 4, .inl R_many)), (aR_worth, .inl (cI, 4, .inl R_worth)), (aR_lengths, .inl (cI, 6, .inl R_lengths)), (aR_laid, .inl (cI, 6, .inl R_laid)), (aR_slates, .inl (cI, 72, .inl R_slates))]) ⟨hx, hb, hml, hown, hts⟩ (k_X2_readSign l dC dI cI cZ cS N aD aD_numbers aT aT_numbers aR aR_inches aR_many aR_worth aR_lengths aR_laid aR_slates _ r_17.2.1 r_1 r_17.2.2 T_numbers T_holds T_laying T_sort T_size R_inches R_many R_worth R_lengths R_laid R_slates R_widths R_rows R_lap 32 r_20 hg) (cwV 1 hts gX2_readStatement_X2_readSign rfl rfl rfl cd_X2_readSign ⟨Nat.le_of_ble_eq_true rfl, Nat.le_of_ble_eq_true rfl⟩) hP hD hK hS hA [0, 1, 2, 3, 4, 5, 6, 7, 8, 9, 10] [] [0, 1, 2, 3, 4, 5, 6, 7, 8, 9, 10] (by decide) (by decide) (by decide) (by decide) rfl rfl rfl rfl rfl rfl hl.1 rfl (Nat.le_of_ble_eq_true rfl) dX2_readStatement_90 ⟨Nat.zero_le _, Nat.zero_le _⟩ (fun H locs hP hD hS => ?_)
                refine lv_if_ne (tgt := 98) hx hb dX2_readStatement_93 (by decide) (fun c_21 => ?_) (fun c_21 => ?_)
                · have h := it_n c_21 h
                  refine lv_iinc (v := (v2_13 + 1)) (lv' := [(2, .int (v2_13 + 1)), (0, .ref aD), (1, .int 0)]) hx hb dX2_readStatement_98 hl (k := 2) rfl rfl (by decide) rfl (fun ls hl => ?_)
                  refine lv_goto (tgt := 64) hx hb dX2_readStatement_101 (by decide) ?_
                  exact ihn_12 (v2_13 + 1) r_17.2.1 r_20.2 ls _ _ h (lv_sub hl [1, 2, 0] rfl) hP hD hS
                · have h := it_p c_21 h
                  refine lv_iconst (v := 0) hx hb dX2_readStatement_96 (by decide) ?_
                  have h := Option.some.inj h
                  exact W.zret (v := b2i false) hx hb hr (b2i_nar _) (fun t ht hW => ⟨⟨_, (), rfl, by rw [← h], by (try rw [← h]); rw [ht]; exact hP, va_K.moved hW.alike hK, by (try rw [← h]); exact hD⟩, hS.F ht⟩) hS.2.2 dX2_readStatement_97
              · have h := it_p c_19 h
                refine lv_bipush (v := 59) hx hb dX2_readStatement_83 (by decide) ?_
                refine lv_goto (tgt := 90) hx hb dX2_readStatement_85 (by decide) ?_
                obtain ⟨r_22, hg, h⟩ := bd_some h
                refine mtVi (As := [.int 59]) (rest := []) (ci := 2) (wr := []) (w2 := [(aD, .inr (2, [.ref aT, .ref aR, .ref aD_numbers, .int r_1, .int r_22.2])), (aD_numbers, .inl (cI, 3, .inl r_17.2.1)), (aT, .inr (4, [.ref aT_numbers, .int T_holds, va_rf T_laying, .int T_sort, .int T_size])), (aT_numbers, .inl (cI, 100, .inl T_numbers)), (aR, .inr (3, [.ref aR_inches, .ref aR_many, .ref aR_worth, .ref aR_lengths, .ref aR_laid, .ref aR_slates, .int R_widths, .int R_rows, .int R_lap])), (aR_inches, .inl (cI, 4, .inl R_inches)), (aR_many, .inl (cI, 4, .inl R_many)), (aR_worth, .inl (cI, 4, .inl R_worth)), (aR_lengths, .inl (cI, 6, .inl R_lengths)), (aR_laid, .inl (cI, 6, .inl R_laid)), (aR_slates, .inl (cI, 72, .inl R_slates))]) ⟨hx, hb, hml, hown, hts⟩ (k_X2_readSign l dC dI cI cZ cS N aD aD_numbers aT aT_numbers aR aR_inches aR_many aR_worth aR_lengths aR_laid aR_slates _ r_17.2.1 r_1 r_17.2.2 T_numbers T_holds T_laying T_sort T_size R_inches R_many R_worth R_lengths R_laid R_slates R_widths R_rows R_lap 59 r_22 hg) (cwV 1 hts gX2_readStatement_X2_readSign rfl rfl rfl cd_X2_readSign ⟨Nat.le_of_ble_eq_true rfl, Nat.le_of_ble_eq_true rfl⟩) hP hD hK hS hA [0, 1, 2, 3, 4, 5, 6, 7, 8, 9, 10] [] [0, 1, 2, 3, 4, 5, 6, 7, 8, 9, 10] (by decide) (by decide) (by decide) (by decide) rfl rfl rfl rfl rfl rfl hl.1 rfl (Nat.le_of_ble_eq_true rfl) dX2_readStatement_90 ⟨Nat.zero_le _, Nat.zero_le _⟩ (fun H locs hP hD hS => ?_)
                refine lv_if_ne (tgt := 98) hx hb dX2_readStatement_93 (by decide) (fun c_23 => ?_) (fun c_23 => ?_)
                · have h := it_n c_23 h
                  refine lv_iinc (v := (v2_13 + 1)) (lv' := [(2, .int (v2_13 + 1)), (0, .ref aD), (1, .int 0)]) hx hb dX2_readStatement_98 hl (k := 2) rfl rfl (by decide) rfl (fun ls hl => ?_)
                  refine lv_goto (tgt := 64) hx hb dX2_readStatement_101 (by decide) ?_
                  exact ihn_12 (v2_13 + 1) r_17.2.1 r_22.2 ls _ _ h (lv_sub hl [1, 2, 0] rfl) hP hD hS
                · have h := it_p c_23 h
                  refine lv_iconst (v := 0) hx hb dX2_readStatement_96 (by decide) ?_
                  have h := Option.some.inj h
                  exact W.zret (v := b2i false) hx hb hr (b2i_nar _) (fun t ht hW => ⟨⟨_, (), rfl, by rw [← h], by (try rw [← h]); rw [ht]; exact hP, va_K.moved hW.alike hK, by (try rw [← h]); exact hD⟩, hS.F ht⟩) hS.2.2 dX2_readStatement_97
      exact L64_11 N 0 D_numbers (D_at + 1) ls _ _ h (lv_sub hl [2, 1, 0] rfl) hP hD hS
    · have h := it_p c_3 h
      refine lv_iconst (v := 2) hx hb dX2_readStatement_56 (by decide) ?_
      refine lv_goto (tgt := 61) hx hb dX2_readStatement_57 (by decide) ?_
      refine lv_istore_n (lv' := [(1, .int 2), (0, .ref aD)]) hx hb dX2_readStatement_61 rfl hl (by decide) rfl (fun ls hl => ?_)
      refine lv_iconst (v := 0) hx hb dX2_readStatement_62 (by decide) ?_
      refine lv_istore_n (lv' := [(2, .int 0), (1, .int 2), (0, .ref aD)]) hx hb dX2_readStatement_63 rfl hl (by decide) rfl (fun ls hl => ?_)
      have L64_23 : ∀ (n_24 : Nat) (v2_25 : Int32) (D_numbers_26 : Nat → Int32) (D_at_27 : Int32) (ls : Array Slot) (H : Heap) (locs : List Loc), f_X2_readStatement_L64 N r_1 T_numbers T_size 2 n_24 v2_25 D_numbers_26 D_at_27 = some res → lv_has ls 3 [(0, .ref aD), (1, .int 2), (2, .int v2_25)] → va_P (dC, dI) vwCl [(aD, .inr (2, [.ref aT, .ref aR, .ref aD_numbers, .int r_1, .int D_at_27])), (aD_numbers, .inl (cI, 3, .inl D_numbers_26)), (aT, .inr (4, [.ref aT_numbers, .int T_holds, va_rf T_laying, .int T_sort, .int T_size])), (aT_numbers, .inl (cI, 100, .inl T_numbers)), (aR, .inr (3, [.ref aR_inches, .ref aR_many, .ref aR_worth, .ref aR_lengths, .ref aR_laid, .ref aR_slates, .int R_widths, .int R_rows, .int R_lap])), (aR_inches, .inl (cI, 4, .inl R_inches)), (aR_many, .inl (cI, 4, .inl R_many)), (aR_worth, .inl (cI, 4, .inl R_worth)), (aR_lengths, .inl (cI, 6, .inl R_lengths)), (aR_laid, .inl (cI, 6, .inl R_laid)), (aR_slates, .inl (cI, 72, .inl R_slates))] H → va_D A [(aD, .inr (2, [.ref aT, .ref aR, .ref aD_numbers, .int r_1, .int D_at_27])), (aD_numbers, .inl (cI, 3, .inl D_numbers_26)), (aT, .inr (4, [.ref aT_numbers, .int T_holds, va_rf T_laying, .int T_sort, .int T_size])), (aT_numbers, .inl (cI, 100, .inl T_numbers)), (aR, .inr (3, [.ref aR_inches, .ref aR_many, .ref aR_worth, .ref aR_lengths, .ref aR_laid, .ref aR_slates, .int R_widths, .int R_rows, .int R_lap])), (aR_inches, .inl (cI, 4, .inl R_inches)), (aR_many, .inl (cI, 4, .inl R_many)), (aR_worth, .inl (cI, 4, .inl R_worth)), (aR_lengths, .inl (cI, 6, .inl R_lengths)), (aR_laid, .inl (cI, 6, .inl R_laid)), (aR_slates, .inl (cI, 72, .inl R_slates))] → va_S A s.heap H locs → W p l e (headSpec wsX2_readStatement ({ frames := 4, cells := 0, slots := 0, locals := 82 })).room s m ([.ref aD] : List Value).toArray below meth c H locs 0 0 (MQ below (va_Qi (fun (r : Int32) (_ : Unit) => r = b2i res.1) (fun _ => qW (dC, dI) cI cZ cS A [(aD, .inr (2, [.ref aT, .ref aR, .ref aD_numbers, .int res.2.2.1, .int res.2.2.2])), (aD_numbers, .inl (cI, 3, .inl res.2.1)), (aT, .inr (4, [.ref aT_numbers, .int T_holds, va_rf T_laying, .int T_sort, .int T_size])), (aT_numbers, .inl (cI, 100, .inl T_numbers)), (aR, .inr (3, [.ref aR_inches, .ref aR_many, .ref aR_worth, .ref aR_lengths, .ref aR_laid, .ref aR_slates, .int R_widths, .int R_rows, .int R_lap])), (aR_inches, .inl (cI, 4, .inl R_inches)), (aR_many, .inl (cI, 4, .inl R_many)), (aR_worth, .inl (cI, 4, .inl R_worth)), (aR_lengths, .inl (cI, 6, .inl R_lengths)), (aR_laid, .inl (cI, 6, .inl R_laid)), (aR_slates, .inl (cI, 72, .inl R_slates))]) A) ([.ref aD] : List Value).toArray s 0 0 A) (F0 m 64 ls []) := by
        intro n_24
        induction n_24 with
        | zero =>
          intro v2_25 D_numbers_26 D_at_27 ls H locs h
          simp only [f_X2_readStatement_L64] at h
          try exact absurd h (by simp)
        | succ n_24 ihn_24 =>
          intro v2_25 D_numbers_26 D_at_27 ls H locs h hl hP hD hS
          rw [f_X2_readStatement_L64] at h
          refine lv_iload_n hx hb dX2_readStatement_64 rfl (lv_at hl 2 rfl) ?_
          refine lv_iload_n hx hb dX2_readStatement_65 rfl (lv_at hl 1 rfl) ?_
          refine lv_icmp_gt (tgt := 104) hx hb dX2_readStatement_66 (by decide) (fun c_28 => ?_) (fun c_28 => ?_)
          · have h := it_p c_28 h
            refine lv_iconst (v := 1) hx hb dX2_readStatement_104 (by decide) ?_
            have h := Option.some.inj h
            exact W.zret (v := b2i true) hx hb hr (b2i_nar _) (fun t ht hW => ⟨⟨_, (), rfl, by rw [← h], by (try rw [← h]); rw [ht]; exact hP, va_K.moved hW.alike hK, by (try rw [← h]); exact hD⟩, hS.F ht⟩) hS.2.2 dX2_readStatement_105
          · have h := it_n c_28 h
            refine lv_aload_n hx hb dX2_readStatement_69 rfl (lv_at hl 0 rfl) ?_
            refine lv_iload_n hx hb dX2_readStatement_70 rfl (lv_at hl 2 rfl) ?_
            obtain ⟨r_29, hg, h⟩ := bd_some h
            refine mtVi (As := [.int v2_25]) (rest := []) (ci := 2) (wr := []) (w2 := [(aD, .inr (2, [.ref aT, .ref aR, .ref aD_numbers, .int r_1, .int r_29.2.2])), (aD_numbers, .inl (cI, 3, .inl r_29.2.1)), (aT, .inr (4, [.ref aT_numbers, .int T_holds, va_rf T_laying, .int T_sort, .int T_size])), (aT_numbers, .inl (cI, 100, .inl T_numbers)), (aR, .inr (3, [.ref aR_inches, .ref aR_many, .ref aR_worth, .ref aR_lengths, .ref aR_laid, .ref aR_slates, .int R_widths, .int R_rows, .int R_lap])), (aR_inches, .inl (cI, 4, .inl R_inches)), (aR_many, .inl (cI, 4, .inl R_many)), (aR_worth, .inl (cI, 4, .inl R_worth)), (aR_lengths, .inl (cI, 6, .inl R_lengths)), (aR_laid, .inl (cI, 6, .inl R_laid)), (aR_slates, .inl (cI, 72, .inl R_slates))]) ⟨hx, hb, hml, hown, hts⟩ (k_X2_readNumber l dC dI cI cZ cS N aD aD_numbers aT aT_numbers aR aR_inches aR_many aR_worth aR_lengths aR_laid aR_slates _ D_numbers_26 r_1 D_at_27 T_numbers T_holds T_laying T_sort T_size R_inches R_many R_worth R_lengths R_laid R_slates R_widths R_rows R_lap v2_25 r_29 hg) (cwV 1 hts gX2_readStatement_X2_readNumber rfl rfl rfl cd_X2_readNumber ⟨Nat.le_of_ble_eq_true rfl, Nat.le_of_ble_eq_true rfl⟩) hP hD hK hS hA [0, 1, 2, 3, 4, 5, 6, 7, 8, 9, 10] [] [0, 1, 2, 3, 4, 5, 6, 7, 8, 9, 10] (by decide) (by decide) (by decide) (by decide) rfl rfl rfl rfl rfl rfl hl.1 rfl (Nat.le_of_ble_eq_true rfl) dX2_readStatement_71 ⟨Nat.zero_le _, Nat.zero_le _⟩ (fun H locs hP hD hS => ?_)
            refine lv_if_eq (tgt := 96) hx hb dX2_readStatement_74 (by decide) (fun c_30 => ?_) (fun c_30 => ?_)
            · have h := it_p c_30 h
              refine lv_iconst (v := 0) hx hb dX2_readStatement_96 (by decide) ?_
              have h := Option.some.inj h
              exact W.zret (v := b2i false) hx hb hr (b2i_nar _) (fun t ht hW => ⟨⟨_, (), rfl, by rw [← h], by (try rw [← h]); rw [ht]; exact hP, va_K.moved hW.alike hK, by (try rw [← h]); exact hD⟩, hS.F ht⟩) hS.2.2 dX2_readStatement_97
            · have h := it_n c_30 h
              refine lv_aload_n hx hb dX2_readStatement_77 rfl (lv_at hl 0 rfl) ?_
              refine lv_iload_n hx hb dX2_readStatement_78 rfl (lv_at hl 2 rfl) ?_
              refine lv_iload_n hx hb dX2_readStatement_79 rfl (lv_at hl 1 rfl) ?_
              refine lv_icmp_ne (tgt := 88) hx hb dX2_readStatement_80 (by decide) (fun c_31 => ?_) (fun c_31 => ?_)
              · have h := it_n c_31 h
                refine lv_bipush (v := 32) hx hb dX2_readStatement_88 (by decide) ?_
                obtain ⟨r_32, hg, h⟩ := bd_some h
                refine mtVi (As := [.int 32]) (rest := []) (ci := 2) (wr := []) (w2 := [(aD, .inr (2, [.ref aT, .ref aR, .ref aD_numbers, .int r_1, .int r_32.2])), (aD_numbers, .inl (cI, 3, .inl r_29.2.1)), (aT, .inr (4, [.ref aT_numbers, .int T_holds, va_rf T_laying, .int T_sort, .int T_size])), (aT_numbers, .inl (cI, 100, .inl T_numbers)), (aR, .inr (3, [.ref aR_inches, .ref aR_many, .ref aR_worth, .ref aR_lengths, .ref aR_laid, .ref aR_slates, .int R_widths, .int R_rows, .int R_lap])), (aR_inches, .inl (cI, 4, .inl R_inches)), (aR_many, .inl (cI, 4, .inl R_many)), (aR_worth, .inl (cI, 4, .inl R_worth)), (aR_lengths, .inl (cI, 6, .inl R_lengths)), (aR_laid, .inl (cI, 6, .inl R_laid)), (aR_slates, .inl (cI, 72, .inl R_slates))]) ⟨hx, hb, hml, hown, hts⟩ (k_X2_readSign l dC dI cI cZ cS N aD aD_numbers aT aT_numbers aR aR_inches aR_many aR_worth aR_lengths aR_laid aR_slates _ r_29.2.1 r_1 r_29.2.2 T_numbers T_holds T_laying T_sort T_size R_inches R_many R_worth R_lengths R_laid R_slates R_widths R_rows R_lap 32 r_32 hg) (cwV 1 hts gX2_readStatement_X2_readSign rfl rfl rfl cd_X2_readSign ⟨Nat.le_of_ble_eq_true rfl, Nat.le_of_ble_eq_true rfl⟩) hP hD hK hS hA [0, 1, 2, 3, 4, 5, 6, 7, 8, 9, 10] [] [0, 1, 2, 3, 4, 5, 6, 7, 8, 9, 10] (by decide) (by decide) (by decide) (by decide) rfl rfl rfl rfl rfl rfl hl.1 rfl (Nat.le_of_ble_eq_true rfl) dX2_readStatement_90 ⟨Nat.zero_le _, Nat.zero_le _⟩ (fun H locs hP hD hS => ?_)
                refine lv_if_ne (tgt := 98) hx hb dX2_readStatement_93 (by decide) (fun c_33 => ?_) (fun c_33 => ?_)
                · have h := it_n c_33 h
                  refine lv_iinc (v := (v2_25 + 1)) (lv' := [(2, .int (v2_25 + 1)), (0, .ref aD), (1, .int 2)]) hx hb dX2_readStatement_98 hl (k := 2) rfl rfl (by decide) rfl (fun ls hl => ?_)
                  refine lv_goto (tgt := 64) hx hb dX2_readStatement_101 (by decide) ?_
                  exact ihn_24 (v2_25 + 1) r_29.2.1 r_32.2 ls _ _ h (lv_sub hl [1, 2, 0] rfl) hP hD hS
                · have h := it_p c_33 h
                  refine lv_iconst (v := 0) hx hb dX2_readStatement_96 (by decide) ?_
                  have h := Option.some.inj h
                  exact W.zret (v := b2i false) hx hb hr (b2i_nar _) (fun t ht hW => ⟨⟨_, (), rfl, by rw [← h], by (try rw [← h]); rw [ht]; exact hP, va_K.moved hW.alike hK, by (try rw [← h]); exact hD⟩, hS.F ht⟩) hS.2.2 dX2_readStatement_97
              · have h := it_p c_31 h
                refine lv_bipush (v := 59) hx hb dX2_readStatement_83 (by decide) ?_
                refine lv_goto (tgt := 90) hx hb dX2_readStatement_85 (by decide) ?_
                obtain ⟨r_34, hg, h⟩ := bd_some h
                refine mtVi (As := [.int 59]) (rest := []) (ci := 2) (wr := []) (w2 := [(aD, .inr (2, [.ref aT, .ref aR, .ref aD_numbers, .int r_1, .int r_34.2])), (aD_numbers, .inl (cI, 3, .inl r_29.2.1)), (aT, .inr (4, [.ref aT_numbers, .int T_holds, va_rf T_laying, .int T_sort, .int T_size])), (aT_numbers, .inl (cI, 100, .inl T_numbers)), (aR, .inr (3, [.ref aR_inches, .ref aR_many, .ref aR_worth, .ref aR_lengths, .ref aR_laid, .ref aR_slates, .int R_widths, .int R_rows, .int R_lap])), (aR_inches, .inl (cI, 4, .inl R_inches)), (aR_many, .inl (cI, 4, .inl R_many)), (aR_worth, .inl (cI, 4, .inl R_worth)), (aR_lengths, .inl (cI, 6, .inl R_lengths)), (aR_laid, .inl (cI, 6, .inl R_laid)), (aR_slates, .inl (cI, 72, .inl R_slates))]) ⟨hx, hb, hml, hown, hts⟩ (k_X2_readSign l dC dI cI cZ cS N aD aD_numbers aT aT_numbers aR aR_inches aR_many aR_worth aR_lengths aR_laid aR_slates _ r_29.2.1 r_1 r_29.2.2 T_numbers T_holds T_laying T_sort T_size R_inches R_many R_worth R_lengths R_laid R_slates R_widths R_rows R_lap 59 r_34 hg) (cwV 1 hts gX2_readStatement_X2_readSign rfl rfl rfl cd_X2_readSign ⟨Nat.le_of_ble_eq_true rfl, Nat.le_of_ble_eq_true rfl⟩) hP hD hK hS hA [0, 1, 2, 3, 4, 5, 6, 7, 8, 9, 10] [] [0, 1, 2, 3, 4, 5, 6, 7, 8, 9, 10] (by decide) (by decide) (by decide) (by decide) rfl rfl rfl rfl rfl rfl hl.1 rfl (Nat.le_of_ble_eq_true rfl) dX2_readStatement_90 ⟨Nat.zero_le _, Nat.zero_le _⟩ (fun H locs hP hD hS => ?_)
                refine lv_if_ne (tgt := 98) hx hb dX2_readStatement_93 (by decide) (fun c_35 => ?_) (fun c_35 => ?_)
                · have h := it_n c_35 h
                  refine lv_iinc (v := (v2_25 + 1)) (lv' := [(2, .int (v2_25 + 1)), (0, .ref aD), (1, .int 2)]) hx hb dX2_readStatement_98 hl (k := 2) rfl rfl (by decide) rfl (fun ls hl => ?_)
                  refine lv_goto (tgt := 64) hx hb dX2_readStatement_101 (by decide) ?_
                  exact ihn_24 (v2_25 + 1) r_29.2.1 r_34.2 ls _ _ h (lv_sub hl [1, 2, 0] rfl) hP hD hS
                · have h := it_p c_35 h
                  refine lv_iconst (v := 0) hx hb dX2_readStatement_96 (by decide) ?_
                  have h := Option.some.inj h
                  exact W.zret (v := b2i false) hx hb hr (b2i_nar _) (fun t ht hW => ⟨⟨_, (), rfl, by rw [← h], by (try rw [← h]); rw [ht]; exact hP, va_K.moved hW.alike hK, by (try rw [← h]); exact hD⟩, hS.F ht⟩) hS.2.2 dX2_readStatement_97
      exact L64_23 N 0 D_numbers (D_at + 1) ls _ _ h (lv_sub hl [2, 1, 0] rfl) hP hD hS
  · have h := it_n c_2 h
    refine lv_aload_n hx hb dX2_readStatement_17 rfl (lv_at hl 0 rfl) ?_
    refine va_get (D := (dC, dI)) (ci := 2) (v := .int r_1) (C := RX2) (T := TX2) (N := 5) hx hb hts (fun _ h => List.mem_cons_of_mem _ (List.mem_append_left _ (List.mem_append_right _ h))) hown hK hP 0 rfl rfl 3 (by decide) (hts (.fieldLink RX2 15 "SlateRows$Reader" "letter" "I") (by decide +kernel)) (fun _ h9 => h9) rfl dX2_readStatement_18 ?_
    refine lv_bipush (v := 114) hx hb dX2_readStatement_21 (by decide) ?_
    refine lv_icmp_eq (tgt := 37) hx hb dX2_readStatement_23 (by decide) (fun c_36 => ?_) (fun c_36 => ?_)
    · have h := it_p c_36 h
      refine lv_aload_n hx hb dX2_readStatement_37 rfl (lv_at hl 0 rfl) ?_
      refine lv_dup hx hb dX2_readStatement_38 rfl ?_
      refine va_get (D := (dC, dI)) (ci := 2) (v := .int D_at) (C := RX2) (T := TX2) (N := 5) hx hb hts (fun _ h => List.mem_cons_of_mem _ (List.mem_append_left _ (List.mem_append_right _ h))) hown hK hP 0 rfl rfl 4 (by decide) (hts (.fieldLink RX2 19 "SlateRows$Reader" "at" "I") (by decide +kernel)) (fun _ h9 => h9) rfl dX2_readStatement_39 ?_
      refine lv_iconst (v := 1) hx hb dX2_readStatement_42 (by decide) ?_
      refine lv_iadd hx hb dX2_readStatement_43 ?_
      refine va_put (D := (dC, dI)) (ci := 2) (v := .int (D_at + 1)) (ty := .int) (C := RX2) (T := TX2) (N := 5) hx hb hts (fun _ h => List.mem_cons_of_mem _ (List.mem_append_left _ (List.mem_append_right _ h))) tyX2 tyX2_ok nmX2 hown hK hP hD hS 0 rfl rfl 4 (by decide) (hts (.fieldLink RX2 19 "SlateRows$Reader" "at" "I") (by decide +kernel)) (fun _ h9 => h9) rfl (by decide +kernel) rfl rfl (Nat.le_of_ble_eq_true rfl) dX2_readStatement_44 (fun H locs hP hD hS => ?_)
      have hP : va_P (dC, dI) vwCl [(aD, .inr (2, [.ref aT, .ref aR, .ref aD_numbers, .int r_1, .int (D_at + 1)])), (aD_numbers, .inl (cI, 3, .inl D_numbers)), (aT, .inr (4, [.ref aT_numbers, .int T_holds, va_rf T_laying, .int T_sort, .int T_size])), (aT_numbers, .inl (cI, 100, .inl T_numbers)), (aR, .inr (3, [.ref aR_inches, .ref aR_many, .ref aR_worth, .ref aR_lengths, .ref aR_laid, .ref aR_slates, .int R_widths, .int R_rows, .int R_lap])), (aR_inches, .inl (cI, 4, .inl R_inches)), (aR_many, .inl (cI, 4, .inl R_many)), (aR_worth, .inl (cI, 4, .inl R_worth)), (aR_lengths, .inl (cI, 6, .inl R_lengths)), (aR_laid, .inl (cI, 6, .inl R_laid)), (aR_slates, .inl (cI, 72, .inl R_slates))] H := hP
      have hD : va_D A [(aD, .inr (2, [.ref aT, .ref aR, .ref aD_numbers, .int r_1, .int (D_at + 1)])), (aD_numbers, .inl (cI, 3, .inl D_numbers)), (aT, .inr (4, [.ref aT_numbers, .int T_holds, va_rf T_laying, .int T_sort, .int T_size])), (aT_numbers, .inl (cI, 100, .inl T_numbers)), (aR, .inr (3, [.ref aR_inches, .ref aR_many, .ref aR_worth, .ref aR_lengths, .ref aR_laid, .ref aR_slates, .int R_widths, .int R_rows, .int R_lap])), (aR_inches, .inl (cI, 4, .inl R_inches)), (aR_many, .inl (cI, 4, .inl R_many)), (aR_worth, .inl (cI, 4, .inl R_worth)), (aR_lengths, .inl (cI, 6, .inl R_lengths)), (aR_laid, .inl (cI, 6, .inl R_laid)), (aR_slates, .inl (cI, 72, .inl R_slates))] := hD
      refine lv_aload_n hx hb dX2_readStatement_47 rfl (lv_at hl 0 rfl) ?_
      refine va_get (D := (dC, dI)) (ci := 2) (v := .int r_1) (C := RX2) (T := TX2) (N := 5) hx hb hts (fun _ h => List.mem_cons_of_mem _ (List.mem_append_left _ (List.mem_append_right _ h))) hown hK hP 0 rfl rfl 3 (by decide) (hts (.fieldLink RX2 15 "SlateRows$Reader" "letter" "I") (by decide +kernel)) (fun _ h9 => h9) rfl dX2_readStatement_48 ?_
      refine lv_bipush (v := 119) hx hb dX2_readStatement_51 (by decide) ?_
      refine lv_icmp_ne (tgt := 60) hx hb dX2_readStatement_53 (by decide) (fun c_37 => ?_) (fun c_37 => ?_)
      · have h := it_n c_37 h
        refine lv_iconst (v := 0) hx hb dX2_readStatement_60 (by decide) ?_
        refine lv_istore_n (lv' := [(1, .int 0), (0, .ref aD)]) hx hb dX2_readStatement_61 rfl hl (by decide) rfl (fun ls hl => ?_)
        refine lv_iconst (v := 0) hx hb dX2_readStatement_62 (by decide) ?_
        refine lv_istore_n (lv' := [(2, .int 0), (1, .int 0), (0, .ref aD)]) hx hb dX2_readStatement_63 rfl hl (by decide) rfl (fun ls hl => ?_)
        have L64_37 : ∀ (n_38 : Nat) (v2_39 : Int32) (D_numbers_40 : Nat → Int32) (D_at_41 : Int32) (ls : Array Slot) (H : Heap) (locs : List Loc), f_X2_readStatement_L64 N r_1 T_numbers T_size 0 n_38 v2_39 D_numbers_40 D_at_41 = some res → lv_has ls 3 [(0, .ref aD), (1, .int 0), (2, .int v2_39)] → va_P (dC, dI) vwCl [(aD, .inr (2, [.ref aT, .ref aR, .ref aD_numbers, .int r_1, .int D_at_41])), (aD_numbers, .inl (cI, 3, .inl D_numbers_40)), (aT, .inr (4, [.ref aT_numbers, .int T_holds, va_rf T_laying, .int T_sort, .int T_size])), (aT_numbers, .inl (cI, 100, .inl T_numbers)), (aR, .inr (3, [.ref aR_inches, .ref aR_many, .ref aR_worth, .ref aR_lengths, .ref aR_laid, .ref aR_slates, .int R_widths, .int R_rows, .int R_lap])), (aR_inches, .inl (cI, 4, .inl R_inches)), (aR_many, .inl (cI, 4, .inl R_many)), (aR_worth, .inl (cI, 4, .inl R_worth)), (aR_lengths, .inl (cI, 6, .inl R_lengths)), (aR_laid, .inl (cI, 6, .inl R_laid)), (aR_slates, .inl (cI, 72, .inl R_slates))] H → va_D A [(aD, .inr (2, [.ref aT, .ref aR, .ref aD_numbers, .int r_1, .int D_at_41])), (aD_numbers, .inl (cI, 3, .inl D_numbers_40)), (aT, .inr (4, [.ref aT_numbers, .int T_holds, va_rf T_laying, .int T_sort, .int T_size])), (aT_numbers, .inl (cI, 100, .inl T_numbers)), (aR, .inr (3, [.ref aR_inches, .ref aR_many, .ref aR_worth, .ref aR_lengths, .ref aR_laid, .ref aR_slates, .int R_widths, .int R_rows, .int R_lap])), (aR_inches, .inl (cI, 4, .inl R_inches)), (aR_many, .inl (cI, 4, .inl R_many)), (aR_worth, .inl (cI, 4, .inl R_worth)), (aR_lengths, .inl (cI, 6, .inl R_lengths)), (aR_laid, .inl (cI, 6, .inl R_laid)), (aR_slates, .inl (cI, 72, .inl R_slates))] → va_S A s.heap H locs → W p l e (headSpec wsX2_readStatement ({ frames := 4, cells := 0, slots := 0, locals := 82 })).room s m ([.ref aD] : List Value).toArray below meth c H locs 0 0 (MQ below (va_Qi (fun (r : Int32) (_ : Unit) => r = b2i res.1) (fun _ => qW (dC, dI) cI cZ cS A [(aD, .inr (2, [.ref aT, .ref aR, .ref aD_numbers, .int res.2.2.1, .int res.2.2.2])), (aD_numbers, .inl (cI, 3, .inl res.2.1)), (aT, .inr (4, [.ref aT_numbers, .int T_holds, va_rf T_laying, .int T_sort, .int T_size])), (aT_numbers, .inl (cI, 100, .inl T_numbers)), (aR, .inr (3, [.ref aR_inches, .ref aR_many, .ref aR_worth, .ref aR_lengths, .ref aR_laid, .ref aR_slates, .int R_widths, .int R_rows, .int R_lap])), (aR_inches, .inl (cI, 4, .inl R_inches)), (aR_many, .inl (cI, 4, .inl R_many)), (aR_worth, .inl (cI, 4, .inl R_worth)), (aR_lengths, .inl (cI, 6, .inl R_lengths)), (aR_laid, .inl (cI, 6, .inl R_laid)), (aR_slates, .inl (cI, 72, .inl R_slates))]) A) ([.ref aD] : List Value).toArray s 0 0 A) (F0 m 64 ls []) := by
          intro n_38
          induction n_38 with
          | zero =>
            intro v2_39 D_numbers_40 D_at_41 ls H locs h
            simp only [f_X2_readStatement_L64] at h
            try exact absurd h (by simp)
          | succ n_38 ihn_38 =>
            intro v2_39 D_numbers_40 D_at_41 ls H locs h hl hP hD hS
            rw [f_X2_readStatement_L64] at h
            refine lv_iload_n hx hb dX2_readStatement_64 rfl (lv_at hl 2 rfl) ?_
            refine lv_iload_n hx hb dX2_readStatement_65 rfl (lv_at hl 1 rfl) ?_
            refine lv_icmp_gt (tgt := 104) hx hb dX2_readStatement_66 (by decide) (fun c_42 => ?_) (fun c_42 => ?_)
            · have h := it_p c_42 h
              refine lv_iconst (v := 1) hx hb dX2_readStatement_104 (by decide) ?_
              have h := Option.some.inj h
              exact W.zret (v := b2i true) hx hb hr (b2i_nar _) (fun t ht hW => ⟨⟨_, (), rfl, by rw [← h], by (try rw [← h]); rw [ht]; exact hP, va_K.moved hW.alike hK, by (try rw [← h]); exact hD⟩, hS.F ht⟩) hS.2.2 dX2_readStatement_105
            · have h := it_n c_42 h
              refine lv_aload_n hx hb dX2_readStatement_69 rfl (lv_at hl 0 rfl) ?_
              refine lv_iload_n hx hb dX2_readStatement_70 rfl (lv_at hl 2 rfl) ?_
              obtain ⟨r_43, hg, h⟩ := bd_some h
              refine mtVi (As := [.int v2_39]) (rest := []) (ci := 2) (wr := []) (w2 := [(aD, .inr (2, [.ref aT, .ref aR, .ref aD_numbers, .int r_1, .int r_43.2.2])), (aD_numbers, .inl (cI, 3, .inl r_43.2.1)), (aT, .inr (4, [.ref aT_numbers, .int T_holds, va_rf T_laying, .int T_sort, .int T_size])), (aT_numbers, .inl (cI, 100, .inl T_numbers)), (aR, .inr (3, [.ref aR_inches, .ref aR_many, .ref aR_worth, .ref aR_lengths, .ref aR_laid, .ref aR_slates, .int R_widths, .int R_rows, .int R_lap])), (aR_inches, .inl (cI, 4, .inl R_inches)), (aR_many, .inl (cI, 4, .inl R_many)), (aR_worth, .inl (cI, 4, .inl R_worth)), (aR_lengths, .inl (cI, 6, .inl R_lengths)), (aR_laid, .inl (cI, 6, .inl R_laid)), (aR_slates, .inl (cI, 72, .inl R_slates))]) ⟨hx, hb, hml, hown, hts⟩ (k_X2_readNumber l dC dI cI cZ cS N aD aD_numbers aT aT_numbers aR aR_inches aR_many aR_worth aR_lengths aR_laid aR_slates _ D_numbers_40 r_1 D_at_41 T_numbers T_holds T_laying T_sort T_size R_inches R_many R_worth R_lengths R_laid R_slates R_widths R_rows R_lap v2_39 r_43 hg) (cwV 1 hts gX2_readStatement_X2_readNumber rfl rfl rfl cd_X2_readNumber ⟨Nat.le_of_ble_eq_true rfl, Nat.le_of_ble_eq_true rfl⟩) hP hD hK hS hA [0, 1, 2, 3, 4, 5, 6, 7, 8, 9, 10] [] [0, 1, 2, 3, 4, 5, 6, 7, 8, 9, 10] (by decide) (by decide) (by decide) (by decide) rfl rfl rfl rfl rfl rfl hl.1 rfl (Nat.le_of_ble_eq_true rfl) dX2_readStatement_71 ⟨Nat.zero_le _, Nat.zero_le _⟩ (fun H locs hP hD hS => ?_)
              refine lv_if_eq (tgt := 96) hx hb dX2_readStatement_74 (by decide) (fun c_44 => ?_) (fun c_44 => ?_)
              · have h := it_p c_44 h
                refine lv_iconst (v := 0) hx hb dX2_readStatement_96 (by decide) ?_
                have h := Option.some.inj h
                exact W.zret (v := b2i false) hx hb hr (b2i_nar _) (fun t ht hW => ⟨⟨_, (), rfl, by rw [← h], by (try rw [← h]); rw [ht]; exact hP, va_K.moved hW.alike hK, by (try rw [← h]); exact hD⟩, hS.F ht⟩) hS.2.2 dX2_readStatement_97
              · have h := it_n c_44 h
                refine lv_aload_n hx hb dX2_readStatement_77 rfl (lv_at hl 0 rfl) ?_
                refine lv_iload_n hx hb dX2_readStatement_78 rfl (lv_at hl 2 rfl) ?_
                refine lv_iload_n hx hb dX2_readStatement_79 rfl (lv_at hl 1 rfl) ?_
                refine lv_icmp_ne (tgt := 88) hx hb dX2_readStatement_80 (by decide) (fun c_45 => ?_) (fun c_45 => ?_)
                · have h := it_n c_45 h
                  refine lv_bipush (v := 32) hx hb dX2_readStatement_88 (by decide) ?_
                  obtain ⟨r_46, hg, h⟩ := bd_some h
                  refine mtVi (As := [.int 32]) (rest := []) (ci := 2) (wr := []) (w2 := [(aD, .inr (2, [.ref aT, .ref aR, .ref aD_numbers, .int r_1, .int r_46.2])), (aD_numbers, .inl (cI, 3, .inl r_43.2.1)), (aT, .inr (4, [.ref aT_numbers, .int T_holds, va_rf T_laying, .int T_sort, .int T_size])), (aT_numbers, .inl (cI, 100, .inl T_numbers)), (aR, .inr (3, [.ref aR_inches, .ref aR_many, .ref aR_worth, .ref aR_lengths, .ref aR_laid, .ref aR_slates, .int R_widths, .int R_rows, .int R_lap])), (aR_inches, .inl (cI, 4, .inl R_inches)), (aR_many, .inl (cI, 4, .inl R_many)), (aR_worth, .inl (cI, 4, .inl R_worth)), (aR_lengths, .inl (cI, 6, .inl R_lengths)), (aR_laid, .inl (cI, 6, .inl R_laid)), (aR_slates, .inl (cI, 72, .inl R_slates))]) ⟨hx, hb, hml, hown, hts⟩ (k_X2_readSign l dC dI cI cZ cS N aD aD_numbers aT aT_numbers aR aR_inches aR_many aR_worth aR_lengths aR_laid aR_slates _ r_43.2.1 r_1 r_43.2.2 T_numbers T_holds T_laying T_sort T_size R_inches R_many R_worth R_lengths R_laid R_slates R_widths R_rows R_lap 32 r_46 hg) (cwV 1 hts gX2_readStatement_X2_readSign rfl rfl rfl cd_X2_readSign ⟨Nat.le_of_ble_eq_true rfl, Nat.le_of_ble_eq_true rfl⟩) hP hD hK hS hA [0, 1, 2, 3, 4, 5, 6, 7, 8, 9, 10] [] [0, 1, 2, 3, 4, 5, 6, 7, 8, 9, 10] (by decide) (by decide) (by decide) (by decide) rfl rfl rfl rfl rfl rfl hl.1 rfl (Nat.le_of_ble_eq_true rfl) dX2_readStatement_90 ⟨Nat.zero_le _, Nat.zero_le _⟩ (fun H locs hP hD hS => ?_)
                  refine lv_if_ne (tgt := 98) hx hb dX2_readStatement_93 (by decide) (fun c_47 => ?_) (fun c_47 => ?_)
                  · have h := it_n c_47 h
                    refine lv_iinc (v := (v2_39 + 1)) (lv' := [(2, .int (v2_39 + 1)), (0, .ref aD), (1, .int 0)]) hx hb dX2_readStatement_98 hl (k := 2) rfl rfl (by decide) rfl (fun ls hl => ?_)
                    refine lv_goto (tgt := 64) hx hb dX2_readStatement_101 (by decide) ?_
                    exact ihn_38 (v2_39 + 1) r_43.2.1 r_46.2 ls _ _ h (lv_sub hl [1, 2, 0] rfl) hP hD hS
                  · have h := it_p c_47 h
                    refine lv_iconst (v := 0) hx hb dX2_readStatement_96 (by decide) ?_
                    have h := Option.some.inj h
                    exact W.zret (v := b2i false) hx hb hr (b2i_nar _) (fun t ht hW => ⟨⟨_, (), rfl, by rw [← h], by (try rw [← h]); rw [ht]; exact hP, va_K.moved hW.alike hK, by (try rw [← h]); exact hD⟩, hS.F ht⟩) hS.2.2 dX2_readStatement_97
                · have h := it_p c_45 h
                  refine lv_bipush (v := 59) hx hb dX2_readStatement_83 (by decide) ?_
                  refine lv_goto (tgt := 90) hx hb dX2_readStatement_85 (by decide) ?_
                  obtain ⟨r_48, hg, h⟩ := bd_some h
                  refine mtVi (As := [.int 59]) (rest := []) (ci := 2) (wr := []) (w2 := [(aD, .inr (2, [.ref aT, .ref aR, .ref aD_numbers, .int r_1, .int r_48.2])), (aD_numbers, .inl (cI, 3, .inl r_43.2.1)), (aT, .inr (4, [.ref aT_numbers, .int T_holds, va_rf T_laying, .int T_sort, .int T_size])), (aT_numbers, .inl (cI, 100, .inl T_numbers)), (aR, .inr (3, [.ref aR_inches, .ref aR_many, .ref aR_worth, .ref aR_lengths, .ref aR_laid, .ref aR_slates, .int R_widths, .int R_rows, .int R_lap])), (aR_inches, .inl (cI, 4, .inl R_inches)), (aR_many, .inl (cI, 4, .inl R_many)), (aR_worth, .inl (cI, 4, .inl R_worth)), (aR_lengths, .inl (cI, 6, .inl R_lengths)), (aR_laid, .inl (cI, 6, .inl R_laid)), (aR_slates, .inl (cI, 72, .inl R_slates))]) ⟨hx, hb, hml, hown, hts⟩ (k_X2_readSign l dC dI cI cZ cS N aD aD_numbers aT aT_numbers aR aR_inches aR_many aR_worth aR_lengths aR_laid aR_slates _ r_43.2.1 r_1 r_43.2.2 T_numbers T_holds T_laying T_sort T_size R_inches R_many R_worth R_lengths R_laid R_slates R_widths R_rows R_lap 59 r_48 hg) (cwV 1 hts gX2_readStatement_X2_readSign rfl rfl rfl cd_X2_readSign ⟨Nat.le_of_ble_eq_true rfl, Nat.le_of_ble_eq_true rfl⟩) hP hD hK hS hA [0, 1, 2, 3, 4, 5, 6, 7, 8, 9, 10] [] [0, 1, 2, 3, 4, 5, 6, 7, 8, 9, 10] (by decide) (by decide) (by decide) (by decide) rfl rfl rfl rfl rfl rfl hl.1 rfl (Nat.le_of_ble_eq_true rfl) dX2_readStatement_90 ⟨Nat.zero_le _, Nat.zero_le _⟩ (fun H locs hP hD hS => ?_)
                  refine lv_if_ne (tgt := 98) hx hb dX2_readStatement_93 (by decide) (fun c_49 => ?_) (fun c_49 => ?_)
                  · have h := it_n c_49 h
                    refine lv_iinc (v := (v2_39 + 1)) (lv' := [(2, .int (v2_39 + 1)), (0, .ref aD), (1, .int 0)]) hx hb dX2_readStatement_98 hl (k := 2) rfl rfl (by decide) rfl (fun ls hl => ?_)
                    refine lv_goto (tgt := 64) hx hb dX2_readStatement_101 (by decide) ?_
                    exact ihn_38 (v2_39 + 1) r_43.2.1 r_48.2 ls _ _ h (lv_sub hl [1, 2, 0] rfl) hP hD hS
                  · have h := it_p c_49 h
                    refine lv_iconst (v := 0) hx hb dX2_readStatement_96 (by decide) ?_
                    have h := Option.some.inj h
                    exact W.zret (v := b2i false) hx hb hr (b2i_nar _) (fun t ht hW => ⟨⟨_, (), rfl, by rw [← h], by (try rw [← h]); rw [ht]; exact hP, va_K.moved hW.alike hK, by (try rw [← h]); exact hD⟩, hS.F ht⟩) hS.2.2 dX2_readStatement_97
        exact L64_37 N 0 D_numbers (D_at + 1) ls _ _ h (lv_sub hl [2, 1, 0] rfl) hP hD hS
      · have h := it_p c_37 h
        refine lv_iconst (v := 2) hx hb dX2_readStatement_56 (by decide) ?_
        refine lv_goto (tgt := 61) hx hb dX2_readStatement_57 (by decide) ?_
        refine lv_istore_n (lv' := [(1, .int 2), (0, .ref aD)]) hx hb dX2_readStatement_61 rfl hl (by decide) rfl (fun ls hl => ?_)
        refine lv_iconst (v := 0) hx hb dX2_readStatement_62 (by decide) ?_
        refine lv_istore_n (lv' := [(2, .int 0), (1, .int 2), (0, .ref aD)]) hx hb dX2_readStatement_63 rfl hl (by decide) rfl (fun ls hl => ?_)
        have L64_49 : ∀ (n_50 : Nat) (v2_51 : Int32) (D_numbers_52 : Nat → Int32) (D_at_53 : Int32) (ls : Array Slot) (H : Heap) (locs : List Loc), f_X2_readStatement_L64 N r_1 T_numbers T_size 2 n_50 v2_51 D_numbers_52 D_at_53 = some res → lv_has ls 3 [(0, .ref aD), (1, .int 2), (2, .int v2_51)] → va_P (dC, dI) vwCl [(aD, .inr (2, [.ref aT, .ref aR, .ref aD_numbers, .int r_1, .int D_at_53])), (aD_numbers, .inl (cI, 3, .inl D_numbers_52)), (aT, .inr (4, [.ref aT_numbers, .int T_holds, va_rf T_laying, .int T_sort, .int T_size])), (aT_numbers, .inl (cI, 100, .inl T_numbers)), (aR, .inr (3, [.ref aR_inches, .ref aR_many, .ref aR_worth, .ref aR_lengths, .ref aR_laid, .ref aR_slates, .int R_widths, .int R_rows, .int R_lap])), (aR_inches, .inl (cI, 4, .inl R_inches)), (aR_many, .inl (cI, 4, .inl R_many)), (aR_worth, .inl (cI, 4, .inl R_worth)), (aR_lengths, .inl (cI, 6, .inl R_lengths)), (aR_laid, .inl (cI, 6, .inl R_laid)), (aR_slates, .inl (cI, 72, .inl R_slates))] H → va_D A [(aD, .inr (2, [.ref aT, .ref aR, .ref aD_numbers, .int r_1, .int D_at_53])), (aD_numbers, .inl (cI, 3, .inl D_numbers_52)), (aT, .inr (4, [.ref aT_numbers, .int T_holds, va_rf T_laying, .int T_sort, .int T_size])), (aT_numbers, .inl (cI, 100, .inl T_numbers)), (aR, .inr (3, [.ref aR_inches, .ref aR_many, .ref aR_worth, .ref aR_lengths, .ref aR_laid, .ref aR_slates, .int R_widths, .int R_rows, .int R_lap])), (aR_inches, .inl (cI, 4, .inl R_inches)), (aR_many, .inl (cI, 4, .inl R_many)), (aR_worth, .inl (cI, 4, .inl R_worth)), (aR_lengths, .inl (cI, 6, .inl R_lengths)), (aR_laid, .inl (cI, 6, .inl R_laid)), (aR_slates, .inl (cI, 72, .inl R_slates))] → va_S A s.heap H locs → W p l e (headSpec wsX2_readStatement ({ frames := 4, cells := 0, slots := 0, locals := 82 })).room s m ([.ref aD] : List Value).toArray below meth c H locs 0 0 (MQ below (va_Qi (fun (r : Int32) (_ : Unit) => r = b2i res.1) (fun _ => qW (dC, dI) cI cZ cS A [(aD, .inr (2, [.ref aT, .ref aR, .ref aD_numbers, .int res.2.2.1, .int res.2.2.2])), (aD_numbers, .inl (cI, 3, .inl res.2.1)), (aT, .inr (4, [.ref aT_numbers, .int T_holds, va_rf T_laying, .int T_sort, .int T_size])), (aT_numbers, .inl (cI, 100, .inl T_numbers)), (aR, .inr (3, [.ref aR_inches, .ref aR_many, .ref aR_worth, .ref aR_lengths, .ref aR_laid, .ref aR_slates, .int R_widths, .int R_rows, .int R_lap])), (aR_inches, .inl (cI, 4, .inl R_inches)), (aR_many, .inl (cI, 4, .inl R_many)), (aR_worth, .inl (cI, 4, .inl R_worth)), (aR_lengths, .inl (cI, 6, .inl R_lengths)), (aR_laid, .inl (cI, 6, .inl R_laid)), (aR_slates, .inl (cI, 72, .inl R_slates))]) A) ([.ref aD] : List Value).toArray s 0 0 A) (F0 m 64 ls []) := by
          intro n_50
          induction n_50 with
          | zero =>
            intro v2_51 D_numbers_52 D_at_53 ls H locs h
            simp only [f_X2_readStatement_L64] at h
            try exact absurd h (by simp)
          | succ n_50 ihn_50 =>
            intro v2_51 D_numbers_52 D_at_53 ls H locs h hl hP hD hS
            rw [f_X2_readStatement_L64] at h
            refine lv_iload_n hx hb dX2_readStatement_64 rfl (lv_at hl 2 rfl) ?_
            refine lv_iload_n hx hb dX2_readStatement_65 rfl (lv_at hl 1 rfl) ?_
            refine lv_icmp_gt (tgt := 104) hx hb dX2_readStatement_66 (by decide) (fun c_54 => ?_) (fun c_54 => ?_)
            · have h := it_p c_54 h
              refine lv_iconst (v := 1) hx hb dX2_readStatement_104 (by decide) ?_
              have h := Option.some.inj h
              exact W.zret (v := b2i true) hx hb hr (b2i_nar _) (fun t ht hW => ⟨⟨_, (), rfl, by rw [← h], by (try rw [← h]); rw [ht]; exact hP, va_K.moved hW.alike hK, by (try rw [← h]); exact hD⟩, hS.F ht⟩) hS.2.2 dX2_readStatement_105
            · have h := it_n c_54 h
              refine lv_aload_n hx hb dX2_readStatement_69 rfl (lv_at hl 0 rfl) ?_
              refine lv_iload_n hx hb dX2_readStatement_70 rfl (lv_at hl 2 rfl) ?_
              obtain ⟨r_55, hg, h⟩ := bd_some h
              refine mtVi (As := [.int v2_51]) (rest := []) (ci := 2) (wr := []) (w2 := [(aD, .inr (2, [.ref aT, .ref aR, .ref aD_numbers, .int r_1, .int r_55.2.2])), (aD_numbers, .inl (cI, 3, .inl r_55.2.1)), (aT, .inr (4, [.ref aT_numbers, .int T_holds, va_rf T_laying, .int T_sort, .int T_size])), (aT_numbers, .inl (cI, 100, .inl T_numbers)), (aR, .inr (3, [.ref aR_inches, .ref aR_many, .ref aR_worth, .ref aR_lengths, .ref aR_laid, .ref aR_slates, .int R_widths, .int R_rows, .int R_lap])), (aR_inches, .inl (cI, 4, .inl R_inches)), (aR_many, .inl (cI, 4, .inl R_many)), (aR_worth, .inl (cI, 4, .inl R_worth)), (aR_lengths, .inl (cI, 6, .inl R_lengths)), (aR_laid, .inl (cI, 6, .inl R_laid)), (aR_slates, .inl (cI, 72, .inl R_slates))]) ⟨hx, hb, hml, hown, hts⟩ (k_X2_readNumber l dC dI cI cZ cS N aD aD_numbers aT aT_numbers aR aR_inches aR_many aR_worth aR_lengths aR_laid aR_slates _ D_numbers_52 r_1 D_at_53 T_numbers T_holds T_laying T_sort T_size R_inches R_many R_worth R_lengths R_laid R_slates R_widths R_rows R_lap v2_51 r_55 hg) (cwV 1 hts gX2_readStatement_X2_readNumber rfl rfl rfl cd_X2_readNumber ⟨Nat.le_of_ble_eq_true rfl, Nat.le_of_ble_eq_true rfl⟩) hP hD hK hS hA [0, 1, 2, 3, 4, 5, 6, 7, 8, 9, 10] [] [0, 1, 2, 3, 4, 5, 6, 7, 8, 9, 10] (by decide) (by decide) (by decide) (by decide) rfl rfl rfl rfl rfl rfl hl.1 rfl (Nat.le_of_ble_eq_true rfl) dX2_readStatement_71 ⟨Nat.zero_le _, Nat.zero_le _⟩ (fun H locs hP hD hS => ?_)
              refine lv_if_eq (tgt := 96) hx hb dX2_readStatement_74 (by decide) (fun c_56 => ?_) (fun c_56 => ?_)
              · have h := it_p c_56 h
                refine lv_iconst (v := 0) hx hb dX2_readStatement_96 (by decide) ?_
                have h := Option.some.inj h
                exact W.zret (v := b2i false) hx hb hr (b2i_nar _) (fun t ht hW => ⟨⟨_, (), rfl, by rw [← h], by (try rw [← h]); rw [ht]; exact hP, va_K.moved hW.alike hK, by (try rw [← h]); exact hD⟩, hS.F ht⟩) hS.2.2 dX2_readStatement_97
              · have h := it_n c_56 h
                refine lv_aload_n hx hb dX2_readStatement_77 rfl (lv_at hl 0 rfl) ?_
                refine lv_iload_n hx hb dX2_readStatement_78 rfl (lv_at hl 2 rfl) ?_
                refine lv_iload_n hx hb dX2_readStatement_79 rfl (lv_at hl 1 rfl) ?_
                refine lv_icmp_ne (tgt := 88) hx hb dX2_readStatement_80 (by decide) (fun c_57 => ?_) (fun c_57 => ?_)
                · have h := it_n c_57 h
                  refine lv_bipush (v := 32) hx hb dX2_readStatement_88 (by decide) ?_
                  obtain ⟨r_58, hg, h⟩ := bd_some h
                  refine mtVi (As := [.int 32]) (rest := []) (ci := 2) (wr := []) (w2 := [(aD, .inr (2, [.ref aT, .ref aR, .ref aD_numbers, .int r_1, .int r_58.2])), (aD_numbers, .inl (cI, 3, .inl r_55.2.1)), (aT, .inr (4, [.ref aT_numbers, .int T_holds, va_rf T_laying, .int T_sort, .int T_size])), (aT_numbers, .inl (cI, 100, .inl T_numbers)), (aR, .inr (3, [.ref aR_inches, .ref aR_many, .ref aR_worth, .ref aR_lengths, .ref aR_laid, .ref aR_slates, .int R_widths, .int R_rows, .int R_lap])), (aR_inches, .inl (cI, 4, .inl R_inches)), (aR_many, .inl (cI, 4, .inl R_many)), (aR_worth, .inl (cI, 4, .inl R_worth)), (aR_lengths, .inl (cI, 6, .inl R_lengths)), (aR_laid, .inl (cI, 6, .inl R_laid)), (aR_slates, .inl (cI, 72, .inl R_slates))]) ⟨hx, hb, hml, hown, hts⟩ (k_X2_readSign l dC dI cI cZ cS N aD aD_numbers aT aT_numbers aR aR_inches aR_many aR_worth aR_lengths aR_laid aR_slates _ r_55.2.1 r_1 r_55.2.2 T_numbers T_holds T_laying T_sort T_size R_inches R_many R_worth R_lengths R_laid R_slates R_widths R_rows R_lap 32 r_58 hg) (cwV 1 hts gX2_readStatement_X2_readSign rfl rfl rfl cd_X2_readSign ⟨Nat.le_of_ble_eq_true rfl, Nat.le_of_ble_eq_true rfl⟩) hP hD hK hS hA [0, 1, 2, 3, 4, 5, 6, 7, 8, 9, 10] [] [0, 1, 2, 3, 4, 5, 6, 7, 8, 9, 10] (by decide) (by decide) (by decide) (by decide) rfl rfl rfl rfl rfl rfl hl.1 rfl (Nat.le_of_ble_eq_true rfl) dX2_readStatement_90 ⟨Nat.zero_le _, Nat.zero_le _⟩ (fun H locs hP hD hS => ?_)
                  refine lv_if_ne (tgt := 98) hx hb dX2_readStatement_93 (by decide) (fun c_59 => ?_) (fun c_59 => ?_)
                  · have h := it_n c_59 h
                    refine lv_iinc (v := (v2_51 + 1)) (lv' := [(2, .int (v2_51 + 1)), (0, .ref aD), (1, .int 2)]) hx hb dX2_readStatement_98 hl (k := 2) rfl rfl (by decide) rfl (fun ls hl => ?_)
                    refine lv_goto (tgt := 64) hx hb dX2_readStatement_101 (by decide) ?_
                    exact ihn_50 (v2_51 + 1) r_55.2.1 r_58.2 ls _ _ h (lv_sub hl [1, 2, 0] rfl) hP hD hS
                  · have h := it_p c_59 h
                    refine lv_iconst (v := 0) hx hb dX2_readStatement_96 (by decide) ?_
                    have h := Option.some.inj h
                    exact W.zret (v := b2i false) hx hb hr (b2i_nar _) (fun t ht hW => ⟨⟨_, (), rfl, by rw [← h], by (try rw [← h]); rw [ht]; exact hP, va_K.moved hW.alike hK, by (try rw [← h]); exact hD⟩, hS.F ht⟩) hS.2.2 dX2_readStatement_97
                · have h := it_p c_57 h
                  refine lv_bipush (v := 59) hx hb dX2_readStatement_83 (by decide) ?_
                  refine lv_goto (tgt := 90) hx hb dX2_readStatement_85 (by decide) ?_
                  obtain ⟨r_60, hg, h⟩ := bd_some h
                  refine mtVi (As := [.int 59]) (rest := []) (ci := 2) (wr := []) (w2 := [(aD, .inr (2, [.ref aT, .ref aR, .ref aD_numbers, .int r_1, .int r_60.2])), (aD_numbers, .inl (cI, 3, .inl r_55.2.1)), (aT, .inr (4, [.ref aT_numbers, .int T_holds, va_rf T_laying, .int T_sort, .int T_size])), (aT_numbers, .inl (cI, 100, .inl T_numbers)), (aR, .inr (3, [.ref aR_inches, .ref aR_many, .ref aR_worth, .ref aR_lengths, .ref aR_laid, .ref aR_slates, .int R_widths, .int R_rows, .int R_lap])), (aR_inches, .inl (cI, 4, .inl R_inches)), (aR_many, .inl (cI, 4, .inl R_many)), (aR_worth, .inl (cI, 4, .inl R_worth)), (aR_lengths, .inl (cI, 6, .inl R_lengths)), (aR_laid, .inl (cI, 6, .inl R_laid)), (aR_slates, .inl (cI, 72, .inl R_slates))]) ⟨hx, hb, hml, hown, hts⟩ (k_X2_readSign l dC dI cI cZ cS N aD aD_numbers aT aT_numbers aR aR_inches aR_many aR_worth aR_lengths aR_laid aR_slates _ r_55.2.1 r_1 r_55.2.2 T_numbers T_holds T_laying T_sort T_size R_inches R_many R_worth R_lengths R_laid R_slates R_widths R_rows R_lap 59 r_60 hg) (cwV 1 hts gX2_readStatement_X2_readSign rfl rfl rfl cd_X2_readSign ⟨Nat.le_of_ble_eq_true rfl, Nat.le_of_ble_eq_true rfl⟩) hP hD hK hS hA [0, 1, 2, 3, 4, 5, 6, 7, 8, 9, 10] [] [0, 1, 2, 3, 4, 5, 6, 7, 8, 9, 10] (by decide) (by decide) (by decide) (by decide) rfl rfl rfl rfl rfl rfl hl.1 rfl (Nat.le_of_ble_eq_true rfl) dX2_readStatement_90 ⟨Nat.zero_le _, Nat.zero_le _⟩ (fun H locs hP hD hS => ?_)
                  refine lv_if_ne (tgt := 98) hx hb dX2_readStatement_93 (by decide) (fun c_61 => ?_) (fun c_61 => ?_)
                  · have h := it_n c_61 h
                    refine lv_iinc (v := (v2_51 + 1)) (lv' := [(2, .int (v2_51 + 1)), (0, .ref aD), (1, .int 2)]) hx hb dX2_readStatement_98 hl (k := 2) rfl rfl (by decide) rfl (fun ls hl => ?_)
                    refine lv_goto (tgt := 64) hx hb dX2_readStatement_101 (by decide) ?_
                    exact ihn_50 (v2_51 + 1) r_55.2.1 r_60.2 ls _ _ h (lv_sub hl [1, 2, 0] rfl) hP hD hS
                  · have h := it_p c_61 h
                    refine lv_iconst (v := 0) hx hb dX2_readStatement_96 (by decide) ?_
                    have h := Option.some.inj h
                    exact W.zret (v := b2i false) hx hb hr (b2i_nar _) (fun t ht hW => ⟨⟨_, (), rfl, by rw [← h], by (try rw [← h]); rw [ht]; exact hP, va_K.moved hW.alike hK, by (try rw [← h]); exact hD⟩, hS.F ht⟩) hS.2.2 dX2_readStatement_97
        exact L64_49 N 0 D_numbers (D_at + 1) ls _ _ h (lv_sub hl [2, 1, 0] rfl) hP hD hS
    · have h := it_n c_36 h
      refine lv_aload_n hx hb dX2_readStatement_26 rfl (lv_at hl 0 rfl) ?_
      refine va_get (D := (dC, dI)) (ci := 2) (v := .int r_1) (C := RX2) (T := TX2) (N := 5) hx hb hts (fun _ h => List.mem_cons_of_mem _ (List.mem_append_left _ (List.mem_append_right _ h))) hown hK hP 0 rfl rfl 3 (by decide) (hts (.fieldLink RX2 15 "SlateRows$Reader" "letter" "I") (by decide +kernel)) (fun _ h9 => h9) rfl dX2_readStatement_27 ?_
      refine lv_bipush (v := 108) hx hb dX2_readStatement_30 (by decide) ?_
      refine lv_icmp_eq (tgt := 37) hx hb dX2_readStatement_32 (by decide) (fun c_62 => ?_) (fun c_62 => ?_)
      · have h := it_p c_62 h
        refine lv_aload_n hx hb dX2_readStatement_37 rfl (lv_at hl 0 rfl) ?_
        refine lv_dup hx hb dX2_readStatement_38 rfl ?_
        refine va_get (D := (dC, dI)) (ci := 2) (v := .int D_at) (C := RX2) (T := TX2) (N := 5) hx hb hts (fun _ h => List.mem_cons_of_mem _ (List.mem_append_left _ (List.mem_append_right _ h))) hown hK hP 0 rfl rfl 4 (by decide) (hts (.fieldLink RX2 19 "SlateRows$Reader" "at" "I") (by decide +kernel)) (fun _ h9 => h9) rfl dX2_readStatement_39 ?_
        refine lv_iconst (v := 1) hx hb dX2_readStatement_42 (by decide) ?_
        refine lv_iadd hx hb dX2_readStatement_43 ?_
        refine va_put (D := (dC, dI)) (ci := 2) (v := .int (D_at + 1)) (ty := .int) (C := RX2) (T := TX2) (N := 5) hx hb hts (fun _ h => List.mem_cons_of_mem _ (List.mem_append_left _ (List.mem_append_right _ h))) tyX2 tyX2_ok nmX2 hown hK hP hD hS 0 rfl rfl 4 (by decide) (hts (.fieldLink RX2 19 "SlateRows$Reader" "at" "I") (by decide +kernel)) (fun _ h9 => h9) rfl (by decide +kernel) rfl rfl (Nat.le_of_ble_eq_true rfl) dX2_readStatement_44 (fun H locs hP hD hS => ?_)
        have hP : va_P (dC, dI) vwCl [(aD, .inr (2, [.ref aT, .ref aR, .ref aD_numbers, .int r_1, .int (D_at + 1)])), (aD_numbers, .inl (cI, 3, .inl D_numbers)), (aT, .inr (4, [.ref aT_numbers, .int T_holds, va_rf T_laying, .int T_sort, .int T_size])), (aT_numbers, .inl (cI, 100, .inl T_numbers)), (aR, .inr (3, [.ref aR_inches, .ref aR_many, .ref aR_worth, .ref aR_lengths, .ref aR_laid, .ref aR_slates, .int R_widths, .int R_rows, .int R_lap])), (aR_inches, .inl (cI, 4, .inl R_inches)), (aR_many, .inl (cI, 4, .inl R_many)), (aR_worth, .inl (cI, 4, .inl R_worth)), (aR_lengths, .inl (cI, 6, .inl R_lengths)), (aR_laid, .inl (cI, 6, .inl R_laid)), (aR_slates, .inl (cI, 72, .inl R_slates))] H := hP
        have hD : va_D A [(aD, .inr (2, [.ref aT, .ref aR, .ref aD_numbers, .int r_1, .int (D_at + 1)])), (aD_numbers, .inl (cI, 3, .inl D_numbers)), (aT, .inr (4, [.ref aT_numbers, .int T_holds, va_rf T_laying, .int T_sort, .int T_size])), (aT_numbers, .inl (cI, 100, .inl T_numbers)), (aR, .inr (3, [.ref aR_inches, .ref aR_many, .ref aR_worth, .ref aR_lengths, .ref aR_laid, .ref aR_slates, .int R_widths, .int R_rows, .int R_lap])), (aR_inches, .inl (cI, 4, .inl R_inches)), (aR_many, .inl (cI, 4, .inl R_many)), (aR_worth, .inl (cI, 4, .inl R_worth)), (aR_lengths, .inl (cI, 6, .inl R_lengths)), (aR_laid, .inl (cI, 6, .inl R_laid)), (aR_slates, .inl (cI, 72, .inl R_slates))] := hD
        refine lv_aload_n hx hb dX2_readStatement_47 rfl (lv_at hl 0 rfl) ?_
        refine va_get (D := (dC, dI)) (ci := 2) (v := .int r_1) (C := RX2) (T := TX2) (N := 5) hx hb hts (fun _ h => List.mem_cons_of_mem _ (List.mem_append_left _ (List.mem_append_right _ h))) hown hK hP 0 rfl rfl 3 (by decide) (hts (.fieldLink RX2 15 "SlateRows$Reader" "letter" "I") (by decide +kernel)) (fun _ h9 => h9) rfl dX2_readStatement_48 ?_
        refine lv_bipush (v := 119) hx hb dX2_readStatement_51 (by decide) ?_
        refine lv_icmp_ne (tgt := 60) hx hb dX2_readStatement_53 (by decide) (fun c_63 => ?_) (fun c_63 => ?_)
        · have h := it_n c_63 h
          refine lv_iconst (v := 0) hx hb dX2_readStatement_60 (by decide) ?_
          refine lv_istore_n (lv' := [(1, .int 0), (0, .ref aD)]) hx hb dX2_readStatement_61 rfl hl (by decide) rfl (fun ls hl => ?_)
          refine lv_iconst (v := 0) hx hb dX2_readStatement_62 (by decide) ?_
          refine lv_istore_n (lv' := [(2, .int 0), (1, .int 0), (0, .ref aD)]) hx hb dX2_readStatement_63 rfl hl (by decide) rfl (fun ls hl => ?_)
          have L64_63 : ∀ (n_64 : Nat) (v2_65 : Int32) (D_numbers_66 : Nat → Int32) (D_at_67 : Int32) (ls : Array Slot) (H : Heap) (locs : List Loc), f_X2_readStatement_L64 N r_1 T_numbers T_size 0 n_64 v2_65 D_numbers_66 D_at_67 = some res → lv_has ls 3 [(0, .ref aD), (1, .int 0), (2, .int v2_65)] → va_P (dC, dI) vwCl [(aD, .inr (2, [.ref aT, .ref aR, .ref aD_numbers, .int r_1, .int D_at_67])), (aD_numbers, .inl (cI, 3, .inl D_numbers_66)), (aT, .inr (4, [.ref aT_numbers, .int T_holds, va_rf T_laying, .int T_sort, .int T_size])), (aT_numbers, .inl (cI, 100, .inl T_numbers)), (aR, .inr (3, [.ref aR_inches, .ref aR_many, .ref aR_worth, .ref aR_lengths, .ref aR_laid, .ref aR_slates, .int R_widths, .int R_rows, .int R_lap])), (aR_inches, .inl (cI, 4, .inl R_inches)), (aR_many, .inl (cI, 4, .inl R_many)), (aR_worth, .inl (cI, 4, .inl R_worth)), (aR_lengths, .inl (cI, 6, .inl R_lengths)), (aR_laid, .inl (cI, 6, .inl R_laid)), (aR_slates, .inl (cI, 72, .inl R_slates))] H → va_D A [(aD, .inr (2, [.ref aT, .ref aR, .ref aD_numbers, .int r_1, .int D_at_67])), (aD_numbers, .inl (cI, 3, .inl D_numbers_66)), (aT, .inr (4, [.ref aT_numbers, .int T_holds, va_rf T_laying, .int T_sort, .int T_size])), (aT_numbers, .inl (cI, 100, .inl T_numbers)), (aR, .inr (3, [.ref aR_inches, .ref aR_many, .ref aR_worth, .ref aR_lengths, .ref aR_laid, .ref aR_slates, .int R_widths, .int R_rows, .int R_lap])), (aR_inches, .inl (cI, 4, .inl R_inches)), (aR_many, .inl (cI, 4, .inl R_many)), (aR_worth, .inl (cI, 4, .inl R_worth)), (aR_lengths, .inl (cI, 6, .inl R_lengths)), (aR_laid, .inl (cI, 6, .inl R_laid)), (aR_slates, .inl (cI, 72, .inl R_slates))] → va_S A s.heap H locs → W p l e (headSpec wsX2_readStatement ({ frames := 4, cells := 0, slots := 0, locals := 82 })).room s m ([.ref aD] : List Value).toArray below meth c H locs 0 0 (MQ below (va_Qi (fun (r : Int32) (_ : Unit) => r = b2i res.1) (fun _ => qW (dC, dI) cI cZ cS A [(aD, .inr (2, [.ref aT, .ref aR, .ref aD_numbers, .int res.2.2.1, .int res.2.2.2])), (aD_numbers, .inl (cI, 3, .inl res.2.1)), (aT, .inr (4, [.ref aT_numbers, .int T_holds, va_rf T_laying, .int T_sort, .int T_size])), (aT_numbers, .inl (cI, 100, .inl T_numbers)), (aR, .inr (3, [.ref aR_inches, .ref aR_many, .ref aR_worth, .ref aR_lengths, .ref aR_laid, .ref aR_slates, .int R_widths, .int R_rows, .int R_lap])), (aR_inches, .inl (cI, 4, .inl R_inches)), (aR_many, .inl (cI, 4, .inl R_many)), (aR_worth, .inl (cI, 4, .inl R_worth)), (aR_lengths, .inl (cI, 6, .inl R_lengths)), (aR_laid, .inl (cI, 6, .inl R_laid)), (aR_slates, .inl (cI, 72, .inl R_slates))]) A) ([.ref aD] : List Value).toArray s 0 0 A) (F0 m 64 ls []) := by
            intro n_64
            induction n_64 with
            | zero =>
              intro v2_65 D_numbers_66 D_at_67 ls H locs h
              simp only [f_X2_readStatement_L64] at h
              try exact absurd h (by simp)
            | succ n_64 ihn_64 =>
              intro v2_65 D_numbers_66 D_at_67 ls H locs h hl hP hD hS
              rw [f_X2_readStatement_L64] at h
              refine lv_iload_n hx hb dX2_readStatement_64 rfl (lv_at hl 2 rfl) ?_
              refine lv_iload_n hx hb dX2_readStatement_65 rfl (lv_at hl 1 rfl) ?_
              refine lv_icmp_gt (tgt := 104) hx hb dX2_readStatement_66 (by decide) (fun c_68 => ?_) (fun c_68 => ?_)
              · have h := it_p c_68 h
                refine lv_iconst (v := 1) hx hb dX2_readStatement_104 (by decide) ?_
                have h := Option.some.inj h
                exact W.zret (v := b2i true) hx hb hr (b2i_nar _) (fun t ht hW => ⟨⟨_, (), rfl, by rw [← h], by (try rw [← h]); rw [ht]; exact hP, va_K.moved hW.alike hK, by (try rw [← h]); exact hD⟩, hS.F ht⟩) hS.2.2 dX2_readStatement_105
              · have h := it_n c_68 h
                refine lv_aload_n hx hb dX2_readStatement_69 rfl (lv_at hl 0 rfl) ?_
                refine lv_iload_n hx hb dX2_readStatement_70 rfl (lv_at hl 2 rfl) ?_
                obtain ⟨r_69, hg, h⟩ := bd_some h
                refine mtVi (As := [.int v2_65]) (rest := []) (ci := 2) (wr := []) (w2 := [(aD, .inr (2, [.ref aT, .ref aR, .ref aD_numbers, .int r_1, .int r_69.2.2])), (aD_numbers, .inl (cI, 3, .inl r_69.2.1)), (aT, .inr (4, [.ref aT_numbers, .int T_holds, va_rf T_laying, .int T_sort, .int T_size])), (aT_numbers, .inl (cI, 100, .inl T_numbers)), (aR, .inr (3, [.ref aR_inches, .ref aR_many, .ref aR_worth, .ref aR_lengths, .ref aR_laid, .ref aR_slates, .int R_widths, .int R_rows, .int R_lap])), (aR_inches, .inl (cI, 4, .inl R_inches)), (aR_many, .inl (cI, 4, .inl R_many)), (aR_worth, .inl (cI, 4, .inl R_worth)), (aR_lengths, .inl (cI, 6, .inl R_lengths)), (aR_laid, .inl (cI, 6, .inl R_laid)), (aR_slates, .inl (cI, 72, .inl R_slates))]) ⟨hx, hb, hml, hown, hts⟩ (k_X2_readNumber l dC dI cI cZ cS N aD aD_numbers aT aT_numbers aR aR_inches aR_many aR_worth aR_lengths aR_laid aR_slates _ D_numbers_66 r_1 D_at_67 T_numbers T_holds T_laying T_sort T_size R_inches R_many R_worth R_lengths R_laid R_slates R_widths R_rows R_lap v2_65 r_69 hg) (cwV 1 hts gX2_readStatement_X2_readNumber rfl rfl rfl cd_X2_readNumber ⟨Nat.le_of_ble_eq_true rfl, Nat.le_of_ble_eq_true rfl⟩) hP hD hK hS hA [0, 1, 2, 3, 4, 5, 6, 7, 8, 9, 10] [] [0, 1, 2, 3, 4, 5, 6, 7, 8, 9, 10] (by decide) (by decide) (by decide) (by decide) rfl rfl rfl rfl rfl rfl hl.1 rfl (Nat.le_of_ble_eq_true rfl) dX2_readStatement_71 ⟨Nat.zero_le _, Nat.zero_le _⟩ (fun H locs hP hD hS => ?_)
                refine lv_if_eq (tgt := 96) hx hb dX2_readStatement_74 (by decide) (fun c_70 => ?_) (fun c_70 => ?_)
                · have h := it_p c_70 h
                  refine lv_iconst (v := 0) hx hb dX2_readStatement_96 (by decide) ?_
                  have h := Option.some.inj h
                  exact W.zret (v := b2i false) hx hb hr (b2i_nar _) (fun t ht hW => ⟨⟨_, (), rfl, by rw [← h], by (try rw [← h]); rw [ht]; exact hP, va_K.moved hW.alike hK, by (try rw [← h]); exact hD⟩, hS.F ht⟩) hS.2.2 dX2_readStatement_97
                · have h := it_n c_70 h
                  refine lv_aload_n hx hb dX2_readStatement_77 rfl (lv_at hl 0 rfl) ?_
                  refine lv_iload_n hx hb dX2_readStatement_78 rfl (lv_at hl 2 rfl) ?_
                  refine lv_iload_n hx hb dX2_readStatement_79 rfl (lv_at hl 1 rfl) ?_
                  refine lv_icmp_ne (tgt := 88) hx hb dX2_readStatement_80 (by decide) (fun c_71 => ?_) (fun c_71 => ?_)
                  · have h := it_n c_71 h
                    refine lv_bipush (v := 32) hx hb dX2_readStatement_88 (by decide) ?_
                    obtain ⟨r_72, hg, h⟩ := bd_some h
                    refine mtVi (As := [.int 32]) (rest := []) (ci := 2) (wr := []) (w2 := [(aD, .inr (2, [.ref aT, .ref aR, .ref aD_numbers, .int r_1, .int r_72.2])), (aD_numbers, .inl (cI, 3, .inl r_69.2.1)), (aT, .inr (4, [.ref aT_numbers, .int T_holds, va_rf T_laying, .int T_sort, .int T_size])), (aT_numbers, .inl (cI, 100, .inl T_numbers)), (aR, .inr (3, [.ref aR_inches, .ref aR_many, .ref aR_worth, .ref aR_lengths, .ref aR_laid, .ref aR_slates, .int R_widths, .int R_rows, .int R_lap])), (aR_inches, .inl (cI, 4, .inl R_inches)), (aR_many, .inl (cI, 4, .inl R_many)), (aR_worth, .inl (cI, 4, .inl R_worth)), (aR_lengths, .inl (cI, 6, .inl R_lengths)), (aR_laid, .inl (cI, 6, .inl R_laid)), (aR_slates, .inl (cI, 72, .inl R_slates))]) ⟨hx, hb, hml, hown, hts⟩ (k_X2_readSign l dC dI cI cZ cS N aD aD_numbers aT aT_numbers aR aR_inches aR_many aR_worth aR_lengths aR_laid aR_slates _ r_69.2.1 r_1 r_69.2.2 T_numbers T_holds T_laying T_sort T_size R_inches R_many R_worth R_lengths R_laid R_slates R_widths R_rows R_lap 32 r_72 hg) (cwV 1 hts gX2_readStatement_X2_readSign rfl rfl rfl cd_X2_readSign ⟨Nat.le_of_ble_eq_true rfl, Nat.le_of_ble_eq_true rfl⟩) hP hD hK hS hA [0, 1, 2, 3, 4, 5, 6, 7, 8, 9, 10] [] [0, 1, 2, 3, 4, 5, 6, 7, 8, 9, 10] (by decide) (by decide) (by decide) (by decide) rfl rfl rfl rfl rfl rfl hl.1 rfl (Nat.le_of_ble_eq_true rfl) dX2_readStatement_90 ⟨Nat.zero_le _, Nat.zero_le _⟩ (fun H locs hP hD hS => ?_)
                    refine lv_if_ne (tgt := 98) hx hb dX2_readStatement_93 (by decide) (fun c_73 => ?_) (fun c_73 => ?_)
                    · have h := it_n c_73 h
                      refine lv_iinc (v := (v2_65 + 1)) (lv' := [(2, .int (v2_65 + 1)), (0, .ref aD), (1, .int 0)]) hx hb dX2_readStatement_98 hl (k := 2) rfl rfl (by decide) rfl (fun ls hl => ?_)
                      refine lv_goto (tgt := 64) hx hb dX2_readStatement_101 (by decide) ?_
                      exact ihn_64 (v2_65 + 1) r_69.2.1 r_72.2 ls _ _ h (lv_sub hl [1, 2, 0] rfl) hP hD hS
                    · have h := it_p c_73 h
                      refine lv_iconst (v := 0) hx hb dX2_readStatement_96 (by decide) ?_
                      have h := Option.some.inj h
                      exact W.zret (v := b2i false) hx hb hr (b2i_nar _) (fun t ht hW => ⟨⟨_, (), rfl, by rw [← h], by (try rw [← h]); rw [ht]; exact hP, va_K.moved hW.alike hK, by (try rw [← h]); exact hD⟩, hS.F ht⟩) hS.2.2 dX2_readStatement_97
                  · have h := it_p c_71 h
                    refine lv_bipush (v := 59) hx hb dX2_readStatement_83 (by decide) ?_
                    refine lv_goto (tgt := 90) hx hb dX2_readStatement_85 (by decide) ?_
                    obtain ⟨r_74, hg, h⟩ := bd_some h
                    refine mtVi (As := [.int 59]) (rest := []) (ci := 2) (wr := []) (w2 := [(aD, .inr (2, [.ref aT, .ref aR, .ref aD_numbers, .int r_1, .int r_74.2])), (aD_numbers, .inl (cI, 3, .inl r_69.2.1)), (aT, .inr (4, [.ref aT_numbers, .int T_holds, va_rf T_laying, .int T_sort, .int T_size])), (aT_numbers, .inl (cI, 100, .inl T_numbers)), (aR, .inr (3, [.ref aR_inches, .ref aR_many, .ref aR_worth, .ref aR_lengths, .ref aR_laid, .ref aR_slates, .int R_widths, .int R_rows, .int R_lap])), (aR_inches, .inl (cI, 4, .inl R_inches)), (aR_many, .inl (cI, 4, .inl R_many)), (aR_worth, .inl (cI, 4, .inl R_worth)), (aR_lengths, .inl (cI, 6, .inl R_lengths)), (aR_laid, .inl (cI, 6, .inl R_laid)), (aR_slates, .inl (cI, 72, .inl R_slates))]) ⟨hx, hb, hml, hown, hts⟩ (k_X2_readSign l dC dI cI cZ cS N aD aD_numbers aT aT_numbers aR aR_inches aR_many aR_worth aR_lengths aR_laid aR_slates _ r_69.2.1 r_1 r_69.2.2 T_numbers T_holds T_laying T_sort T_size R_inches R_many R_worth R_lengths R_laid R_slates R_widths R_rows R_lap 59 r_74 hg) (cwV 1 hts gX2_readStatement_X2_readSign rfl rfl rfl cd_X2_readSign ⟨Nat.le_of_ble_eq_true rfl, Nat.le_of_ble_eq_true rfl⟩) hP hD hK hS hA [0, 1, 2, 3, 4, 5, 6, 7, 8, 9, 10] [] [0, 1, 2, 3, 4, 5, 6, 7, 8, 9, 10] (by decide) (by decide) (by decide) (by decide) rfl rfl rfl rfl rfl rfl hl.1 rfl (Nat.le_of_ble_eq_true rfl) dX2_readStatement_90 ⟨Nat.zero_le _, Nat.zero_le _⟩ (fun H locs hP hD hS => ?_)
                    refine lv_if_ne (tgt := 98) hx hb dX2_readStatement_93 (by decide) (fun c_75 => ?_) (fun c_75 => ?_)
                    · have h := it_n c_75 h
                      refine lv_iinc (v := (v2_65 + 1)) (lv' := [(2, .int (v2_65 + 1)), (0, .ref aD), (1, .int 0)]) hx hb dX2_readStatement_98 hl (k := 2) rfl rfl (by decide) rfl (fun ls hl => ?_)
                      refine lv_goto (tgt := 64) hx hb dX2_readStatement_101 (by decide) ?_
                      exact ihn_64 (v2_65 + 1) r_69.2.1 r_74.2 ls _ _ h (lv_sub hl [1, 2, 0] rfl) hP hD hS
                    · have h := it_p c_75 h
                      refine lv_iconst (v := 0) hx hb dX2_readStatement_96 (by decide) ?_
                      have h := Option.some.inj h
                      exact W.zret (v := b2i false) hx hb hr (b2i_nar _) (fun t ht hW => ⟨⟨_, (), rfl, by rw [← h], by (try rw [← h]); rw [ht]; exact hP, va_K.moved hW.alike hK, by (try rw [← h]); exact hD⟩, hS.F ht⟩) hS.2.2 dX2_readStatement_97
          exact L64_63 N 0 D_numbers (D_at + 1) ls _ _ h (lv_sub hl [2, 1, 0] rfl) hP hD hS
        · have h := it_p c_63 h
          refine lv_iconst (v := 2) hx hb dX2_readStatement_56 (by decide) ?_
          refine lv_goto (tgt := 61) hx hb dX2_readStatement_57 (by decide) ?_
          refine lv_istore_n (lv' := [(1, .int 2), (0, .ref aD)]) hx hb dX2_readStatement_61 rfl hl (by decide) rfl (fun ls hl => ?_)
          refine lv_iconst (v := 0) hx hb dX2_readStatement_62 (by decide) ?_
          refine lv_istore_n (lv' := [(2, .int 0), (1, .int 2), (0, .ref aD)]) hx hb dX2_readStatement_63 rfl hl (by decide) rfl (fun ls hl => ?_)
          have L64_75 : ∀ (n_76 : Nat) (v2_77 : Int32) (D_numbers_78 : Nat → Int32) (D_at_79 : Int32) (ls : Array Slot) (H : Heap) (locs : List Loc), f_X2_readStatement_L64 N r_1 T_numbers T_size 2 n_76 v2_77 D_numbers_78 D_at_79 = some res → lv_has ls 3 [(0, .ref aD), (1, .int 2), (2, .int v2_77)] → va_P (dC, dI) vwCl [(aD, .inr (2, [.ref aT, .ref aR, .ref aD_numbers, .int r_1, .int D_at_79])), (aD_numbers, .inl (cI, 3, .inl D_numbers_78)), (aT, .inr (4, [.ref aT_numbers, .int T_holds, va_rf T_laying, .int T_sort, .int T_size])), (aT_numbers, .inl (cI, 100, .inl T_numbers)), (aR, .inr (3, [.ref aR_inches, .ref aR_many, .ref aR_worth, .ref aR_lengths, .ref aR_laid, .ref aR_slates, .int R_widths, .int R_rows, .int R_lap])), (aR_inches, .inl (cI, 4, .inl R_inches)), (aR_many, .inl (cI, 4, .inl R_many)), (aR_worth, .inl (cI, 4, .inl R_worth)), (aR_lengths, .inl (cI, 6, .inl R_lengths)), (aR_laid, .inl (cI, 6, .inl R_laid)), (aR_slates, .inl (cI, 72, .inl R_slates))] H → va_D A [(aD, .inr (2, [.ref aT, .ref aR, .ref aD_numbers, .int r_1, .int D_at_79])), (aD_numbers, .inl (cI, 3, .inl D_numbers_78)), (aT, .inr (4, [.ref aT_numbers, .int T_holds, va_rf T_laying, .int T_sort, .int T_size])), (aT_numbers, .inl (cI, 100, .inl T_numbers)), (aR, .inr (3, [.ref aR_inches, .ref aR_many, .ref aR_worth, .ref aR_lengths, .ref aR_laid, .ref aR_slates, .int R_widths, .int R_rows, .int R_lap])), (aR_inches, .inl (cI, 4, .inl R_inches)), (aR_many, .inl (cI, 4, .inl R_many)), (aR_worth, .inl (cI, 4, .inl R_worth)), (aR_lengths, .inl (cI, 6, .inl R_lengths)), (aR_laid, .inl (cI, 6, .inl R_laid)), (aR_slates, .inl (cI, 72, .inl R_slates))] → va_S A s.heap H locs → W p l e (headSpec wsX2_readStatement ({ frames := 4, cells := 0, slots := 0, locals := 82 })).room s m ([.ref aD] : List Value).toArray below meth c H locs 0 0 (MQ below (va_Qi (fun (r : Int32) (_ : Unit) => r = b2i res.1) (fun _ => qW (dC, dI) cI cZ cS A [(aD, .inr (2, [.ref aT, .ref aR, .ref aD_numbers, .int res.2.2.1, .int res.2.2.2])), (aD_numbers, .inl (cI, 3, .inl res.2.1)), (aT, .inr (4, [.ref aT_numbers, .int T_holds, va_rf T_laying, .int T_sort, .int T_size])), (aT_numbers, .inl (cI, 100, .inl T_numbers)), (aR, .inr (3, [.ref aR_inches, .ref aR_many, .ref aR_worth, .ref aR_lengths, .ref aR_laid, .ref aR_slates, .int R_widths, .int R_rows, .int R_lap])), (aR_inches, .inl (cI, 4, .inl R_inches)), (aR_many, .inl (cI, 4, .inl R_many)), (aR_worth, .inl (cI, 4, .inl R_worth)), (aR_lengths, .inl (cI, 6, .inl R_lengths)), (aR_laid, .inl (cI, 6, .inl R_laid)), (aR_slates, .inl (cI, 72, .inl R_slates))]) A) ([.ref aD] : List Value).toArray s 0 0 A) (F0 m 64 ls []) := by
            intro n_76
            induction n_76 with
            | zero =>
              intro v2_77 D_numbers_78 D_at_79 ls H locs h
              simp only [f_X2_readStatement_L64] at h
              try exact absurd h (by simp)
            | succ n_76 ihn_76 =>
              intro v2_77 D_numbers_78 D_at_79 ls H locs h hl hP hD hS
              rw [f_X2_readStatement_L64] at h
              refine lv_iload_n hx hb dX2_readStatement_64 rfl (lv_at hl 2 rfl) ?_
              refine lv_iload_n hx hb dX2_readStatement_65 rfl (lv_at hl 1 rfl) ?_
              refine lv_icmp_gt (tgt := 104) hx hb dX2_readStatement_66 (by decide) (fun c_80 => ?_) (fun c_80 => ?_)
              · have h := it_p c_80 h
                refine lv_iconst (v := 1) hx hb dX2_readStatement_104 (by decide) ?_
                have h := Option.some.inj h
                exact W.zret (v := b2i true) hx hb hr (b2i_nar _) (fun t ht hW => ⟨⟨_, (), rfl, by rw [← h], by (try rw [← h]); rw [ht]; exact hP, va_K.moved hW.alike hK, by (try rw [← h]); exact hD⟩, hS.F ht⟩) hS.2.2 dX2_readStatement_105
              · have h := it_n c_80 h
                refine lv_aload_n hx hb dX2_readStatement_69 rfl (lv_at hl 0 rfl) ?_
                refine lv_iload_n hx hb dX2_readStatement_70 rfl (lv_at hl 2 rfl) ?_
                obtain ⟨r_81, hg, h⟩ := bd_some h
                refine mtVi (As := [.int v2_77]) (rest := []) (ci := 2) (wr := []) (w2 := [(aD, .inr (2, [.ref aT, .ref aR, .ref aD_numbers, .int r_1, .int r_81.2.2])), (aD_numbers, .inl (cI, 3, .inl r_81.2.1)), (aT, .inr (4, [.ref aT_numbers, .int T_holds, va_rf T_laying, .int T_sort, .int T_size])), (aT_numbers, .inl (cI, 100, .inl T_numbers)), (aR, .inr (3, [.ref aR_inches, .ref aR_many, .ref aR_worth, .ref aR_lengths, .ref aR_laid, .ref aR_slates, .int R_widths, .int R_rows, .int R_lap])), (aR_inches, .inl (cI, 4, .inl R_inches)), (aR_many, .inl (cI, 4, .inl R_many)), (aR_worth, .inl (cI, 4, .inl R_worth)), (aR_lengths, .inl (cI, 6, .inl R_lengths)), (aR_laid, .inl (cI, 6, .inl R_laid)), (aR_slates, .inl (cI, 72, .inl R_slates))]) ⟨hx, hb, hml, hown, hts⟩ (k_X2_readNumber l dC dI cI cZ cS N aD aD_numbers aT aT_numbers aR aR_inches aR_many aR_worth aR_lengths aR_laid aR_slates _ D_numbers_78 r_1 D_at_79 T_numbers T_holds T_laying T_sort T_size R_inches R_many R_worth R_lengths R_laid R_slates R_widths R_rows R_lap v2_77 r_81 hg) (cwV 1 hts gX2_readStatement_X2_readNumber rfl rfl rfl cd_X2_readNumber ⟨Nat.le_of_ble_eq_true rfl, Nat.le_of_ble_eq_true rfl⟩) hP hD hK hS hA [0, 1, 2, 3, 4, 5, 6, 7, 8, 9, 10] [] [0, 1, 2, 3, 4, 5, 6, 7, 8, 9, 10] (by decide) (by decide) (by decide) (by decide) rfl rfl rfl rfl rfl rfl hl.1 rfl (Nat.le_of_ble_eq_true rfl) dX2_readStatement_71 ⟨Nat.zero_le _, Nat.zero_le _⟩ (fun H locs hP hD hS => ?_)
                refine lv_if_eq (tgt := 96) hx hb dX2_readStatement_74 (by decide) (fun c_82 => ?_) (fun c_82 => ?_)
                · have h := it_p c_82 h
                  refine lv_iconst (v := 0) hx hb dX2_readStatement_96 (by decide) ?_
                  have h := Option.some.inj h
                  exact W.zret (v := b2i false) hx hb hr (b2i_nar _) (fun t ht hW => ⟨⟨_, (), rfl, by rw [← h], by (try rw [← h]); rw [ht]; exact hP, va_K.moved hW.alike hK, by (try rw [← h]); exact hD⟩, hS.F ht⟩) hS.2.2 dX2_readStatement_97
                · have h := it_n c_82 h
                  refine lv_aload_n hx hb dX2_readStatement_77 rfl (lv_at hl 0 rfl) ?_
                  refine lv_iload_n hx hb dX2_readStatement_78 rfl (lv_at hl 2 rfl) ?_
                  refine lv_iload_n hx hb dX2_readStatement_79 rfl (lv_at hl 1 rfl) ?_
                  refine lv_icmp_ne (tgt := 88) hx hb dX2_readStatement_80 (by decide) (fun c_83 => ?_) (fun c_83 => ?_)
                  · have h := it_n c_83 h
                    refine lv_bipush (v := 32) hx hb dX2_readStatement_88 (by decide) ?_
                    obtain ⟨r_84, hg, h⟩ := bd_some h
                    refine mtVi (As := [.int 32]) (rest := []) (ci := 2) (wr := []) (w2 := [(aD, .inr (2, [.ref aT, .ref aR, .ref aD_numbers, .int r_1, .int r_84.2])), (aD_numbers, .inl (cI, 3, .inl r_81.2.1)), (aT, .inr (4, [.ref aT_numbers, .int T_holds, va_rf T_laying, .int T_sort, .int T_size])), (aT_numbers, .inl (cI, 100, .inl T_numbers)), (aR, .inr (3, [.ref aR_inches, .ref aR_many, .ref aR_worth, .ref aR_lengths, .ref aR_laid, .ref aR_slates, .int R_widths, .int R_rows, .int R_lap])), (aR_inches, .inl (cI, 4, .inl R_inches)), (aR_many, .inl (cI, 4, .inl R_many)), (aR_worth, .inl (cI, 4, .inl R_worth)), (aR_lengths, .inl (cI, 6, .inl R_lengths)), (aR_laid, .inl (cI, 6, .inl R_laid)), (aR_slates, .inl (cI, 72, .inl R_slates))]) ⟨hx, hb, hml, hown, hts⟩ (k_X2_readSign l dC dI cI cZ cS N aD aD_numbers aT aT_numbers aR aR_inches aR_many aR_worth aR_lengths aR_laid aR_slates _ r_81.2.1 r_1 r_81.2.2 T_numbers T_holds T_laying T_sort T_size R_inches R_many R_worth R_lengths R_laid R_slates R_widths R_rows R_lap 32 r_84 hg) (cwV 1 hts gX2_readStatement_X2_readSign rfl rfl rfl cd_X2_readSign ⟨Nat.le_of_ble_eq_true rfl, Nat.le_of_ble_eq_true rfl⟩) hP hD hK hS hA [0, 1, 2, 3, 4, 5, 6, 7, 8, 9, 10] [] [0, 1, 2, 3, 4, 5, 6, 7, 8, 9, 10] (by decide) (by decide) (by decide) (by decide) rfl rfl rfl rfl rfl rfl hl.1 rfl (Nat.le_of_ble_eq_true rfl) dX2_readStatement_90 ⟨Nat.zero_le _, Nat.zero_le _⟩ (fun H locs hP hD hS => ?_)
                    refine lv_if_ne (tgt := 98) hx hb dX2_readStatement_93 (by decide) (fun c_85 => ?_) (fun c_85 => ?_)
                    · have h := it_n c_85 h
                      refine lv_iinc (v := (v2_77 + 1)) (lv' := [(2, .int (v2_77 + 1)), (0, .ref aD), (1, .int 2)]) hx hb dX2_readStatement_98 hl (k := 2) rfl rfl (by decide) rfl (fun ls hl => ?_)
                      refine lv_goto (tgt := 64) hx hb dX2_readStatement_101 (by decide) ?_
                      exact ihn_76 (v2_77 + 1) r_81.2.1 r_84.2 ls _ _ h (lv_sub hl [1, 2, 0] rfl) hP hD hS
                    · have h := it_p c_85 h
                      refine lv_iconst (v := 0) hx hb dX2_readStatement_96 (by decide) ?_
                      have h := Option.some.inj h
                      exact W.zret (v := b2i false) hx hb hr (b2i_nar _) (fun t ht hW => ⟨⟨_, (), rfl, by rw [← h], by (try rw [← h]); rw [ht]; exact hP, va_K.moved hW.alike hK, by (try rw [← h]); exact hD⟩, hS.F ht⟩) hS.2.2 dX2_readStatement_97
                  · have h := it_p c_83 h
                    refine lv_bipush (v := 59) hx hb dX2_readStatement_83 (by decide) ?_
                    refine lv_goto (tgt := 90) hx hb dX2_readStatement_85 (by decide) ?_
                    obtain ⟨r_86, hg, h⟩ := bd_some h
                    refine mtVi (As := [.int 59]) (rest := []) (ci := 2) (wr := []) (w2 := [(aD, .inr (2, [.ref aT, .ref aR, .ref aD_numbers, .int r_1, .int r_86.2])), (aD_numbers, .inl (cI, 3, .inl r_81.2.1)), (aT, .inr (4, [.ref aT_numbers, .int T_holds, va_rf T_laying, .int T_sort, .int T_size])), (aT_numbers, .inl (cI, 100, .inl T_numbers)), (aR, .inr (3, [.ref aR_inches, .ref aR_many, .ref aR_worth, .ref aR_lengths, .ref aR_laid, .ref aR_slates, .int R_widths, .int R_rows, .int R_lap])), (aR_inches, .inl (cI, 4, .inl R_inches)), (aR_many, .inl (cI, 4, .inl R_many)), (aR_worth, .inl (cI, 4, .inl R_worth)), (aR_lengths, .inl (cI, 6, .inl R_lengths)), (aR_laid, .inl (cI, 6, .inl R_laid)), (aR_slates, .inl (cI, 72, .inl R_slates))]) ⟨hx, hb, hml, hown, hts⟩ (k_X2_readSign l dC dI cI cZ cS N aD aD_numbers aT aT_numbers aR aR_inches aR_many aR_worth aR_lengths aR_laid aR_slates _ r_81.2.1 r_1 r_81.2.2 T_numbers T_holds T_laying T_sort T_size R_inches R_many R_worth R_lengths R_laid R_slates R_widths R_rows R_lap 59 r_86 hg) (cwV 1 hts gX2_readStatement_X2_readSign rfl rfl rfl cd_X2_readSign ⟨Nat.le_of_ble_eq_true rfl, Nat.le_of_ble_eq_true rfl⟩) hP hD hK hS hA [0, 1, 2, 3, 4, 5, 6, 7, 8, 9, 10] [] [0, 1, 2, 3, 4, 5, 6, 7, 8, 9, 10] (by decide) (by decide) (by decide) (by decide) rfl rfl rfl rfl rfl rfl hl.1 rfl (Nat.le_of_ble_eq_true rfl) dX2_readStatement_90 ⟨Nat.zero_le _, Nat.zero_le _⟩ (fun H locs hP hD hS => ?_)
                    refine lv_if_ne (tgt := 98) hx hb dX2_readStatement_93 (by decide) (fun c_87 => ?_) (fun c_87 => ?_)
                    · have h := it_n c_87 h
                      refine lv_iinc (v := (v2_77 + 1)) (lv' := [(2, .int (v2_77 + 1)), (0, .ref aD), (1, .int 2)]) hx hb dX2_readStatement_98 hl (k := 2) rfl rfl (by decide) rfl (fun ls hl => ?_)
                      refine lv_goto (tgt := 64) hx hb dX2_readStatement_101 (by decide) ?_
                      exact ihn_76 (v2_77 + 1) r_81.2.1 r_86.2 ls _ _ h (lv_sub hl [1, 2, 0] rfl) hP hD hS
                    · have h := it_p c_87 h
                      refine lv_iconst (v := 0) hx hb dX2_readStatement_96 (by decide) ?_
                      have h := Option.some.inj h
                      exact W.zret (v := b2i false) hx hb hr (b2i_nar _) (fun t ht hW => ⟨⟨_, (), rfl, by rw [← h], by (try rw [← h]); rw [ht]; exact hP, va_K.moved hW.alike hK, by (try rw [← h]); exact hD⟩, hS.F ht⟩) hS.2.2 dX2_readStatement_97
          exact L64_75 N 0 D_numbers (D_at + 1) ls _ _ h (lv_sub hl [2, 1, 0] rfl) hP hD hS
      · have h := it_n c_62 h
        refine lv_iconst (v := 0) hx hb dX2_readStatement_35 (by decide) ?_
        have h := Option.some.inj h
        exact W.zret (v := b2i false) hx hb hr (b2i_nar _) (fun t ht hW => ⟨⟨_, (), rfl, by rw [← h], by (try rw [← h]); rw [ht]; exact hP, va_K.moved hW.alike hK, by (try rw [← h]); exact hD⟩, hS.F ht⟩) hS.2.2 dX2_readStatement_36
def f_X2_carryOut (N : Nat) (D_numbers : Nat → Int32) (D_letter : Int32) (R_inches : Nat → Int32) (R_many : Nat → Int32) (R_worth : Nat → Int32) (R_lengths : Nat → Int32) (R_laid : Nat → Int32) (R_widths : Int32) (R_rows : Int32) (R_lap : Int32) : Option (Bool × (Nat → Int32) × (Nat → Int32) × (Nat → Int32) × (Nat → Int32) × (Nat → Int32) × Int32 × Int32 × Int32) :=
  if D_letter = 114 then (ck (gi 0 3) ((f_X3_addRow N R_lengths R_laid R_rows (D_numbers (0 : Int32).toNatClampNeg)).bind fun r_2 => some (r_2.1, R_inches, R_many, R_worth, r_2.2.1, r_2.2.2.1, R_widths, r_2.2.2.2, R_lap))) else (if D_letter = 119 then (ck (gi 0 3) (ck (gi 1 3) (ck (gi 2 3) ((f_X3_addWidth N R_inches R_many R_worth R_widths (D_numbers (0 : Int32).toNatClampNeg) (D_numbers (1 : Int32).toNatClampNeg) (D_numbers (2 : Int32).toNatClampNeg)).bind fun r_4 => some (r_4.1, r_4.2.1, r_4.2.2.1, r_4.2.2.2.1, R_lengths, R_laid, r_4.2.2.2.2, R_rows, R_lap))))) else (ck (gi 0 3) ((f_X3_changeLap N R_lap (D_numbers (0 : Int32).toNatClampNeg)).bind fun r_5 => some (r_5.1, R_inches, R_many, R_worth, R_lengths, R_laid, R_widths, R_rows, r_5.2))))
set_option maxHeartbeats 4000000 in
set_option maxRecDepth 100000 in
theorem k_X2_carryOut (l : Launch) (dC : Nat → ClassId) (dI : Nat → Nat → Nat) (cI cZ cS : ClassId) (N : Nat) (aD aD_numbers aT aT_numbers aR aR_inches aR_many aR_worth aR_lengths aR_laid aR_slates : Nat) (sz : Nat) (D_numbers : Nat → Int32) (D_letter : Int32) (D_at : Int32) (T_numbers : Nat → Int32) (T_holds : Int32) (T_laying : Option Nat) (T_sort : Int32) (T_size : Int32) (R_inches : Nat → Int32) (R_many : Nat → Int32) (R_worth : Nat → Int32) (R_lengths : Nat → Int32) (R_laid : Nat → Int32) (R_slates : Nat → Int32) (R_widths : Int32) (R_rows : Int32) (R_lap : Int32) (res : Bool × (Nat → Int32) × (Nat → Int32) × (Nat → Int32) × (Nat → Int32) × (Nat → Int32) × Int32 × Int32 × Int32) (h : f_X2_carryOut N D_numbers D_letter R_inches R_many R_worth R_lengths R_laid R_widths R_rows R_lap = some res) : Met l yX2_carryOut wsX2_carryOut ({ frames := 2, cells := 0, slots := 0, locals := 45 }) (va_Pc [.ref aD] (preW (dC, dI) cI cZ cS [(aD, .inr (2, [.ref aT, .ref aR, .ref aD_numbers, .int D_letter, .int D_at])), (aD_numbers, .inl (cI, 3, .inl D_numbers)), (aT, .inr (4, [.ref aT_numbers, .int T_holds, va_rf T_laying, .int T_sort, .int T_size])), (aT_numbers, .inl (cI, 100, .inl T_numbers)), (aR, .inr (3, [.ref aR_inches, .ref aR_many, .ref aR_worth, .ref aR_lengths, .ref aR_laid, .ref aR_slates, .int R_widths, .int R_rows, .int R_lap])), (aR_inches, .inl (cI, 4, .inl R_inches)), (aR_many, .inl (cI, 4, .inl R_many)), (aR_worth, .inl (cI, 4, .inl R_worth)), (aR_lengths, .inl (cI, 6, .inl R_lengths)), (aR_laid, .inl (cI, 6, .inl R_laid)), (aR_slates, .inl (cI, 72, .inl R_slates))] sz)) (va_Qi (fun (r : Int32) (_ : Unit) => r = b2i res.1) (fun _ => qW (dC, dI) cI cZ cS (va_A [(aD, .inr (2, [.ref aT, .ref aR, .ref aD_numbers, .int D_letter, .int D_at])), (aD_numbers, .inl (cI, 3, .inl D_numbers)), (aT, .inr (4, [.ref aT_numbers, .int T_holds, va_rf T_laying, .int T_sort, .int T_size])), (aT_numbers, .inl (cI, 100, .inl T_numbers)), (aR, .inr (3, [.ref aR_inches, .ref aR_many, .ref aR_worth, .ref aR_lengths, .ref aR_laid, .ref aR_slates, .int R_widths, .int R_rows, .int R_lap])), (aR_inches, .inl (cI, 4, .inl R_inches)), (aR_many, .inl (cI, 4, .inl R_many)), (aR_worth, .inl (cI, 4, .inl R_worth)), (aR_lengths, .inl (cI, 6, .inl R_lengths)), (aR_laid, .inl (cI, 6, .inl R_laid)), (aR_slates, .inl (cI, 72, .inl R_slates))] sz) [(aD, .inr (2, [.ref aT, .ref aR, .ref aD_numbers, .int D_letter, .int D_at])), (aD_numbers, .inl (cI, 3, .inl D_numbers)), (aT, .inr (4, [.ref aT_numbers, .int T_holds, va_rf T_laying, .int T_sort, .int T_size])), (aT_numbers, .inl (cI, 100, .inl T_numbers)), (aR, .inr (3, [.ref aR_inches, .ref aR_many, .ref aR_worth, .ref aR_lengths, .ref aR_laid, .ref aR_slates, .int res.2.2.2.2.2.2.1, .int res.2.2.2.2.2.2.2.1, .int res.2.2.2.2.2.2.2.2])), (aR_inches, .inl (cI, 4, .inl res.2.1)), (aR_many, .inl (cI, 4, .inl res.2.2.1)), (aR_worth, .inl (cI, 4, .inl res.2.2.2.1)), (aR_lengths, .inl (cI, 6, .inl res.2.2.2.2.1)), (aR_laid, .inl (cI, 6, .inl res.2.2.2.2.2.1)), (aR_slates, .inl (cI, 72, .inl R_slates))]) (va_A [(aD, .inr (2, [.ref aT, .ref aR, .ref aD_numbers, .int D_letter, .int D_at])), (aD_numbers, .inl (cI, 3, .inl D_numbers)), (aT, .inr (4, [.ref aT_numbers, .int T_holds, va_rf T_laying, .int T_sort, .int T_size])), (aT_numbers, .inl (cI, 100, .inl T_numbers)), (aR, .inr (3, [.ref aR_inches, .ref aR_many, .ref aR_worth, .ref aR_lengths, .ref aR_laid, .ref aR_slates, .int R_widths, .int R_rows, .int R_lap])), (aR_inches, .inl (cI, 4, .inl R_inches)), (aR_many, .inl (cI, 4, .inl R_many)), (aR_worth, .inl (cI, 4, .inl R_worth)), (aR_lengths, .inl (cI, 6, .inl R_lengths)), (aR_laid, .inl (cI, 6, .inl R_laid)), (aR_slates, .inl (cI, 72, .inl R_slates))] sz)) 0 0 (va_A [(aD, .inr (2, [.ref aT, .ref aR, .ref aD_numbers, .int D_letter, .int D_at])), (aD_numbers, .inl (cI, 3, .inl D_numbers)), (aT, .inr (4, [.ref aT_numbers, .int T_holds, va_rf T_laying, .int T_sort, .int T_size])), (aT_numbers, .inl (cI, 100, .inl T_numbers)), (aR, .inr (3, [.ref aR_inches, .ref aR_many, .ref aR_worth, .ref aR_lengths, .ref aR_laid, .ref aR_slates, .int R_widths, .int R_rows, .int R_lap])), (aR_inches, .inl (cI, 4, .inl R_inches)), (aR_many, .inl (cI, 4, .inl R_many)), (aR_worth, .inl (cI, 4, .inl R_worth)), (aR_lengths, .inl (cI, 6, .inl R_lengths)), (aR_laid, .inl (cI, 6, .inl R_laid)), (aR_slates, .inl (cI, 72, .inl R_slates))] sz) := by
  refine Met.ofW (cc := cX2_carryOut) (maxL := 1) (ret := (some .boolean)) (by decide) rfl ?_
  intro p e s m args below meth c s₁ B hml hv
  obtain ⟨rfl, hsz, hP, hK, hD0⟩ := hv
  have hx := B.exec
  have hb := B.bytes
  have hr := B.returns
  have hts := atoms_spec (ws := wsX2_carryOut) B.pre
  have hown : s.vm.findClass RX2 = some m.cls := findClass_of_methodNamed B.named
  have hlocks := B.notSynchronized
  subst hsz
  have hD := hD0.self (sz := s.heap.size)
  generalize hAe : va_A [(aD, .inr (2, [.ref aT, .ref aR, .ref aD_numbers, .int D_letter, .int D_at])), (aD_numbers, .inl (cI, 3, .inl D_numbers)), (aT, .inr (4, [.ref aT_numbers, .int T_holds, va_rf T_laying, .int T_sort, .int T_size])), (aT_numbers, .inl (cI, 100, .inl T_numbers)), (aR, .inr (3, [.ref aR_inches, .ref aR_many, .ref aR_worth, .ref aR_lengths, .ref aR_laid, .ref aR_slates, .int R_widths, .int R_rows, .int R_lap])), (aR_inches, .inl (cI, 4, .inl R_inches)), (aR_many, .inl (cI, 4, .inl R_many)), (aR_worth, .inl (cI, 4, .inl R_worth)), (aR_lengths, .inl (cI, 6, .inl R_lengths)), (aR_laid, .inl (cI, 6, .inl R_laid)), (aR_slates, .inl (cI, 72, .inl R_slates))] s.heap.size = A at hD ⊢
  have hA : ∀ q : Nat, s.heap.size ≤ q → A q := fun q h => by rw [← hAe]; exact Or.inr h
  have hS : va_S A s.heap s.heap [] := va_S.rf
  have hl := lv_entry ([.ref aD]) (n := 1) (Nat.le_of_ble_eq_true rfl)
  rw [lg_entry_eq]
  generalize (lg_sl ([.ref aD]) ++ List.replicate (1 - (lg_sl ([.ref aD])).length) Slot.unset).toArray = ls at hl ⊢
  have hl : lv_has ls 1 [(0, .ref aD)] := hl
  unfold f_X2_carryOut at h
  refine lv_aload_n hx hb dX2_carryOut_0 rfl (lv_at hl 0 rfl) ?_
  refine va_get (D := (dC, dI)) (ci := 2) (v := .int D_letter) (C := RX2) (T := TX2) (N := 5) hx hb hts (fun _ h => List.mem_cons_of_mem _ (List.mem_append_left _ (List.mem_append_right _ h))) hown hK hP 0 rfl rfl 3 (by decide) (hts (.fieldLink RX2 15 "SlateRows$Reader" "letter" "I") (by decide +kernel)) (fun _ h9 => h9) rfl dX2_carryOut_1 ?_
  by_cases c_1 : D_letter = 114
  · have h := it_p c_1 h
    refine lv_lookup (tgt := 58) hx hb dX2_carryOut_4 (by decide) (by first | (rw [c_1]; done) | (rw [c_1]; rfl)) (by decide) ?_
    refine lv_aload_n hx hb dX2_carryOut_58 rfl (lv_at hl 0 rfl) ?_
    refine va_get (D := (dC, dI)) (ci := 2) (v := .ref aR) (C := RX2) (T := TX2) (N := 5) hx hb hts (fun _ h => List.mem_cons_of_mem _ (List.mem_append_left _ (List.mem_append_right _ h))) hown hK hP 0 rfl rfl 1 (by decide) (hts (.fieldLink RX2 26 "SlateRows$Reader" "roof" "LSlateRows$Roof;") (by decide +kernel)) (fun _ h9 => h9) rfl dX2_carryOut_59 ?_
    refine lv_aload_n hx hb dX2_carryOut_62 rfl (lv_at hl 0 rfl) ?_
    refine va_get (D := (dC, dI)) (ci := 2) (v := .ref aD_numbers) (C := RX2) (T := TX2) (N := 5) hx hb hts (fun _ h => List.mem_cons_of_mem _ (List.mem_append_left _ (List.mem_append_right _ h))) hown hK hP 0 rfl rfl 2 (by decide) (hts (.fieldLink RX2 9 "SlateRows$Reader" "numbers" "[I") (by decide +kernel)) (fun _ h9 => h9) rfl dX2_carryOut_63 ?_
    refine lv_iconst (v := 0) hx hb dX2_carryOut_66 (by decide) ?_
    obtain ⟨hi, h⟩ := ck_some h
    refine va_iald hx hb hK hP 1 0 rfl rfl (gi_in hi) dX2_carryOut_67 ?_
    obtain ⟨r_2, hg, h⟩ := bd_some h
    refine mtVi (As := [.int (D_numbers (0 : Int32).toNatClampNeg)]) (rest := []) (ci := 3) (wr := [(aD, .inr (2, [.ref aT, .ref aR, .ref aD_numbers, .int D_letter, .int D_at])), (aD_numbers, .inl (cI, 3, .inl D_numbers)), (aT, .inr (4, [.ref aT_numbers, .int T_holds, va_rf T_laying, .int T_sort, .int T_size])), (aT_numbers, .inl (cI, 100, .inl T_numbers))]) (w2 := [(aD, .inr (2, [.ref aT, .ref aR, .ref aD_numbers, .int D_letter, .int D_at])), (aD_numbers, .inl (cI, 3, .inl D_numbers)), (aT, .inr (4, [.ref aT_numbers, .int T_holds, va_rf T_laying, .int T_sort, .int T_size])), (aT_numbers, .inl (cI, 100, .inl T_numbers)), (aR, .inr (3, [.ref aR_inches, .ref aR_many, .ref aR_worth, .ref aR_lengths, .ref aR_laid, .ref aR_slates, .int R_widths, .int r_2.2.2.2, .int R_lap])), (aR_inches, .inl (cI, 4, .inl R_inches)), (aR_many, .inl (cI, 4, .inl R_many)), (aR_worth, .inl (cI, 4, .inl R_worth)), (aR_lengths, .inl (cI, 6, .inl r_2.2.1)), (aR_laid, .inl (cI, 6, .inl r_2.2.2.1)), (aR_slates, .inl (cI, 72, .inl R_slates))]) ⟨hx, hb, hml, hown, hts⟩ (k_X3_addRow l dC dI cI cZ cS N aR aR_inches aR_many aR_worth aR_lengths aR_laid aR_slates _ R_inches R_many R_worth R_lengths R_laid R_slates R_widths R_rows R_lap (D_numbers (0 : Int32).toNatClampNeg) r_2 hg) (cwV 1 hts gX2_carryOut_X3_addRow rfl rfl rfl cd_X3_addRow ⟨Nat.le_of_ble_eq_true rfl, Nat.le_of_ble_eq_true rfl⟩) hP hD hK hS hA [4, 5, 6, 7, 8, 9, 10] [0, 1, 2, 3] [0, 1, 2, 3, 4, 5, 6, 7, 8, 9, 10] (by decide) (by decide) (by decide) (by decide) rfl rfl rfl rfl rfl rfl hl.1 rfl (Nat.le_of_ble_eq_true rfl) dX2_carryOut_68 ⟨Nat.zero_le _, Nat.zero_le _⟩ (fun H locs hP hD hS => ?_)
    have h := Option.some.inj h
    exact W.zret (v := b2i r_2.1) hx hb hr (b2i_nar _) (fun t ht hW => ⟨⟨_, (), rfl, by rw [← h], by (try rw [← h]); rw [ht]; exact hP, va_K.moved hW.alike hK, by (try rw [← h]); exact hD⟩, hS.F ht⟩) hS.2.2 dX2_carryOut_71
  have h := it_n c_1 h
  by_cases c_3 : D_letter = 119
  · have h := it_p c_3 h
    refine lv_lookup (tgt := 32) hx hb dX2_carryOut_4 (by decide) (by first | (rw [c_3]; done) | (rw [c_3]; rfl)) (by decide) ?_
    refine lv_aload_n hx hb dX2_carryOut_32 rfl (lv_at hl 0 rfl) ?_
    refine va_get (D := (dC, dI)) (ci := 2) (v := .ref aR) (C := RX2) (T := TX2) (N := 5) hx hb hts (fun _ h => List.mem_cons_of_mem _ (List.mem_append_left _ (List.mem_append_right _ h))) hown hK hP 0 rfl rfl 1 (by decide) (hts (.fieldLink RX2 26 "SlateRows$Reader" "roof" "LSlateRows$Roof;") (by decide +kernel)) (fun _ h9 => h9) rfl dX2_carryOut_33 ?_
    refine lv_aload_n hx hb dX2_carryOut_36 rfl (lv_at hl 0 rfl) ?_
    refine va_get (D := (dC, dI)) (ci := 2) (v := .ref aD_numbers) (C := RX2) (T := TX2) (N := 5) hx hb hts (fun _ h => List.mem_cons_of_mem _ (List.mem_append_left _ (List.mem_append_right _ h))) hown hK hP 0 rfl rfl 2 (by decide) (hts (.fieldLink RX2 9 "SlateRows$Reader" "numbers" "[I") (by decide +kernel)) (fun _ h9 => h9) rfl dX2_carryOut_37 ?_
    refine lv_iconst (v := 0) hx hb dX2_carryOut_40 (by decide) ?_
    obtain ⟨hi, h⟩ := ck_some h
    refine va_iald hx hb hK hP 1 0 rfl rfl (gi_in hi) dX2_carryOut_41 ?_
    refine lv_aload_n hx hb dX2_carryOut_42 rfl (lv_at hl 0 rfl) ?_
    refine va_get (D := (dC, dI)) (ci := 2) (v := .ref aD_numbers) (C := RX2) (T := TX2) (N := 5) hx hb hts (fun _ h => List.mem_cons_of_mem _ (List.mem_append_left _ (List.mem_append_right _ h))) hown hK hP 0 rfl rfl 2 (by decide) (hts (.fieldLink RX2 9 "SlateRows$Reader" "numbers" "[I") (by decide +kernel)) (fun _ h9 => h9) rfl dX2_carryOut_43 ?_
    refine lv_iconst (v := 1) hx hb dX2_carryOut_46 (by decide) ?_
    obtain ⟨hi, h⟩ := ck_some h
    refine va_iald hx hb hK hP 1 0 rfl rfl (gi_in hi) dX2_carryOut_47 ?_
    refine lv_aload_n hx hb dX2_carryOut_48 rfl (lv_at hl 0 rfl) ?_
    refine va_get (D := (dC, dI)) (ci := 2) (v := .ref aD_numbers) (C := RX2) (T := TX2) (N := 5) hx hb hts (fun _ h => List.mem_cons_of_mem _ (List.mem_append_left _ (List.mem_append_right _ h))) hown hK hP 0 rfl rfl 2 (by decide) (hts (.fieldLink RX2 9 "SlateRows$Reader" "numbers" "[I") (by decide +kernel)) (fun _ h9 => h9) rfl dX2_carryOut_49 ?_
    refine lv_iconst (v := 2) hx hb dX2_carryOut_52 (by decide) ?_
    obtain ⟨hi, h⟩ := ck_some h
    refine va_iald hx hb hK hP 1 0 rfl rfl (gi_in hi) dX2_carryOut_53 ?_
    obtain ⟨r_4, hg, h⟩ := bd_some h
    refine mtVi (As := [.int (D_numbers (0 : Int32).toNatClampNeg), .int (D_numbers (1 : Int32).toNatClampNeg), .int (D_numbers (2 : Int32).toNatClampNeg)]) (rest := []) (ci := 3) (wr := [(aD, .inr (2, [.ref aT, .ref aR, .ref aD_numbers, .int D_letter, .int D_at])), (aD_numbers, .inl (cI, 3, .inl D_numbers)), (aT, .inr (4, [.ref aT_numbers, .int T_holds, va_rf T_laying, .int T_sort, .int T_size])), (aT_numbers, .inl (cI, 100, .inl T_numbers))]) (w2 := [(aD, .inr (2, [.ref aT, .ref aR, .ref aD_numbers, .int D_letter, .int D_at])), (aD_numbers, .inl (cI, 3, .inl D_numbers)), (aT, .inr (4, [.ref aT_numbers, .int T_holds, va_rf T_laying, .int T_sort, .int T_size])), (aT_numbers, .inl (cI, 100, .inl T_numbers)), (aR, .inr (3, [.ref aR_inches, .ref aR_many, .ref aR_worth, .ref aR_lengths, .ref aR_laid, .ref aR_slates, .int r_4.2.2.2.2, .int R_rows, .int R_lap])), (aR_inches, .inl (cI, 4, .inl r_4.2.1)), (aR_many, .inl (cI, 4, .inl r_4.2.2.1)), (aR_worth, .inl (cI, 4, .inl r_4.2.2.2.1)), (aR_lengths, .inl (cI, 6, .inl R_lengths)), (aR_laid, .inl (cI, 6, .inl R_laid)), (aR_slates, .inl (cI, 72, .inl R_slates))]) ⟨hx, hb, hml, hown, hts⟩ (k_X3_addWidth l dC dI cI cZ cS N aR aR_inches aR_many aR_worth aR_lengths aR_laid aR_slates _ R_inches R_many R_worth R_lengths R_laid R_slates R_widths R_rows R_lap (D_numbers (0 : Int32).toNatClampNeg) (D_numbers (1 : Int32).toNatClampNeg) (D_numbers (2 : Int32).toNatClampNeg) r_4 hg) (cwV 3 hts gX2_carryOut_X3_addWidth rfl rfl rfl cd_X3_addWidth ⟨Nat.le_of_ble_eq_true rfl, Nat.le_of_ble_eq_true rfl⟩) hP hD hK hS hA [4, 5, 6, 7, 8, 9, 10] [0, 1, 2, 3] [0, 1, 2, 3, 4, 5, 6, 7, 8, 9, 10] (by decide) (by decide) (by decide) (by decide) rfl rfl rfl rfl rfl rfl hl.1 rfl (Nat.le_of_ble_eq_true rfl) dX2_carryOut_54 ⟨Nat.zero_le _, Nat.zero_le _⟩ (fun H locs hP hD hS => ?_)
    have h := Option.some.inj h
    exact W.zret (v := b2i r_4.1) hx hb hr (b2i_nar _) (fun t ht hW => ⟨⟨_, (), rfl, by rw [← h], by (try rw [← h]); rw [ht]; exact hP, va_K.moved hW.alike hK, by (try rw [← h]); exact hD⟩, hS.F ht⟩) hS.2.2 dX2_carryOut_57
  have h := it_n c_3 h
  refine lv_lookup (tgt := 72) (off := 68) hx hb dX2_carryOut_4 (by decide) (by show Op.lookupswitch.offset [(114, 54), (119, 28)] 68 _ = _; rw [lv_osw (a := 114) c_1 (by decide), lv_osw (a := 119) c_3 (by decide)]; try rfl) (by decide) ?_
  refine lv_aload_n hx hb dX2_carryOut_72 rfl (lv_at hl 0 rfl) ?_
  refine va_get (D := (dC, dI)) (ci := 2) (v := .ref aR) (C := RX2) (T := TX2) (N := 5) hx hb hts (fun _ h => List.mem_cons_of_mem _ (List.mem_append_left _ (List.mem_append_right _ h))) hown hK hP 0 rfl rfl 1 (by decide) (hts (.fieldLink RX2 26 "SlateRows$Reader" "roof" "LSlateRows$Roof;") (by decide +kernel)) (fun _ h9 => h9) rfl dX2_carryOut_73 ?_
  refine lv_aload_n hx hb dX2_carryOut_76 rfl (lv_at hl 0 rfl) ?_
  refine va_get (D := (dC, dI)) (ci := 2) (v := .ref aD_numbers) (C := RX2) (T := TX2) (N := 5) hx hb hts (fun _ h => List.mem_cons_of_mem _ (List.mem_append_left _ (List.mem_append_right _ h))) hown hK hP 0 rfl rfl 2 (by decide) (hts (.fieldLink RX2 9 "SlateRows$Reader" "numbers" "[I") (by decide +kernel)) (fun _ h9 => h9) rfl dX2_carryOut_77 ?_
  refine lv_iconst (v := 0) hx hb dX2_carryOut_80 (by decide) ?_
  obtain ⟨hi, h⟩ := ck_some h
  refine va_iald hx hb hK hP 1 0 rfl rfl (gi_in hi) dX2_carryOut_81 ?_
  obtain ⟨r_5, hg, h⟩ := bd_some h
  refine mtVi (As := [.int (D_numbers (0 : Int32).toNatClampNeg)]) (rest := []) (ci := 3) (wr := [(aD, .inr (2, [.ref aT, .ref aR, .ref aD_numbers, .int D_letter, .int D_at])), (aD_numbers, .inl (cI, 3, .inl D_numbers)), (aT, .inr (4, [.ref aT_numbers, .int T_holds, va_rf T_laying, .int T_sort, .int T_size])), (aT_numbers, .inl (cI, 100, .inl T_numbers))]) (w2 := [(aD, .inr (2, [.ref aT, .ref aR, .ref aD_numbers, .int D_letter, .int D_at])), (aD_numbers, .inl (cI, 3, .inl D_numbers)), (aT, .inr (4, [.ref aT_numbers, .int T_holds, va_rf T_laying, .int T_sort, .int T_size])), (aT_numbers, .inl (cI, 100, .inl T_numbers)), (aR, .inr (3, [.ref aR_inches, .ref aR_many, .ref aR_worth, .ref aR_lengths, .ref aR_laid, .ref aR_slates, .int R_widths, .int R_rows, .int r_5.2])), (aR_inches, .inl (cI, 4, .inl R_inches)), (aR_many, .inl (cI, 4, .inl R_many)), (aR_worth, .inl (cI, 4, .inl R_worth)), (aR_lengths, .inl (cI, 6, .inl R_lengths)), (aR_laid, .inl (cI, 6, .inl R_laid)), (aR_slates, .inl (cI, 72, .inl R_slates))]) ⟨hx, hb, hml, hown, hts⟩ (k_X3_changeLap l dC dI cI cZ cS N aR aR_inches aR_many aR_worth aR_lengths aR_laid aR_slates _ R_inches R_many R_worth R_lengths R_laid R_slates R_widths R_rows R_lap (D_numbers (0 : Int32).toNatClampNeg) r_5 hg) (cwV 1 hts gX2_carryOut_X3_changeLap rfl rfl rfl cd_X3_changeLap ⟨Nat.le_of_ble_eq_true rfl, Nat.le_of_ble_eq_true rfl⟩) hP hD hK hS hA [4, 5, 6, 7, 8, 9, 10] [0, 1, 2, 3] [0, 1, 2, 3, 4, 5, 6, 7, 8, 9, 10] (by decide) (by decide) (by decide) (by decide) rfl rfl rfl rfl rfl rfl hl.1 rfl (Nat.le_of_ble_eq_true rfl) dX2_carryOut_82 ⟨Nat.zero_le _, Nat.zero_le _⟩ (fun H locs hP hD hS => ?_)
  have h := Option.some.inj h
  exact W.zret (v := b2i r_5.1) hx hb hr (b2i_nar _) (fun t ht hW => ⟨⟨_, (), rfl, by rw [← h], by (try rw [← h]); rw [ht]; exact hP, va_K.moved hW.alike hK, by (try rw [← h]); exact hD⟩, hS.F ht⟩) hS.2.2 dX2_carryOut_85
def f_X2_read_L4 (N : Nat) (T_numbers : Nat → Int32) (T_size : Int32) : Nat → Int32 → Int32 → (Nat → Int32) → Int32 → Int32 → (Nat → Int32) → (Nat → Int32) → (Nat → Int32) → (Nat → Int32) → (Nat → Int32) → Int32 → Int32 → Int32 → Option (Int32 × (Nat → Int32) × Int32 × Int32 × (Nat → Int32) × (Nat → Int32) × (Nat → Int32) × (Nat → Int32) × (Nat → Int32) × Int32 × Int32 × Int32)
  | 0, _, _, _, _, _, _, _, _, _, _, _, _, _ => none
  | n + 1, v1, v2, D_numbers, D_letter, D_at, R_inches, R_many, R_worth, R_lengths, R_laid, R_widths, R_rows, R_lap =>
    if v1 = 0 then ((f_X2_readStatement N D_numbers D_letter D_at T_numbers T_size).bind fun r_2 => if (b2i r_2.1) = 0 then (some (((-1000) - r_2.2.2.2), r_2.2.1, r_2.2.2.1, r_2.2.2.2, R_inches, R_many, R_worth, R_lengths, R_laid, R_widths, R_rows, R_lap)) else (if v2 = (-1) then ((f_X2_carryOut N r_2.2.1 r_2.2.2.1 R_inches R_many R_worth R_lengths R_laid R_widths R_rows R_lap).bind fun r_5 => if (b2i r_5.1) = 0 then (f_X2_read_L4 N T_numbers T_size n (v1 + 1) D_at r_2.2.1 r_2.2.2.1 r_2.2.2.2 r_5.2.1 r_5.2.2.1 r_5.2.2.2.1 r_5.2.2.2.2.1 r_5.2.2.2.2.2.1 r_5.2.2.2.2.2.2.1 r_5.2.2.2.2.2.2.2.1 r_5.2.2.2.2.2.2.2.2) else (f_X2_read_L4 N T_numbers T_size n (v1 + 1) v2 r_2.2.1 r_2.2.2.1 r_2.2.2.2 r_5.2.1 r_5.2.2.1 r_5.2.2.2.1 r_5.2.2.2.2.1 r_5.2.2.2.2.2.1 r_5.2.2.2.2.2.2.1 r_5.2.2.2.2.2.2.2.1 r_5.2.2.2.2.2.2.2.2)) else (f_X2_read_L4 N T_numbers T_size n (v1 + 1) v2 r_2.2.1 r_2.2.2.1 r_2.2.2.2 R_inches R_many R_worth R_lengths R_laid R_widths R_rows R_lap))) else (if T_size ≤ D_at then (if v2 = (-1) then (some (v1, D_numbers, D_letter, D_at, R_inches, R_many, R_worth, R_lengths, R_laid, R_widths, R_rows, R_lap)) else (some (((-2000) - v2), D_numbers, D_letter, D_at, R_inches, R_many, R_worth, R_lengths, R_laid, R_widths, R_rows, R_lap))) else (if 100 ≤ v1 then (if v2 = (-1) then (some (v1, D_numbers, D_letter, D_at, R_inches, R_many, R_worth, R_lengths, R_laid, R_widths, R_rows, R_lap)) else (some (((-2000) - v2), D_numbers, D_letter, D_at, R_inches, R_many, R_worth, R_lengths, R_laid, R_widths, R_rows, R_lap))) else ((f_X2_readStatement N D_numbers D_letter D_at T_numbers T_size).bind fun r_11 => if (b2i r_11.1) = 0 then (some (((-1000) - r_11.2.2.2), r_11.2.1, r_11.2.2.1, r_11.2.2.2, R_inches, R_many, R_worth, R_lengths, R_laid, R_widths, R_rows, R_lap)) else (if v2 = (-1) then ((f_X2_carryOut N r_11.2.1 r_11.2.2.1 R_inches R_many R_worth R_lengths R_laid R_widths R_rows R_lap).bind fun r_14 => if (b2i r_14.1) = 0 then (f_X2_read_L4 N T_numbers T_size n (v1 + 1) D_at r_11.2.1 r_11.2.2.1 r_11.2.2.2 r_14.2.1 r_14.2.2.1 r_14.2.2.2.1 r_14.2.2.2.2.1 r_14.2.2.2.2.2.1 r_14.2.2.2.2.2.2.1 r_14.2.2.2.2.2.2.2.1 r_14.2.2.2.2.2.2.2.2) else (f_X2_read_L4 N T_numbers T_size n (v1 + 1) v2 r_11.2.1 r_11.2.2.1 r_11.2.2.2 r_14.2.1 r_14.2.2.1 r_14.2.2.2.1 r_14.2.2.2.2.1 r_14.2.2.2.2.2.1 r_14.2.2.2.2.2.2.1 r_14.2.2.2.2.2.2.2.1 r_14.2.2.2.2.2.2.2.2)) else (f_X2_read_L4 N T_numbers T_size n (v1 + 1) v2 r_11.2.1 r_11.2.2.1 r_11.2.2.2 R_inches R_many R_worth R_lengths R_laid R_widths R_rows R_lap)))))
def f_X2_read (N : Nat) (D_numbers : Nat → Int32) (D_letter : Int32) (D_at : Int32) (T_numbers : Nat → Int32) (T_size : Int32) (R_inches : Nat → Int32) (R_many : Nat → Int32) (R_worth : Nat → Int32) (R_lengths : Nat → Int32) (R_laid : Nat → Int32) (R_widths : Int32) (R_rows : Int32) (R_lap : Int32) : Option (Int32 × (Nat → Int32) × Int32 × Int32 × (Nat → Int32) × (Nat → Int32) × (Nat → Int32) × (Nat → Int32) × (Nat → Int32) × Int32 × Int32 × Int32) :=
  f_X2_read_L4 N T_numbers T_size N 0 (-1) D_numbers D_letter D_at R_inches R_many R_worth R_lengths R_laid R_widths R_rows R_lap
set_option maxHeartbeats 4000000 in
set_option maxRecDepth 100000 in
theorem k_X2_read (l : Launch) (dC : Nat → ClassId) (dI : Nat → Nat → Nat) (cI cZ cS : ClassId) (N : Nat) (aD aD_numbers aT aT_numbers aR aR_inches aR_many aR_worth aR_lengths aR_laid aR_slates : Nat) (sz : Nat) (D_numbers : Nat → Int32) (D_letter : Int32) (D_at : Int32) (T_numbers : Nat → Int32) (T_holds : Int32) (T_laying : Option Nat) (T_sort : Int32) (T_size : Int32) (R_inches : Nat → Int32) (R_many : Nat → Int32) (R_worth : Nat → Int32) (R_lengths : Nat → Int32) (R_laid : Nat → Int32) (R_slates : Nat → Int32) (R_widths : Int32) (R_rows : Int32) (R_lap : Int32) (res : Int32 × (Nat → Int32) × Int32 × Int32 × (Nat → Int32) × (Nat → Int32) × (Nat → Int32) × (Nat → Int32) × (Nat → Int32) × Int32 × Int32 × Int32) (h : f_X2_read N D_numbers D_letter D_at T_numbers T_size R_inches R_many R_worth R_lengths R_laid R_widths R_rows R_lap = some res) : Met l yX2_read wsX2_read ({ frames := 5, cells := 0, slots := 0, locals := 104 }) (va_Pc [.ref aD] (preW (dC, dI) cI cZ cS [(aD, .inr (2, [.ref aT, .ref aR, .ref aD_numbers, .int D_letter, .int D_at])), (aD_numbers, .inl (cI, 3, .inl D_numbers)), (aT, .inr (4, [.ref aT_numbers, .int T_holds, va_rf T_laying, .int T_sort, .int T_size])), (aT_numbers, .inl (cI, 100, .inl T_numbers)), (aR, .inr (3, [.ref aR_inches, .ref aR_many, .ref aR_worth, .ref aR_lengths, .ref aR_laid, .ref aR_slates, .int R_widths, .int R_rows, .int R_lap])), (aR_inches, .inl (cI, 4, .inl R_inches)), (aR_many, .inl (cI, 4, .inl R_many)), (aR_worth, .inl (cI, 4, .inl R_worth)), (aR_lengths, .inl (cI, 6, .inl R_lengths)), (aR_laid, .inl (cI, 6, .inl R_laid)), (aR_slates, .inl (cI, 72, .inl R_slates))] sz)) (va_Qi (fun (r : Int32) (_ : Unit) => r = res.1) (fun _ => qW (dC, dI) cI cZ cS (va_A [(aD, .inr (2, [.ref aT, .ref aR, .ref aD_numbers, .int D_letter, .int D_at])), (aD_numbers, .inl (cI, 3, .inl D_numbers)), (aT, .inr (4, [.ref aT_numbers, .int T_holds, va_rf T_laying, .int T_sort, .int T_size])), (aT_numbers, .inl (cI, 100, .inl T_numbers)), (aR, .inr (3, [.ref aR_inches, .ref aR_many, .ref aR_worth, .ref aR_lengths, .ref aR_laid, .ref aR_slates, .int R_widths, .int R_rows, .int R_lap])), (aR_inches, .inl (cI, 4, .inl R_inches)), (aR_many, .inl (cI, 4, .inl R_many)), (aR_worth, .inl (cI, 4, .inl R_worth)), (aR_lengths, .inl (cI, 6, .inl R_lengths)), (aR_laid, .inl (cI, 6, .inl R_laid)), (aR_slates, .inl (cI, 72, .inl R_slates))] sz) [(aD, .inr (2, [.ref aT, .ref aR, .ref aD_numbers, .int res.2.2.1, .int res.2.2.2.1])), (aD_numbers, .inl (cI, 3, .inl res.2.1)), (aT, .inr (4, [.ref aT_numbers, .int T_holds, va_rf T_laying, .int T_sort, .int T_size])), (aT_numbers, .inl (cI, 100, .inl T_numbers)), (aR, .inr (3, [.ref aR_inches, .ref aR_many, .ref aR_worth, .ref aR_lengths, .ref aR_laid, .ref aR_slates, .int res.2.2.2.2.2.2.2.2.2.1, .int res.2.2.2.2.2.2.2.2.2.2.1, .int res.2.2.2.2.2.2.2.2.2.2.2])), (aR_inches, .inl (cI, 4, .inl res.2.2.2.2.1)), (aR_many, .inl (cI, 4, .inl res.2.2.2.2.2.1)), (aR_worth, .inl (cI, 4, .inl res.2.2.2.2.2.2.1)), (aR_lengths, .inl (cI, 6, .inl res.2.2.2.2.2.2.2.1)), (aR_laid, .inl (cI, 6, .inl res.2.2.2.2.2.2.2.2.1)), (aR_slates, .inl (cI, 72, .inl R_slates))]) (va_A [(aD, .inr (2, [.ref aT, .ref aR, .ref aD_numbers, .int D_letter, .int D_at])), (aD_numbers, .inl (cI, 3, .inl D_numbers)), (aT, .inr (4, [.ref aT_numbers, .int T_holds, va_rf T_laying, .int T_sort, .int T_size])), (aT_numbers, .inl (cI, 100, .inl T_numbers)), (aR, .inr (3, [.ref aR_inches, .ref aR_many, .ref aR_worth, .ref aR_lengths, .ref aR_laid, .ref aR_slates, .int R_widths, .int R_rows, .int R_lap])), (aR_inches, .inl (cI, 4, .inl R_inches)), (aR_many, .inl (cI, 4, .inl R_many)), (aR_worth, .inl (cI, 4, .inl R_worth)), (aR_lengths, .inl (cI, 6, .inl R_lengths)), (aR_laid, .inl (cI, 6, .inl R_laid)), (aR_slates, .inl (cI, 72, .inl R_slates))] sz)) 0 0 (va_A [(aD, .inr (2, [.ref aT, .ref aR, .ref aD_numbers, .int D_letter, .int D_at])), (aD_numbers, .inl (cI, 3, .inl D_numbers)), (aT, .inr (4, [.ref aT_numbers, .int T_holds, va_rf T_laying, .int T_sort, .int T_size])), (aT_numbers, .inl (cI, 100, .inl T_numbers)), (aR, .inr (3, [.ref aR_inches, .ref aR_many, .ref aR_worth, .ref aR_lengths, .ref aR_laid, .ref aR_slates, .int R_widths, .int R_rows, .int R_lap])), (aR_inches, .inl (cI, 4, .inl R_inches)), (aR_many, .inl (cI, 4, .inl R_many)), (aR_worth, .inl (cI, 4, .inl R_worth)), (aR_lengths, .inl (cI, 6, .inl R_lengths)), (aR_laid, .inl (cI, 6, .inl R_laid)), (aR_slates, .inl (cI, 72, .inl R_slates))] sz) := by
  refine Met.ofW (cc := cX2_read) (maxL := 4) (ret := (some .int)) (by decide) rfl ?_
  intro p e s m args below meth c s₁ B hml hv
  obtain ⟨rfl, hsz, hP, hK, hD0⟩ := hv
  have hx := B.exec
  have hb := B.bytes
  have hr := B.returns
  have hts := atoms_spec (ws := wsX2_read) B.pre
  have hown : s.vm.findClass RX2 = some m.cls := findClass_of_methodNamed B.named
  have hlocks := B.notSynchronized
  subst hsz
  have hD := hD0.self (sz := s.heap.size)
  generalize hAe : va_A [(aD, .inr (2, [.ref aT, .ref aR, .ref aD_numbers, .int D_letter, .int D_at])), (aD_numbers, .inl (cI, 3, .inl D_numbers)), (aT, .inr (4, [.ref aT_numbers, .int T_holds, va_rf T_laying, .int T_sort, .int T_size])), (aT_numbers, .inl (cI, 100, .inl T_numbers)), (aR, .inr (3, [.ref aR_inches, .ref aR_many, .ref aR_worth, .ref aR_lengths, .ref aR_laid, .ref aR_slates, .int R_widths, .int R_rows, .int R_lap])), (aR_inches, .inl (cI, 4, .inl R_inches)), (aR_many, .inl (cI, 4, .inl R_many)), (aR_worth, .inl (cI, 4, .inl R_worth)), (aR_lengths, .inl (cI, 6, .inl R_lengths)), (aR_laid, .inl (cI, 6, .inl R_laid)), (aR_slates, .inl (cI, 72, .inl R_slates))] s.heap.size = A at hD ⊢
  have hA : ∀ q : Nat, s.heap.size ≤ q → A q := fun q h => by rw [← hAe]; exact Or.inr h
  have hS : va_S A s.heap s.heap [] := va_S.rf
  have hl := lv_entry ([.ref aD]) (n := 4) (Nat.le_of_ble_eq_true rfl)
  rw [lg_entry_eq]
  generalize (lg_sl ([.ref aD]) ++ List.replicate (4 - (lg_sl ([.ref aD])).length) Slot.unset).toArray = ls at hl ⊢
  have hl : lv_has ls 4 [(0, .ref aD)] := hl
  unfold f_X2_read at h
  refine lv_iconst (v := 0) hx hb dX2_read_0 (by decide) ?_
  refine lv_istore_n (lv' := [(1, .int 0), (0, .ref aD)]) hx hb dX2_read_1 rfl hl (by decide) rfl (fun ls hl => ?_)
  refine lv_iconst (v := (-1)) hx hb dX2_read_2 (by decide) ?_
  refine lv_istore_n (lv' := [(2, .int (-1)), (1, .int 0), (0, .ref aD)]) hx hb dX2_read_3 rfl hl (by decide) rfl (fun ls hl => ?_)
  have L4_15 : ∀ (n_16 : Nat) (v1_17 : Int32) (v2_18 : Int32) (D_numbers_19 : Nat → Int32) (D_letter_20 : Int32) (D_at_21 : Int32) (R_inches_22 : Nat → Int32) (R_many_23 : Nat → Int32) (R_worth_24 : Nat → Int32) (R_lengths_25 : Nat → Int32) (R_laid_26 : Nat → Int32) (R_widths_27 : Int32) (R_rows_28 : Int32) (R_lap_29 : Int32) (ls : Array Slot) (H : Heap) (locs : List Loc), f_X2_read_L4 N T_numbers T_size n_16 v1_17 v2_18 D_numbers_19 D_letter_20 D_at_21 R_inches_22 R_many_23 R_worth_24 R_lengths_25 R_laid_26 R_widths_27 R_rows_28 R_lap_29 = some res → lv_has ls 4 [(0, .ref aD), (1, .int v1_17), (2, .int v2_18)] → va_P (dC, dI) vwCl [(aD, .inr (2, [.ref aT, .ref aR, .ref aD_numbers, .int D_letter_20, .int D_at_21])), (aD_numbers, .inl (cI, 3, .inl D_numbers_19)), (aT, .inr (4, [.ref aT_numbers, .int T_holds, va_rf T_laying, .int T_sort, .int T_size])), (aT_numbers, .inl (cI, 100, .inl T_numbers)), (aR, .inr (3, [.ref aR_inches, .ref aR_many, .ref aR_worth, .ref aR_lengths, .ref aR_laid, .ref aR_slates, .int R_widths_27, .int R_rows_28, .int R_lap_29])), (aR_inches, .inl (cI, 4, .inl R_inches_22)), (aR_many, .inl (cI, 4, .inl R_many_23)), (aR_worth, .inl (cI, 4, .inl R_worth_24)), (aR_lengths, .inl (cI, 6, .inl R_lengths_25)), (aR_laid, .inl (cI, 6, .inl R_laid_26)), (aR_slates, .inl (cI, 72, .inl R_slates))] H → va_D A [(aD, .inr (2, [.ref aT, .ref aR, .ref aD_numbers, .int D_letter_20, .int D_at_21])), (aD_numbers, .inl (cI, 3, .inl D_numbers_19)), (aT, .inr (4, [.ref aT_numbers, .int T_holds, va_rf T_laying, .int T_sort, .int T_size])), (aT_numbers, .inl (cI, 100, .inl T_numbers)), (aR, .inr (3, [.ref aR_inches, .ref aR_many, .ref aR_worth, .ref aR_lengths, .ref aR_laid, .ref aR_slates, .int R_widths_27, .int R_rows_28, .int R_lap_29])), (aR_inches, .inl (cI, 4, .inl R_inches_22)), (aR_many, .inl (cI, 4, .inl R_many_23)), (aR_worth, .inl (cI, 4, .inl R_worth_24)), (aR_lengths, .inl (cI, 6, .inl R_lengths_25)), (aR_laid, .inl (cI, 6, .inl R_laid_26)), (aR_slates, .inl (cI, 72, .inl R_slates))] → va_S A s.heap H locs → W p l e (headSpec wsX2_read ({ frames := 5, cells := 0, slots := 0, locals := 104 })).room s m ([.ref aD] : List Value).toArray below meth c H locs 0 0 (MQ below (va_Qi (fun (r : Int32) (_ : Unit) => r = res.1) (fun _ => qW (dC, dI) cI cZ cS A [(aD, .inr (2, [.ref aT, .ref aR, .ref aD_numbers, .int res.2.2.1, .int res.2.2.2.1])), (aD_numbers, .inl (cI, 3, .inl res.2.1)), (aT, .inr (4, [.ref aT_numbers, .int T_holds, va_rf T_laying, .int T_sort, .int T_size])), (aT_numbers, .inl (cI, 100, .inl T_numbers)), (aR, .inr (3, [.ref aR_inches, .ref aR_many, .ref aR_worth, .ref aR_lengths, .ref aR_laid, .ref aR_slates, .int res.2.2.2.2.2.2.2.2.2.1, .int res.2.2.2.2.2.2.2.2.2.2.1, .int res.2.2.2.2.2.2.2.2.2.2.2])), (aR_inches, .inl (cI, 4, .inl res.2.2.2.2.1)), (aR_many, .inl (cI, 4, .inl res.2.2.2.2.2.1)), (aR_worth, .inl (cI, 4, .inl res.2.2.2.2.2.2.1)), (aR_lengths, .inl (cI, 6, .inl res.2.2.2.2.2.2.2.1)), (aR_laid, .inl (cI, 6, .inl res.2.2.2.2.2.2.2.2.1)), (aR_slates, .inl (cI, 72, .inl R_slates))]) A) ([.ref aD] : List Value).toArray s 0 0 A) (F0 m 4 ls []) := by
    intro n_16
    induction n_16 with
    | zero =>
      intro v1_17 v2_18 D_numbers_19 D_letter_20 D_at_21 R_inches_22 R_many_23 R_worth_24 R_lengths_25 R_laid_26 R_widths_27 R_rows_28 R_lap_29 ls H locs h
      simp only [f_X2_read_L4] at h
      try exact absurd h (by simp)
    | succ n_16 ihn_16 =>
      intro v1_17 v2_18 D_numbers_19 D_letter_20 D_at_21 R_inches_22 R_many_23 R_worth_24 R_lengths_25 R_laid_26 R_widths_27 R_rows_28 R_lap_29 ls H locs h hl hP hD hS
      rw [f_X2_read_L4] at h
      refine lv_iload_n hx hb dX2_read_4 rfl (lv_at hl 1 rfl) ?_
      refine lv_if_eq (tgt := 28) hx hb dX2_read_5 (by decide) (fun c_30 => ?_) (fun c_30 => ?_)
      · have h := it_p c_30 h
        refine lv_aload_n hx hb dX2_read_28 rfl (lv_at hl 0 rfl) ?_
        refine va_get (D := (dC, dI)) (ci := 2) (v := .int D_at_21) (C := RX2) (T := TX2) (N := 5) hx hb hts (fun _ h => List.mem_cons_of_mem _ (List.mem_append_left _ (List.mem_append_left _ (List.mem_append_right _ h)))) hown hK hP 0 rfl rfl 4 (by decide) (hts (.fieldLink RX2 19 "SlateRows$Reader" "at" "I") (by decide +kernel)) (fun _ h9 => h9) rfl dX2_read_29 ?_
        refine lv_istore_n (lv' := [(3, .int D_at_21), (0, .ref aD), (1, .int v1_17), (2, .int v2_18)]) hx hb dX2_read_32 rfl hl (by decide) rfl (fun ls hl => ?_)
        refine lv_aload_n hx hb dX2_read_33 rfl (lv_at hl 1 rfl) ?_
        obtain ⟨r_31, hg, h⟩ := bd_some h
        refine mtVi (As := []) (rest := []) (ci := 2) (wr := []) (w2 := [(aD, .inr (2, [.ref aT, .ref aR, .ref aD_numbers, .int r_31.2.2.1, .int r_31.2.2.2])), (aD_numbers, .inl (cI, 3, .inl r_31.2.1)), (aT, .inr (4, [.ref aT_numbers, .int T_holds, va_rf T_laying, .int T_sort, .int T_size])), (aT_numbers, .inl (cI, 100, .inl T_numbers)), (aR, .inr (3, [.ref aR_inches, .ref aR_many, .ref aR_worth, .ref aR_lengths, .ref aR_laid, .ref aR_slates, .int R_widths_27, .int R_rows_28, .int R_lap_29])), (aR_inches, .inl (cI, 4, .inl R_inches_22)), (aR_many, .inl (cI, 4, .inl R_many_23)), (aR_worth, .inl (cI, 4, .inl R_worth_24)), (aR_lengths, .inl (cI, 6, .inl R_lengths_25)), (aR_laid, .inl (cI, 6, .inl R_laid_26)), (aR_slates, .inl (cI, 72, .inl R_slates))]) ⟨hx, hb, hml, hown, hts⟩ (k_X2_readStatement l dC dI cI cZ cS N aD aD_numbers aT aT_numbers aR aR_inches aR_many aR_worth aR_lengths aR_laid aR_slates _ D_numbers_19 D_letter_20 D_at_21 T_numbers T_holds T_laying T_sort T_size R_inches_22 R_many_23 R_worth_24 R_lengths_25 R_laid_26 R_slates R_widths_27 R_rows_28 R_lap_29 r_31 hg) (cwV 0 hts gX2_read_X2_readStatement rfl rfl rfl cd_X2_readStatement ⟨Nat.le_of_ble_eq_true rfl, Nat.le_of_ble_eq_true rfl⟩) hP hD hK hS hA [0, 1, 2, 3, 4, 5, 6, 7, 8, 9, 10] [] [0, 1, 2, 3, 4, 5, 6, 7, 8, 9, 10] (by decide) (by decide) (by decide) (by decide) rfl rfl rfl rfl rfl rfl hl.1 rfl (Nat.le_of_ble_eq_true rfl) dX2_read_34 ⟨Nat.zero_le _, Nat.zero_le _⟩ (fun H locs hP hD hS => ?_)
        refine lv_if_ne (tgt := 49) hx hb dX2_read_37 (by decide) (fun c_32 => ?_) (fun c_32 => ?_)
        · have h := it_n c_32 h
          refine lv_iload_n hx hb dX2_read_49 rfl (lv_at hl 3 rfl) ?_
          refine lv_iconst (v := (-1)) hx hb dX2_read_50 (by decide) ?_
          refine lv_icmp_ne (tgt := 63) hx hb dX2_read_51 (by decide) (fun c_33 => ?_) (fun c_33 => ?_)
          · have h := it_n c_33 h
            refine lv_iinc (v := (v1_17 + 1)) (lv' := [(1, .int (v1_17 + 1)), (3, .int D_at_21), (0, .ref aD), (2, .int v2_18)]) hx hb dX2_read_63 hl (k := 2) rfl rfl (by decide) rfl (fun ls hl => ?_)
            refine lv_goto (tgt := 4) hx hb dX2_read_66 (by decide) ?_
            exact ihn_16 (v1_17 + 1) v2_18 r_31.2.1 r_31.2.2.1 r_31.2.2.2 R_inches_22 R_many_23 R_worth_24 R_lengths_25 R_laid_26 R_widths_27 R_rows_28 R_lap_29 ls _ _ h (lv_sub hl [2, 0, 3] rfl) hP hD hS
          · have h := it_p c_33 h
            refine lv_aload_n hx hb dX2_read_54 rfl (lv_at hl 1 rfl) ?_
            obtain ⟨r_34, hg, h⟩ := bd_some h
            refine mtVi (As := []) (rest := []) (ci := 2) (wr := []) (w2 := [(aD, .inr (2, [.ref aT, .ref aR, .ref aD_numbers, .int r_31.2.2.1, .int r_31.2.2.2])), (aD_numbers, .inl (cI, 3, .inl r_31.2.1)), (aT, .inr (4, [.ref aT_numbers, .int T_holds, va_rf T_laying, .int T_sort, .int T_size])), (aT_numbers, .inl (cI, 100, .inl T_numbers)), (aR, .inr (3, [.ref aR_inches, .ref aR_many, .ref aR_worth, .ref aR_lengths, .ref aR_laid, .ref aR_slates, .int r_34.2.2.2.2.2.2.1, .int r_34.2.2.2.2.2.2.2.1, .int r_34.2.2.2.2.2.2.2.2])), (aR_inches, .inl (cI, 4, .inl r_34.2.1)), (aR_many, .inl (cI, 4, .inl r_34.2.2.1)), (aR_worth, .inl (cI, 4, .inl r_34.2.2.2.1)), (aR_lengths, .inl (cI, 6, .inl r_34.2.2.2.2.1)), (aR_laid, .inl (cI, 6, .inl r_34.2.2.2.2.2.1)), (aR_slates, .inl (cI, 72, .inl R_slates))]) ⟨hx, hb, hml, hown, hts⟩ (k_X2_carryOut l dC dI cI cZ cS N aD aD_numbers aT aT_numbers aR aR_inches aR_many aR_worth aR_lengths aR_laid aR_slates _ r_31.2.1 r_31.2.2.1 r_31.2.2.2 T_numbers T_holds T_laying T_sort T_size R_inches_22 R_many_23 R_worth_24 R_lengths_25 R_laid_26 R_slates R_widths_27 R_rows_28 R_lap_29 r_34 hg) (cwV 0 hts gX2_read_X2_carryOut rfl rfl rfl cd_X2_carryOut ⟨Nat.le_of_ble_eq_true rfl, Nat.le_of_ble_eq_true rfl⟩) hP hD hK hS hA [0, 1, 2, 3, 4, 5, 6, 7, 8, 9, 10] [] [0, 1, 2, 3, 4, 5, 6, 7, 8, 9, 10] (by decide) (by decide) (by decide) (by decide) rfl rfl rfl rfl rfl rfl hl.1 rfl (Nat.le_of_ble_eq_true rfl) dX2_read_55 ⟨Nat.zero_le _, Nat.zero_le _⟩ (fun H locs hP hD hS => ?_)
            refine lv_if_ne (tgt := 63) hx hb dX2_read_58 (by decide) (fun c_35 => ?_) (fun c_35 => ?_)
            · have h := it_n c_35 h
              refine lv_iinc (v := (v1_17 + 1)) (lv' := [(1, .int (v1_17 + 1)), (3, .int D_at_21), (0, .ref aD), (2, .int v2_18)]) hx hb dX2_read_63 hl (k := 2) rfl rfl (by decide) rfl (fun ls hl => ?_)
              refine lv_goto (tgt := 4) hx hb dX2_read_66 (by decide) ?_
              exact ihn_16 (v1_17 + 1) v2_18 r_31.2.1 r_31.2.2.1 r_31.2.2.2 r_34.2.1 r_34.2.2.1 r_34.2.2.2.1 r_34.2.2.2.2.1 r_34.2.2.2.2.2.1 r_34.2.2.2.2.2.2.1 r_34.2.2.2.2.2.2.2.1 r_34.2.2.2.2.2.2.2.2 ls _ _ h (lv_sub hl [2, 0, 3] rfl) hP hD hS
            · have h := it_p c_35 h
              refine lv_iload_n hx hb dX2_read_61 rfl (lv_at hl 0 rfl) ?_
              refine lv_istore_n (lv' := [(2, .int D_at_21), (3, .int D_at_21), (0, .ref aD), (1, .int v1_17)]) hx hb dX2_read_62 rfl hl (by decide) rfl (fun ls hl => ?_)
              refine lv_iinc (v := (v1_17 + 1)) (lv' := [(1, .int (v1_17 + 1)), (2, .int D_at_21), (3, .int D_at_21), (0, .ref aD)]) hx hb dX2_read_63 hl (k := 3) rfl rfl (by decide) rfl (fun ls hl => ?_)
              refine lv_goto (tgt := 4) hx hb dX2_read_66 (by decide) ?_
              exact ihn_16 (v1_17 + 1) D_at_21 r_31.2.1 r_31.2.2.1 r_31.2.2.2 r_34.2.1 r_34.2.2.1 r_34.2.2.2.1 r_34.2.2.2.2.1 r_34.2.2.2.2.2.1 r_34.2.2.2.2.2.2.1 r_34.2.2.2.2.2.2.2.1 r_34.2.2.2.2.2.2.2.2 ls _ _ h (lv_sub hl [3, 0, 1] rfl) hP hD hS
        · have h := it_p c_32 h
          refine lv_sipush (v := (-1000)) hx hb dX2_read_40 (by decide) ?_
          refine lv_aload_n hx hb dX2_read_43 rfl (lv_at hl 1 rfl) ?_
          refine va_get (D := (dC, dI)) (ci := 2) (v := .int r_31.2.2.2) (C := RX2) (T := TX2) (N := 5) hx hb hts (fun _ h => List.mem_cons_of_mem _ (List.mem_append_left _ (List.mem_append_left _ (List.mem_append_right _ h)))) hown hK hP 0 rfl rfl 4 (by decide) (hts (.fieldLink RX2 19 "SlateRows$Reader" "at" "I") (by decide +kernel)) (fun _ h9 => h9) rfl dX2_read_44 ?_
          refine lv_isub hx hb dX2_read_47 ?_
          have h := Option.some.inj h
          exact W.iret hx hb hr (fun t ht hW => ⟨⟨_, (), rfl, by rw [← h], by (try rw [← h]); rw [ht]; exact hP, va_K.moved hW.alike hK, by (try rw [← h]); exact hD⟩, hS.F ht⟩) hS.2.2 dX2_read_48
      · have h := it_n c_30 h
        refine lv_aload_n hx hb dX2_read_8 rfl (lv_at hl 0 rfl) ?_
        refine va_get (D := (dC, dI)) (ci := 2) (v := .int D_at_21) (C := RX2) (T := TX2) (N := 5) hx hb hts (fun _ h => List.mem_cons_of_mem _ (List.mem_append_left _ (List.mem_append_left _ (List.mem_append_right _ h)))) hown hK hP 0 rfl rfl 4 (by decide) (hts (.fieldLink RX2 19 "SlateRows$Reader" "at" "I") (by decide +kernel)) (fun _ h9 => h9) rfl dX2_read_9 ?_
        refine lv_aload_n hx hb dX2_read_12 rfl (lv_at hl 0 rfl) ?_
        refine va_get (D := (dC, dI)) (ci := 2) (v := .ref aT) (C := RX2) (T := TX2) (N := 5) hx hb hts (fun _ h => List.mem_cons_of_mem _ (List.mem_append_left _ (List.mem_append_left _ (List.mem_append_right _ h)))) hown hK hP 0 rfl rfl 0 (by decide) (hts (.fieldLink RX2 22 "SlateRows$Reader" "text" "LSlateRows$Shelf;") (by decide +kernel)) (fun _ h9 => h9) rfl dX2_read_13 ?_
        refine va_get (D := (dC, dI)) (ci := 4) (v := .int T_size) (C := RX4) (T := TX4) (N := 5) hx hb hts (fun _ h => List.mem_cons_of_mem _ (List.mem_append_left _ (List.mem_append_right _ h))) hown hK hP 2 rfl rfl 4 (by decide) (hts (.fieldLink RX2 30 "SlateRows$Shelf" "size" "I") (by decide +kernel)) (fun _ h9 => h9) rfl dX2_read_16 ?_
        refine lv_icmp_ge (tgt := 69) hx hb dX2_read_19 (by decide) (fun c_36 => ?_) (fun c_36 => ?_)
        · have h := it_p c_36 h
          refine lv_iload_n hx hb dX2_read_69 rfl (lv_at hl 2 rfl) ?_
          refine lv_iconst (v := (-1)) hx hb dX2_read_70 (by decide) ?_
          refine lv_icmp_ne (tgt := 78) hx hb dX2_read_71 (by decide) (fun c_37 => ?_) (fun c_37 => ?_)
          · have h := it_n c_37 h
            refine lv_sipush (v := (-2000)) hx hb dX2_read_78 (by decide) ?_
            refine lv_iload_n hx hb dX2_read_81 rfl (lv_at hl 2 rfl) ?_
            refine lv_isub hx hb dX2_read_82 ?_
            have h := Option.some.inj h
            exact W.iret hx hb hr (fun t ht hW => ⟨⟨_, (), rfl, by rw [← h], by (try rw [← h]); rw [ht]; exact hP, va_K.moved hW.alike hK, by (try rw [← h]); exact hD⟩, hS.F ht⟩) hS.2.2 dX2_read_83
          · have h := it_p c_37 h
            refine lv_iload_n hx hb dX2_read_74 rfl (lv_at hl 1 rfl) ?_
            refine lv_goto (tgt := 83) hx hb dX2_read_75 (by decide) ?_
            have h := Option.some.inj h
            exact W.iret hx hb hr (fun t ht hW => ⟨⟨_, (), rfl, by rw [← h], by (try rw [← h]); rw [ht]; exact hP, va_K.moved hW.alike hK, by (try rw [← h]); exact hD⟩, hS.F ht⟩) hS.2.2 dX2_read_83
        · have h := it_n c_36 h
          refine lv_iload_n hx hb dX2_read_22 rfl (lv_at hl 1 rfl) ?_
          refine lv_bipush (v := 100) hx hb dX2_read_23 (by decide) ?_
          refine lv_icmp_ge (tgt := 69) hx hb dX2_read_25 (by decide) (fun c_38 => ?_) (fun c_38 => ?_)
          · have h := it_p c_38 h
            refine lv_iload_n hx hb dX2_read_69 rfl (lv_at hl 2 rfl) ?_
            refine lv_iconst (v := (-1)) hx hb dX2_read_70 (by decide) ?_
            refine lv_icmp_ne (tgt := 78) hx hb dX2_read_71 (by decide) (fun c_39 => ?_) (fun c_39 => ?_)
            · have h := it_n c_39 h
              refine lv_sipush (v := (-2000)) hx hb dX2_read_78 (by decide) ?_
              refine lv_iload_n hx hb dX2_read_81 rfl (lv_at hl 2 rfl) ?_
              refine lv_isub hx hb dX2_read_82 ?_
              have h := Option.some.inj h
              exact W.iret hx hb hr (fun t ht hW => ⟨⟨_, (), rfl, by rw [← h], by (try rw [← h]); rw [ht]; exact hP, va_K.moved hW.alike hK, by (try rw [← h]); exact hD⟩, hS.F ht⟩) hS.2.2 dX2_read_83
            · have h := it_p c_39 h
              refine lv_iload_n hx hb dX2_read_74 rfl (lv_at hl 1 rfl) ?_
              refine lv_goto (tgt := 83) hx hb dX2_read_75 (by decide) ?_
              have h := Option.some.inj h
              exact W.iret hx hb hr (fun t ht hW => ⟨⟨_, (), rfl, by rw [← h], by (try rw [← h]); rw [ht]; exact hP, va_K.moved hW.alike hK, by (try rw [← h]); exact hD⟩, hS.F ht⟩) hS.2.2 dX2_read_83
          · have h := it_n c_38 h
            refine lv_aload_n hx hb dX2_read_28 rfl (lv_at hl 0 rfl) ?_
            refine va_get (D := (dC, dI)) (ci := 2) (v := .int D_at_21) (C := RX2) (T := TX2) (N := 5) hx hb hts (fun _ h => List.mem_cons_of_mem _ (List.mem_append_left _ (List.mem_append_left _ (List.mem_append_right _ h)))) hown hK hP 0 rfl rfl 4 (by decide) (hts (.fieldLink RX2 19 "SlateRows$Reader" "at" "I") (by decide +kernel)) (fun _ h9 => h9) rfl dX2_read_29 ?_
            refine lv_istore_n (lv' := [(3, .int D_at_21), (0, .ref aD), (1, .int v1_17), (2, .int v2_18)]) hx hb dX2_read_32 rfl hl (by decide) rfl (fun ls hl => ?_)
            refine lv_aload_n hx hb dX2_read_33 rfl (lv_at hl 1 rfl) ?_
            obtain ⟨r_40, hg, h⟩ := bd_some h
            refine mtVi (As := []) (rest := []) (ci := 2) (wr := []) (w2 := [(aD, .inr (2, [.ref aT, .ref aR, .ref aD_numbers, .int r_40.2.2.1, .int r_40.2.2.2])), (aD_numbers, .inl (cI, 3, .inl r_40.2.1)), (aT, .inr (4, [.ref aT_numbers, .int T_holds, va_rf T_laying, .int T_sort, .int T_size])), (aT_numbers, .inl (cI, 100, .inl T_numbers)), (aR, .inr (3, [.ref aR_inches, .ref aR_many, .ref aR_worth, .ref aR_lengths, .ref aR_laid, .ref aR_slates, .int R_widths_27, .int R_rows_28, .int R_lap_29])), (aR_inches, .inl (cI, 4, .inl R_inches_22)), (aR_many, .inl (cI, 4, .inl R_many_23)), (aR_worth, .inl (cI, 4, .inl R_worth_24)), (aR_lengths, .inl (cI, 6, .inl R_lengths_25)), (aR_laid, .inl (cI, 6, .inl R_laid_26)), (aR_slates, .inl (cI, 72, .inl R_slates))]) ⟨hx, hb, hml, hown, hts⟩ (k_X2_readStatement l dC dI cI cZ cS N aD aD_numbers aT aT_numbers aR aR_inches aR_many aR_worth aR_lengths aR_laid aR_slates _ D_numbers_19 D_letter_20 D_at_21 T_numbers T_holds T_laying T_sort T_size R_inches_22 R_many_23 R_worth_24 R_lengths_25 R_laid_26 R_slates R_widths_27 R_rows_28 R_lap_29 r_40 hg) (cwV 0 hts gX2_read_X2_readStatement rfl rfl rfl cd_X2_readStatement ⟨Nat.le_of_ble_eq_true rfl, Nat.le_of_ble_eq_true rfl⟩) hP hD hK hS hA [0, 1, 2, 3, 4, 5, 6, 7, 8, 9, 10] [] [0, 1, 2, 3, 4, 5, 6, 7, 8, 9, 10] (by decide) (by decide) (by decide) (by decide) rfl rfl rfl rfl rfl rfl hl.1 rfl (Nat.le_of_ble_eq_true rfl) dX2_read_34 ⟨Nat.zero_le _, Nat.zero_le _⟩ (fun H locs hP hD hS => ?_)
            refine lv_if_ne (tgt := 49) hx hb dX2_read_37 (by decide) (fun c_41 => ?_) (fun c_41 => ?_)
            · have h := it_n c_41 h
              refine lv_iload_n hx hb dX2_read_49 rfl (lv_at hl 3 rfl) ?_
              refine lv_iconst (v := (-1)) hx hb dX2_read_50 (by decide) ?_
              refine lv_icmp_ne (tgt := 63) hx hb dX2_read_51 (by decide) (fun c_42 => ?_) (fun c_42 => ?_)
              · have h := it_n c_42 h
                refine lv_iinc (v := (v1_17 + 1)) (lv' := [(1, .int (v1_17 + 1)), (3, .int D_at_21), (0, .ref aD), (2, .int v2_18)]) hx hb dX2_read_63 hl (k := 2) rfl rfl (by decide) rfl (fun ls hl => ?_)
                refine lv_goto (tgt := 4) hx hb dX2_read_66 (by decide) ?_
                exact ihn_16 (v1_17 + 1) v2_18 r_40.2.1 r_40.2.2.1 r_40.2.2.2 R_inches_22 R_many_23 R_worth_24 R_lengths_25 R_laid_26 R_widths_27 R_rows_28 R_lap_29 ls _ _ h (lv_sub hl [2, 0, 3] rfl) hP hD hS
              · have h := it_p c_42 h
                refine lv_aload_n hx hb dX2_read_54 rfl (lv_at hl 1 rfl) ?_
                obtain ⟨r_43, hg, h⟩ := bd_some h
                refine mtVi (As := []) (rest := []) (ci := 2) (wr := []) (w2 := [(aD, .inr (2, [.ref aT, .ref aR, .ref aD_numbers, .int r_40.2.2.1, .int r_40.2.2.2])), (aD_numbers, .inl (cI, 3, .inl r_40.2.1)), (aT, .inr (4, [.ref aT_numbers, .int T_holds, va_rf T_laying, .int T_sort, .int T_size])), (aT_numbers, .inl (cI, 100, .inl T_numbers)), (aR, .inr (3, [.ref aR_inches, .ref aR_many, .ref aR_worth, .ref aR_lengths, .ref aR_laid, .ref aR_slates, .int r_43.2.2.2.2.2.2.1, .int r_43.2.2.2.2.2.2.2.1, .int r_43.2.2.2.2.2.2.2.2])), (aR_inches, .inl (cI, 4, .inl r_43.2.1)), (aR_many, .inl (cI, 4, .inl r_43.2.2.1)), (aR_worth, .inl (cI, 4, .inl r_43.2.2.2.1)), (aR_lengths, .inl (cI, 6, .inl r_43.2.2.2.2.1)), (aR_laid, .inl (cI, 6, .inl r_43.2.2.2.2.2.1)), (aR_slates, .inl (cI, 72, .inl R_slates))]) ⟨hx, hb, hml, hown, hts⟩ (k_X2_carryOut l dC dI cI cZ cS N aD aD_numbers aT aT_numbers aR aR_inches aR_many aR_worth aR_lengths aR_laid aR_slates _ r_40.2.1 r_40.2.2.1 r_40.2.2.2 T_numbers T_holds T_laying T_sort T_size R_inches_22 R_many_23 R_worth_24 R_lengths_25 R_laid_26 R_slates R_widths_27 R_rows_28 R_lap_29 r_43 hg) (cwV 0 hts gX2_read_X2_carryOut rfl rfl rfl cd_X2_carryOut ⟨Nat.le_of_ble_eq_true rfl, Nat.le_of_ble_eq_true rfl⟩) hP hD hK hS hA [0, 1, 2, 3, 4, 5, 6, 7, 8, 9, 10] [] [0, 1, 2, 3, 4, 5, 6, 7, 8, 9, 10] (by decide) (by decide) (by decide) (by decide) rfl rfl rfl rfl rfl rfl hl.1 rfl (Nat.le_of_ble_eq_true rfl) dX2_read_55 ⟨Nat.zero_le _, Nat.zero_le _⟩ (fun H locs hP hD hS => ?_)
                refine lv_if_ne (tgt := 63) hx hb dX2_read_58 (by decide) (fun c_44 => ?_) (fun c_44 => ?_)
                · have h := it_n c_44 h
                  refine lv_iinc (v := (v1_17 + 1)) (lv' := [(1, .int (v1_17 + 1)), (3, .int D_at_21), (0, .ref aD), (2, .int v2_18)]) hx hb dX2_read_63 hl (k := 2) rfl rfl (by decide) rfl (fun ls hl => ?_)
                  refine lv_goto (tgt := 4) hx hb dX2_read_66 (by decide) ?_
                  exact ihn_16 (v1_17 + 1) v2_18 r_40.2.1 r_40.2.2.1 r_40.2.2.2 r_43.2.1 r_43.2.2.1 r_43.2.2.2.1 r_43.2.2.2.2.1 r_43.2.2.2.2.2.1 r_43.2.2.2.2.2.2.1 r_43.2.2.2.2.2.2.2.1 r_43.2.2.2.2.2.2.2.2 ls _ _ h (lv_sub hl [2, 0, 3] rfl) hP hD hS
                · have h := it_p c_44 h
                  refine lv_iload_n hx hb dX2_read_61 rfl (lv_at hl 0 rfl) ?_
                  refine lv_istore_n (lv' := [(2, .int D_at_21), (3, .int D_at_21), (0, .ref aD), (1, .int v1_17)]) hx hb dX2_read_62 rfl hl (by decide) rfl (fun ls hl => ?_)
                  refine lv_iinc (v := (v1_17 + 1)) (lv' := [(1, .int (v1_17 + 1)), (2, .int D_at_21), (3, .int D_at_21), (0, .ref aD)]) hx hb dX2_read_63 hl (k := 3) rfl rfl (by decide) rfl (fun ls hl => ?_)
                  refine lv_goto (tgt := 4) hx hb dX2_read_66 (by decide) ?_
                  exact ihn_16 (v1_17 + 1) D_at_21 r_40.2.1 r_40.2.2.1 r_40.2.2.2 r_43.2.1 r_43.2.2.1 r_43.2.2.2.1 r_43.2.2.2.2.1 r_43.2.2.2.2.2.1 r_43.2.2.2.2.2.2.1 r_43.2.2.2.2.2.2.2.1 r_43.2.2.2.2.2.2.2.2 ls _ _ h (lv_sub hl [3, 0, 1] rfl) hP hD hS
            · have h := it_p c_41 h
              refine lv_sipush (v := (-1000)) hx hb dX2_read_40 (by decide) ?_
              refine lv_aload_n hx hb dX2_read_43 rfl (lv_at hl 1 rfl) ?_
              refine va_get (D := (dC, dI)) (ci := 2) (v := .int r_40.2.2.2) (C := RX2) (T := TX2) (N := 5) hx hb hts (fun _ h => List.mem_cons_of_mem _ (List.mem_append_left _ (List.mem_append_left _ (List.mem_append_right _ h)))) hown hK hP 0 rfl rfl 4 (by decide) (hts (.fieldLink RX2 19 "SlateRows$Reader" "at" "I") (by decide +kernel)) (fun _ h9 => h9) rfl dX2_read_44 ?_
              refine lv_isub hx hb dX2_read_47 ?_
              have h := Option.some.inj h
              exact W.iret hx hb hr (fun t ht hW => ⟨⟨_, (), rfl, by rw [← h], by (try rw [← h]); rw [ht]; exact hP, va_K.moved hW.alike hK, by (try rw [← h]); exact hD⟩, hS.F ht⟩) hS.2.2 dX2_read_48
  exact L4_15 N 0 (-1) D_numbers D_letter D_at R_inches R_many R_worth R_lengths R_laid R_widths R_rows R_lap ls _ _ h (lv_sub hl [2, 1, 0] rfl) hP hD hS
