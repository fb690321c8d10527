theorem cd_X7_isShelf : yX7_isShelf.cls = RX7 ∧ yX7_isShelf.cls ≠ "java/lang/invoke/MethodHandle" ∧ yX7_isShelf.cls ≠ "java/lang/invoke/VarHandle" ∧ (parseMethodDescriptor yX7_isShelf.desc).map (fun d => d.parameters.length) = some 1 := by decide +kernel
theorem cd_X7_isRow : yX7_isRow.cls = RX7 ∧ yX7_isRow.cls ≠ "java/lang/invoke/MethodHandle" ∧ yX7_isRow.cls ≠ "java/lang/invoke/VarHandle" ∧ (parseMethodDescriptor yX7_isRow.desc).map (fun d => d.parameters.length) = some 1 := by decide +kernel
theorem cd_X7_isWidth : yX7_isWidth.cls = RX7 ∧ yX7_isWidth.cls ≠ "java/lang/invoke/MethodHandle" ∧ yX7_isWidth.cls ≠ "java/lang/invoke/VarHandle" ∧ (parseMethodDescriptor yX7_isWidth.desc).map (fun d => d.parameters.length) = some 1 := by decide +kernel
theorem cd_X7_refusalOfOpen : yX7_refusalOfOpen.cls = RX7 ∧ yX7_refusalOfOpen.cls ≠ "java/lang/invoke/MethodHandle" ∧ yX7_refusalOfOpen.cls ≠ "java/lang/invoke/VarHandle" ∧ (parseMethodDescriptor yX7_refusalOfOpen.desc).map (fun d => d.parameters.length) = some 2 := by decide +kernel
theorem cd_X7_width : yX7_width.cls = RX7 ∧ yX7_width.cls ≠ "java/lang/invoke/MethodHandle" ∧ yX7_width.cls ≠ "java/lang/invoke/VarHandle" ∧ (parseMethodDescriptor yX7_width.desc).map (fun d => d.parameters.length) = some 2 := by decide +kernel
theorem cd_X7_heap : yX7_heap.cls = RX7 ∧ yX7_heap.cls ≠ "java/lang/invoke/MethodHandle" ∧ yX7_heap.cls ≠ "java/lang/invoke/VarHandle" ∧ (parseMethodDescriptor yX7_heap.desc).map (fun d => d.parameters.length) = some 2 := by decide +kernel
theorem cd_X7_lap : yX7_lap.cls = RX7 ∧ yX7_lap.cls ≠ "java/lang/invoke/MethodHandle" ∧ yX7_lap.cls ≠ "java/lang/invoke/VarHandle" ∧ (parseMethodDescriptor yX7_lap.desc).map (fun d => d.parameters.length) = some 1 := by decide +kernel
theorem cd_X7_rowOf : yX7_rowOf.cls = RX7 ∧ yX7_rowOf.cls ≠ "java/lang/invoke/MethodHandle" ∧ yX7_rowOf.cls ≠ "java/lang/invoke/VarHandle" ∧ (parseMethodDescriptor yX7_rowOf.desc).map (fun d => d.parameters.length) = some 2 := by decide +kernel
theorem cd_X7_slate : yX7_slate.cls = RX7 ∧ yX7_slate.cls ≠ "java/lang/invoke/MethodHandle" ∧ yX7_slate.cls ≠ "java/lang/invoke/VarHandle" ∧ (parseMethodDescriptor yX7_slate.desc).map (fun d => d.parameters.length) = some 2 := by decide +kernel
theorem cd_X7_joint : yX7_joint.cls = RX7 ∧ yX7_joint.cls ≠ "java/lang/invoke/MethodHandle" ∧ yX7_joint.cls ≠ "java/lang/invoke/VarHandle" ∧ (parseMethodDescriptor yX7_joint.desc).map (fun d => d.parameters.length) = some 2 := by decide +kernel
def f_X7_isShelf (N : Nat) (x1 : Int32) : Option (Bool) :=
  if x1 < 0 then (some (false)) else (if 8 ≤ x1 then (some (false)) else (some (true)))
set_option maxHeartbeats 4000000 in
set_option maxRecDepth 100000 in
theorem k_X7_isShelf (l : Launch) (dC : Nat → ClassId) (dI : Nat → Nat → Nat) (cI cZ cS : ClassId) (N : Nat) (aS aNow aKept aMind aShv : Nat) (S_isKept : Int32) (S_ways : Option Nat) (x1 : Int32) (res : Bool) (h : f_X7_isShelf N x1 = some res) : Met l yX7_isShelf wsX7_isShelf ({ frames := 0, cells := 0, slots := 0, locals := 0 }) (va_Pc [.ref aS, .int x1] (wd (dC, dI) cI cZ cS [(aS, .inr (6, [.ref aNow, .ref aKept, .ref aMind, .ref aShv, .int S_isKept, va_rf S_ways]))])) (vp_Si (fun r => r = b2i res)) 0 0 (fun _ => False) := by
  refine Met.ofW (cc := cX7_isShelf) (maxL := 2) (ret := (some .boolean)) (by decide) rfl ?_
  intro p e s m args below meth c s₁ B hml hv
  obtain ⟨rfl, hP, hK, hD⟩ := hv
  have hx := B.exec
  have hb := B.bytes
  have hr := B.returns
  have hts := atoms_spec (ws := wsX7_isShelf) B.pre
  have hown : s.vm.findClass RX7 = some m.cls := findClass_of_methodNamed B.named
  have hlocks := B.notSynchronized
  have hl := lv_entry ([.ref aS, .int x1]) (n := 2) (Nat.le_of_ble_eq_true rfl)
  rw [lg_entry_eq]
  generalize (lg_sl ([.ref aS, .int x1]) ++ List.replicate (2 - (lg_sl ([.ref aS, .int x1])).length) Slot.unset).toArray = ls at hl ⊢
  have hl : lv_has ls 2 [(0, .ref aS), (1, .int x1)] := hl
  unfold f_X7_isShelf at h
  refine lv_iload_n hx hb dX7_isShelf_0 rfl (lv_at hl 1 rfl) ?_
  refine lv_if_lt (tgt := 14) hx hb dX7_isShelf_1 (by decide) (fun c_1 => ?_) (fun c_1 => ?_)
  · have h := it_p c_1 h
    refine lv_iconst (v := 0) hx hb dX7_isShelf_14 (by decide) ?_
    exact W.zret (v := b2i false) hx hb hr (b2i_nar _) (fun t ht hW => ⟨b2i false, rfl, congrArg b2i (Option.some.inj h), ht⟩) (fun q hq => by cases hq) dX7_isShelf_15
  · have h := it_n c_1 h
    refine lv_iload_n hx hb dX7_isShelf_4 rfl (lv_at hl 1 rfl) ?_
    refine lv_bipush (v := 8) hx hb dX7_isShelf_5 (by decide) ?_
    refine lv_icmp_ge (tgt := 14) hx hb dX7_isShelf_7 (by decide) (fun c_2 => ?_) (fun c_2 => ?_)
    · have h := it_p c_2 h
      refine lv_iconst (v := 0) hx hb dX7_isShelf_14 (by decide) ?_
      exact W.zret (v := b2i false) hx hb hr (b2i_nar _) (fun t ht hW => ⟨b2i false, rfl, congrArg b2i (Option.some.inj h), ht⟩) (fun q hq => by cases hq) dX7_isShelf_15
    · have h := it_n c_2 h
      refine lv_iconst (v := 1) hx hb dX7_isShelf_10 (by decide) ?_
      refine lv_goto (tgt := 15) hx hb dX7_isShelf_11 (by decide) ?_
      exact W.zret (v := b2i true) hx hb hr (b2i_nar _) (fun t ht hW => ⟨b2i true, rfl, congrArg b2i (Option.some.inj h), ht⟩) (fun q hq => by cases hq) dX7_isShelf_15
def f_X7_isRow (N : Nat) (Rn_rows : Int32) (x1 : Int32) : Option (Bool) :=
  if x1 < 0 then (some (false)) else (if Rn_rows ≤ x1 then (some (false)) else (some (true)))
set_option maxHeartbeats 4000000 in
set_option maxRecDepth 100000 in
theorem k_X7_isRow (l : Launch) (dC : Nat → ClassId) (dI : Nat → Nat → Nat) (cI cZ cS : ClassId) (N : Nat) (aS aRn aRn_inches aRn_many aRn_worth aRn_lengths aRn_laid aRn_slates aKept aMind aShv : Nat) (S_isKept : Int32) (S_ways : Option Nat) (Rn_inches : Nat → Int32) (Rn_many : Nat → Int32) (Rn_worth : Nat → Int32) (Rn_lengths : Nat → Int32) (Rn_laid : Nat → Int32) (Rn_slates : Nat → Int32) (Rn_widths : Int32) (Rn_rows : Int32) (Rn_lap : Int32) (x1 : Int32) (res : Bool) (h : f_X7_isRow N Rn_rows x1 = some res) : Met l yX7_isRow wsX7_isRow ({ frames := 0, cells := 0, slots := 0, locals := 0 }) (va_Pc [.ref aS, .int x1] (wd (dC, dI) cI cZ cS [(aS, .inr (6, [.ref aRn, .ref aKept, .ref aMind, .ref aShv, .int S_isKept, va_rf S_ways])), (aRn, .inr (3, [.ref aRn_inches, .ref aRn_many, .ref aRn_worth, .ref aRn_lengths, .ref aRn_laid, .ref aRn_slates, .int Rn_widths, .int Rn_rows, .int Rn_lap])), (aRn_inches, .inl (cI, 4, .inl Rn_inches)), (aRn_many, .inl (cI, 4, .inl Rn_many)), (aRn_worth, .inl (cI, 4, .inl Rn_worth)), (aRn_lengths, .inl (cI, 6, .inl Rn_lengths)), (aRn_laid, .inl (cI, 6, .inl Rn_laid)), (aRn_slates, .inl (cI, 72, .inl Rn_slates))])) (vp_Si (fun r => r = b2i res)) 0 0 (fun _ => False) := by
  refine Met.ofW (cc := cX7_isRow) (maxL := 2) (ret := (some .boolean)) (by decide) rfl ?_
  intro p e s m args below meth c s₁ B hml hv
  obtain ⟨rfl, hP, hK, hD⟩ := hv
  have hx := B.exec
  have hb := B.bytes
  have hr := B.returns
  have hts := atoms_spec (ws := wsX7_isRow) B.pre
  have hown : s.vm.findClass RX7 = some m.cls := findClass_of_methodNamed B.named
  have hlocks := B.notSynchronized
  have hl := lv_entry ([.ref aS, .int x1]) (n := 2) (Nat.le_of_ble_eq_true rfl)
  rw [lg_entry_eq]
  generalize (lg_sl ([.ref aS, .int x1]) ++ List.replicate (2 - (lg_sl ([.ref aS, .int x1])).length) Slot.unset).toArray = ls at hl ⊢
  have hl : lv_has ls 2 [(0, .ref aS), (1, .int x1)] := hl
  unfold f_X7_isRow at h
  refine lv_iload_n hx hb dX7_isRow_0 rfl (lv_at hl 1 rfl) ?_
  refine lv_if_lt (tgt := 19) hx hb dX7_isRow_1 (by decide) (fun c_1 => ?_) (fun c_1 => ?_)
  · have h := it_p c_1 h
    refine lv_iconst (v := 0) hx hb dX7_isRow_19 (by decide) ?_
    exact W.zret (v := b2i false) hx hb hr (b2i_nar _) (fun t ht hW => ⟨b2i false, rfl, congrArg b2i (Option.some.inj h), ht⟩) (fun q hq => by cases hq) dX7_isRow_20
  · have h := it_n c_1 h
    refine lv_iload_n hx hb dX7_isRow_4 rfl (lv_at hl 1 rfl) ?_
    refine lv_aload_n hx hb dX7_isRow_5 rfl (lv_at hl 0 rfl) ?_
    refine va_get (D := (dC, dI)) (ci := 6) (v := .ref aRn) (C := RX7) (T := TX7) (N := 6) hx hb hts (fun _ h => List.mem_cons_of_mem _ (List.mem_append_left _ (List.mem_append_right _ h))) hown hK hP 0 rfl rfl 0 (by decide) (hts (.fieldLink RX7 10 "SlateRows" "now" "LSlateRows$Roof;") (by decide +kernel)) (fun _ h9 => h9) rfl dX7_isRow_6 ?_
    refine va_get (D := (dC, dI)) (ci := 3) (v := .int Rn_rows) (C := RX3) (T := TX3) (N := 9) hx hb hts (fun _ h => List.mem_cons_of_mem _ (List.mem_append_right _ h)) hown hK hP 1 rfl rfl 7 (by decide) (hts (.fieldLink RX7 166 "SlateRows$Roof" "rows" "I") (by decide +kernel)) (fun _ h9 => h9) rfl dX7_isRow_9 ?_
    refine lv_icmp_ge (tgt := 19) hx hb dX7_isRow_12 (by decide) (fun c_2 => ?_) (fun c_2 => ?_)
    · have h := it_p c_2 h
      refine lv_iconst (v := 0) hx hb dX7_isRow_19 (by decide) ?_
      exact W.zret (v := b2i false) hx hb hr (b2i_nar _) (fun t ht hW => ⟨b2i false, rfl, congrArg b2i (Option.some.inj h), ht⟩) (fun q hq => by cases hq) dX7_isRow_20
    · have h := it_n c_2 h
      refine lv_iconst (v := 1) hx hb dX7_isRow_15 (by decide) ?_
      refine lv_goto (tgt := 20) hx hb dX7_isRow_16 (by decide) ?_
      exact W.zret (v := b2i true) hx hb hr (b2i_nar _) (fun t ht hW => ⟨b2i true, rfl, congrArg b2i (Option.some.inj h), ht⟩) (fun q hq => by cases hq) dX7_isRow_20
def f_X7_isWidth (N : Nat) (Rn_widths : Int32) (x1 : Int32) : Option (Bool) :=
  if x1 < 0 then (some (false)) else (if Rn_widths ≤ x1 then (some (false)) else (some (true)))
set_option maxHeartbeats 4000000 in
set_option maxRecDepth 100000 in
theorem k_X7_isWidth (l : Launch) (dC : Nat → ClassId) (dI : Nat → Nat → Nat) (cI cZ cS : ClassId) (N : Nat) (aS aRn aRn_inches aRn_many aRn_worth aRn_lengths aRn_laid aRn_slates aKept aMind aShv : Nat) (S_isKept : Int32) (S_ways : Option Nat) (Rn_inches : Nat → Int32) (Rn_many : Nat → Int32) (Rn_worth : Nat → Int32) (Rn_lengths : Nat → Int32) (Rn_laid : Nat → Int32) (Rn_slates : Nat → Int32) (Rn_widths : Int32) (Rn_rows : Int32) (Rn_lap : Int32) (x1 : Int32) (res : Bool) (h : f_X7_isWidth N Rn_widths x1 = some res) : Met l yX7_isWidth wsX7_isWidth ({ frames := 0, cells := 0, slots := 0, locals := 0 }) (va_Pc [.ref aS, .int x1] (wd (dC, dI) cI cZ cS [(aS, .inr (6, [.ref aRn, .ref aKept, .ref aMind, .ref aShv, .int S_isKept, va_rf S_ways])), (aRn, .inr (3, [.ref aRn_inches, .ref aRn_many, .ref aRn_worth, .ref aRn_lengths, .ref aRn_laid, .ref aRn_slates, .int Rn_widths, .int Rn_rows, .int Rn_lap])), (aRn_inches, .inl (cI, 4, .inl Rn_inches)), (aRn_many, .inl (cI, 4, .inl Rn_many)), (aRn_worth, .inl (cI, 4, .inl Rn_worth)), (aRn_lengths, .inl (cI, 6, .inl Rn_lengths)), (aRn_laid, .inl (cI, 6, .inl Rn_laid)), (aRn_slates, .inl (cI, 72, .inl Rn_slates))])) (vp_Si (fun r => r = b2i res)) 0 0 (fun _ => False) := by
  refine Met.ofW (cc := cX7_isWidth) (maxL := 2) (ret := (some .boolean)) (by decide) rfl ?_
  intro p e s m args below meth c s₁ B hml hv
  obtain ⟨rfl, hP, hK, hD⟩ := hv
  have hx := B.exec
  have hb := B.bytes
  have hr := B.returns
  have hts := atoms_spec (ws := wsX7_isWidth) B.pre
  have hown : s.vm.findClass RX7 = some m.cls := findClass_of_methodNamed B.named
  have hlocks := B.notSynchronized
  have hl := lv_entry ([.ref aS, .int x1]) (n := 2) (Nat.le_of_ble_eq_true rfl)
  rw [lg_entry_eq]
  generalize (lg_sl ([.ref aS, .int x1]) ++ List.replicate (2 - (lg_sl ([.ref aS, .int x1])).length) Slot.unset).toArray = ls at hl ⊢
  have hl : lv_has ls 2 [(0, .ref aS), (1, .int x1)] := hl
  unfold f_X7_isWidth at h
  refine lv_iload_n hx hb dX7_isWidth_0 rfl (lv_at hl 1 rfl) ?_
  refine lv_if_lt (tgt := 19) hx hb dX7_isWidth_1 (by decide) (fun c_1 => ?_) (fun c_1 => ?_)
  · have h := it_p c_1 h
    refine lv_iconst (v := 0) hx hb dX7_isWidth_19 (by decide) ?_
    exact W.zret (v := b2i false) hx hb hr (b2i_nar _) (fun t ht hW => ⟨b2i false, rfl, congrArg b2i (Option.some.inj h), ht⟩) (fun q hq => by cases hq) dX7_isWidth_20
  · have h := it_n c_1 h
    refine lv_iload_n hx hb dX7_isWidth_4 rfl (lv_at hl 1 rfl) ?_
    refine lv_aload_n hx hb dX7_isWidth_5 rfl (lv_at hl 0 rfl) ?_
    refine va_get (D := (dC, dI)) (ci := 6) (v := .ref aRn) (C := RX7) (T := TX7) (N := 6) hx hb hts (fun _ h => List.mem_cons_of_mem _ (List.mem_append_left _ (List.mem_append_right _ h))) hown hK hP 0 rfl rfl 0 (by decide) (hts (.fieldLink RX7 10 "SlateRows" "now" "LSlateRows$Roof;") (by decide +kernel)) (fun _ h9 => h9) rfl dX7_isWidth_6 ?_
    refine va_get (D := (dC, dI)) (ci := 3) (v := .int Rn_widths) (C := RX3) (T := TX3) (N := 9) hx hb hts (fun _ h => List.mem_cons_of_mem _ (List.mem_append_right _ h)) hown hK hP 1 rfl rfl 6 (by decide) (hts (.fieldLink RX7 213 "SlateRows$Roof" "widths" "I") (by decide +kernel)) (fun _ h9 => h9) rfl dX7_isWidth_9 ?_
    refine lv_icmp_ge (tgt := 19) hx hb dX7_isWidth_12 (by decide) (fun c_2 => ?_) (fun c_2 => ?_)
    · have h := it_p c_2 h
      refine lv_iconst (v := 0) hx hb dX7_isWidth_19 (by decide) ?_
      exact W.zret (v := b2i false) hx hb hr (b2i_nar _) (fun t ht hW => ⟨b2i false, rfl, congrArg b2i (Option.some.inj h), ht⟩) (fun q hq => by cases hq) dX7_isWidth_20
    · have h := it_n c_2 h
      refine lv_iconst (v := 1) hx hb dX7_isWidth_15 (by decide) ?_
      refine lv_goto (tgt := 20) hx hb dX7_isWidth_16 (by decide) ?_
      exact W.zret (v := b2i true) hx hb hr (b2i_nar _) (fun t ht hW => ⟨b2i true, rfl, congrArg b2i (Option.some.inj h), ht⟩) (fun q hq => by cases hq) dX7_isWidth_20
def f_X7_refusalOfOpen (N : Nat) (Rn_laid : Nat → Int32) (Rn_rows : Int32) (x1 : Int32) (x2 : Int32) : Option (Int32) :=
  (f_X7_isRow N Rn_rows x1).bind fun r_1 => if (b2i r_1) = 0 then (some ((-1))) else (if x2 = 0 then (some ((-1))) else (ck (gi x1 6) (if (Rn_laid x1.toNatClampNeg) ≤ 0 then (some (0)) else (some ((-3))))))
set_option maxHeartbeats 4000000 in
set_option maxRecDepth 100000 in
theorem k_X7_refusalOfOpen (l : Launch) (dC : Nat → ClassId) (dI : Nat → Nat → Nat) (cI cZ cS : ClassId) (N : Nat) (aS aRn aRn_inches aRn_many aRn_worth aRn_lengths aRn_laid aRn_slates aKept aMind aShv : Nat) (S_isKept : Int32) (S_ways : Option Nat) (Rn_inches : Nat → Int32) (Rn_many : Nat → Int32) (Rn_worth : Nat → Int32) (Rn_lengths : Nat → Int32) (Rn_laid : Nat → Int32) (Rn_slates : Nat → Int32) (Rn_widths : Int32) (Rn_rows : Int32) (Rn_lap : Int32) (x1 : Int32) (x2 : Int32) (res : Int32) (h : f_X7_refusalOfOpen N Rn_laid Rn_rows x1 x2 = some res) : Met l yX7_refusalOfOpen wsX7_refusalOfOpen ({ frames := 1, cells := 0, slots := 0, locals := 21 }) (va_Pc [.ref aS, .int x1, .int x2] (wd (dC, dI) cI cZ cS [(aS, .inr (6, [.ref aRn, .ref aKept, .ref aMind, .ref aShv, .int S_isKept, va_rf S_ways])), (aRn, .inr (3, [.ref aRn_inches, .ref aRn_many, .ref aRn_worth, .ref aRn_lengths, .ref aRn_laid, .ref aRn_slates, .int Rn_widths, .int Rn_rows, .int Rn_lap])), (aRn_inches, .inl (cI, 4, .inl Rn_inches)), (aRn_many, .inl (cI, 4, .inl Rn_many)), (aRn_worth, .inl (cI, 4, .inl Rn_worth)), (aRn_lengths, .inl (cI, 6, .inl Rn_lengths)), (aRn_laid, .inl (cI, 6, .inl Rn_laid)), (aRn_slates, .inl (cI, 72, .inl Rn_slates))])) (vp_Si (fun r => r = res)) 0 0 (fun _ => False) := by
  refine Met.ofW (cc := cX7_refusalOfOpen) (maxL := 3) (ret := (some .int)) (by decide) rfl ?_
  intro p e s m args below meth c s₁ B hml hv
  obtain ⟨rfl, hP, hK, hD⟩ := hv
  have hx := B.exec
  have hb := B.bytes
  have hr := B.returns
  have hts := atoms_spec (ws := wsX7_refusalOfOpen) B.pre
  have hown : s.vm.findClass RX7 = some m.cls := findClass_of_methodNamed B.named
  have hlocks := B.notSynchronized
  have hl := lv_entry ([.ref aS, .int x1, .int x2]) (n := 3) (Nat.le_of_ble_eq_true rfl)
  rw [lg_entry_eq]
  generalize (lg_sl ([.ref aS, .int x1, .int x2]) ++ List.replicate (3 - (lg_sl ([.ref aS, .int x1, .int x2])).length) Slot.unset).toArray = ls at hl ⊢
  have hl : lv_has ls 3 [(0, .ref aS), (1, .int x1), (2, .int x2)] := hl
  unfold f_X7_refusalOfOpen at h
  refine lv_aload_n hx hb dX7_refusalOfOpen_0 rfl (lv_at hl 0 rfl) ?_
  refine lv_iload_n hx hb dX7_refusalOfOpen_1 rfl (lv_at hl 1 rfl) ?_
  obtain ⟨r_1, hg, h⟩ := bd_some h
  refine rdV (As := [.int x1]) (rest := []) (ci := 6) ⟨hx, hb, hml, hown, hts⟩ (k_X7_isRow l dC dI cI cZ cS N aS aRn aRn_inches aRn_many aRn_worth aRn_lengths aRn_laid aRn_slates aKept aMind aShv S_isKept S_ways Rn_inches Rn_many Rn_worth Rn_lengths Rn_laid Rn_slates Rn_widths Rn_rows Rn_lap x1 r_1 hg) (cwV 1 hts gX7_refusalOfOpen_X7_isRow rfl rfl rfl cd_X7_isRow ⟨Nat.le_of_ble_eq_true rfl, Nat.le_of_ble_eq_true rfl⟩) hP hD hK [0, 1, 2, 3, 4, 5, 6, 7] (by decide) rfl rfl rfl rfl hl.1 rfl (Nat.le_of_ble_eq_true rfl) dX7_refusalOfOpen_2 ⟨Nat.zero_le _, Nat.zero_le _⟩ ?_
  refine lv_if_eq (tgt := 12) hx hb dX7_refusalOfOpen_5 (by decide) (fun c_2 => ?_) (fun c_2 => ?_)
  · have h := it_p c_2 h
    refine lv_iconst (v := (-1)) hx hb dX7_refusalOfOpen_12 (by decide) ?_
    exact W.iret hx hb hr (fun t ht hW => ⟨_, rfl, Option.some.inj h, ht⟩) (fun q hq => by cases hq) dX7_refusalOfOpen_13
  · have h := it_n c_2 h
    refine lv_iload_n hx hb dX7_refusalOfOpen_8 rfl (lv_at hl 2 rfl) ?_
    refine lv_if_ne (tgt := 14) hx hb dX7_refusalOfOpen_9 (by decide) (fun c_3 => ?_) (fun c_3 => ?_)
    · have h := it_n c_3 h
      refine lv_aload_n hx hb dX7_refusalOfOpen_14 rfl (lv_at hl 0 rfl) ?_
      refine va_get (D := (dC, dI)) (ci := 6) (v := .ref aRn) (C := RX7) (T := TX7) (N := 6) hx hb hts (fun _ h => List.mem_cons_of_mem _ (List.mem_append_left _ (List.mem_append_right _ h))) hown hK hP 0 rfl rfl 0 (by decide) (hts (.fieldLink RX7 10 "SlateRows" "now" "LSlateRows$Roof;") (by decide +kernel)) (fun _ h9 => h9) rfl dX7_refusalOfOpen_15 ?_
      refine va_get (D := (dC, dI)) (ci := 3) (v := .ref aRn_laid) (C := RX3) (T := TX3) (N := 9) hx hb hts (fun _ h => List.mem_cons_of_mem _ (List.mem_append_right _ h)) hown hK hP 1 rfl rfl 4 (by decide) (hts (.fieldLink RX7 83 "SlateRows$Roof" "laid" "[I") (by decide +kernel)) (fun _ h9 => h9) rfl dX7_refusalOfOpen_18 ?_
      refine lv_iload_n hx hb dX7_refusalOfOpen_21 rfl (lv_at hl 1 rfl) ?_
      obtain ⟨hi, h⟩ := ck_some h
      refine va_iald hx hb hK hP 6 0 rfl rfl (gi_in hi) dX7_refusalOfOpen_22 ?_
      refine lv_if_le (tgt := 31) hx hb dX7_refusalOfOpen_23 (by decide) (fun c_4 => ?_) (fun c_4 => ?_)
      · have h := it_p c_4 h
        refine lv_iconst (v := 0) hx hb dX7_refusalOfOpen_31 (by decide) ?_
        exact W.iret hx hb hr (fun t ht hW => ⟨_, rfl, Option.some.inj h, ht⟩) (fun q hq => by cases hq) dX7_refusalOfOpen_32
      · have h := it_n c_4 h
        refine lv_bipush (v := (-3)) hx hb dX7_refusalOfOpen_26 (by decide) ?_
        refine lv_goto (tgt := 32) hx hb dX7_refusalOfOpen_28 (by decide) ?_
        exact W.iret hx hb hr (fun t ht hW => ⟨_, rfl, Option.some.inj h, ht⟩) (fun q hq => by cases hq) dX7_refusalOfOpen_32
    · have h := it_p c_3 h
      refine lv_iconst (v := (-1)) hx hb dX7_refusalOfOpen_12 (by decide) ?_
      exact W.iret hx hb hr (fun t ht hW => ⟨_, rfl, Option.some.inj h, ht⟩) (fun q hq => by cases hq) dX7_refusalOfOpen_13
def f_X7_width (N : Nat) (Rn_inches : Nat → Int32) (Rn_many : Nat → Int32) (Rn_worth : Nat → Int32) (Rn_widths : Int32) (x1 : Int32) (x2 : Int32) : Option (Int32) :=
  (f_X7_isWidth N Rn_widths x1).bind fun r_1 => if (b2i r_1) = 0 then (some ((-1))) else (if x2 = 0 then (ck (gi x1 4) (some ((Rn_inches x1.toNatClampNeg)))) else (if x2 = 1 then (ck (gi x1 4) (some ((Rn_many x1.toNatClampNeg)))) else (if x2 = 2 then (ck (gi x1 4) (some ((Rn_worth x1.toNatClampNeg)))) else (some ((-1))))))
set_option maxHeartbeats 4000000 in
set_option maxRecDepth 100000 in
theorem k_X7_width (l : Launch) (dC : Nat → ClassId) (dI : Nat → Nat → Nat) (cI cZ cS : ClassId) (N : Nat) (aS aRn aRn_inches aRn_many aRn_worth aRn_lengths aRn_laid aRn_slates aKept aMind aShv : Nat) (S_isKept : Int32) (S_ways : Option Nat) (Rn_inches : Nat → Int32) (Rn_many : Nat → Int32) (Rn_worth : Nat → Int32) (Rn_lengths : Nat → Int32) (Rn_laid : Nat → Int32) (Rn_slates : Nat → Int32) (Rn_widths : Int32) (Rn_rows : Int32) (Rn_lap : Int32) (x1 : Int32) (x2 : Int32) (res : Int32) (h : f_X7_width N Rn_inches Rn_many Rn_worth Rn_widths x1 x2 = some res) : Met l yX7_width wsX7_width ({ frames := 1, cells := 0, slots := 0, locals := 21 }) (va_Pc [.ref aS, .int x1, .int x2] (wd (dC, dI) cI cZ cS [(aS, .inr (6, [.ref aRn, .ref aKept, .ref aMind, .ref aShv, .int S_isKept, va_rf S_ways])), (aRn, .inr (3, [.ref aRn_inches, .ref aRn_many, .ref aRn_worth, .ref aRn_lengths, .ref aRn_laid, .ref aRn_slates, .int Rn_widths, .int Rn_rows, .int Rn_lap])), (aRn_inches, .inl (cI, 4, .inl Rn_inches)), (aRn_many, .inl (cI, 4, .inl Rn_many)), (aRn_worth, .inl (cI, 4, .inl Rn_worth)), (aRn_lengths, .inl (cI, 6, .inl Rn_lengths)), (aRn_laid, .inl (cI, 6, .inl Rn_laid)), (aRn_slates, .inl (cI, 72, .inl Rn_slates))])) (vp_Si (fun r => r = res)) 0 0 (fun _ => False) := by
  refine Met.ofW (cc := cX7_width) (maxL := 3) (ret := (some .int)) (by decide) rfl ?_
  intro p e s m args below meth c s₁ B hml hv
  obtain ⟨rfl, hP, hK, hD⟩ := hv
  have hx := B.exec
  have hb := B.bytes
  have hr := B.returns
  have hts := atoms_spec (ws := wsX7_width) B.pre
  have hown : s.vm.findClass RX7 = some m.cls := findClass_of_methodNamed B.named
  have hlocks := B.notSynchronized
  have hl := lv_entry ([.ref aS, .int x1, .int x2]) (n := 3) (Nat.le_of_ble_eq_true rfl)
  rw [lg_entry_eq]
  generalize (lg_sl ([.ref aS, .int x1, .int x2]) ++ List.replicate (3 - (lg_sl ([.ref aS, .int x1, .int x2])).length) Slot.unset).toArray = ls at hl ⊢
  have hl : lv_has ls 3 [(0, .ref aS), (1, .int x1), (2, .int x2)] := hl
  unfold f_X7_width at h
  refine lv_aload_n hx hb dX7_width_0 rfl (lv_at hl 0 rfl) ?_
  refine lv_iload_n hx hb dX7_width_1 rfl (lv_at hl 1 rfl) ?_
  obtain ⟨r_1, hg, h⟩ := bd_some h
  refine rdV (As := [.int x1]) (rest := []) (ci := 6) ⟨hx, hb, hml, hown, hts⟩ (k_X7_isWidth l dC dI cI cZ cS N aS aRn aRn_inches aRn_many aRn_worth aRn_lengths aRn_laid aRn_slates aKept aMind aShv S_isKept S_ways Rn_inches Rn_many Rn_worth Rn_lengths Rn_laid Rn_slates Rn_widths Rn_rows Rn_lap x1 r_1 hg) (cwV 1 hts gX7_width_X7_isWidth rfl rfl rfl cd_X7_isWidth ⟨Nat.le_of_ble_eq_true rfl, Nat.le_of_ble_eq_true rfl⟩) hP hD hK [0, 1, 2, 3, 4, 5, 6, 7] (by decide) rfl rfl rfl rfl hl.1 rfl (Nat.le_of_ble_eq_true rfl) dX7_width_2 ⟨Nat.zero_le _, Nat.zero_le _⟩ ?_
  refine lv_if_ne (tgt := 10) hx hb dX7_width_5 (by decide) (fun c_2 => ?_) (fun c_2 => ?_)
  · have h := it_n c_2 h
    refine lv_iload_n hx hb dX7_width_10 rfl (lv_at hl 2 rfl) ?_
    by_cases c_3 : x2 = 0
    · have h := it_p c_3 h
      refine lv_tableIn (tgt := 36) hx hb dX7_width_11 (by rw [c_3]; decide) (by rw [c_3]; decide) (by rw [c_3]; rfl) (by decide) ?_
      refine lv_aload_n hx hb dX7_width_36 rfl (lv_at hl 0 rfl) ?_
      refine va_get (D := (dC, dI)) (ci := 6) (v := .ref aRn) (C := RX7) (T := TX7) (N := 6) hx hb hts (fun _ h => List.mem_cons_of_mem _ (List.mem_append_left _ (List.mem_append_right _ h))) hown hK hP 0 rfl rfl 0 (by decide) (hts (.fieldLink RX7 10 "SlateRows" "now" "LSlateRows$Roof;") (by decide +kernel)) (fun _ h9 => h9) rfl dX7_width_37 ?_
      refine va_get (D := (dC, dI)) (ci := 3) (v := .ref aRn_inches) (C := RX3) (T := TX3) (N := 9) hx hb hts (fun _ h => List.mem_cons_of_mem _ (List.mem_append_right _ h)) hown hK hP 1 rfl rfl 0 (by decide) (hts (.fieldLink RX7 64 "SlateRows$Roof" "inches" "[I") (by decide +kernel)) (fun _ h9 => h9) rfl dX7_width_40 ?_
      refine lv_iload_n hx hb dX7_width_43 rfl (lv_at hl 1 rfl) ?_
      obtain ⟨hi, h⟩ := ck_some h
      refine va_iald hx hb hK hP 2 0 rfl rfl (gi_in hi) dX7_width_44 ?_
      exact W.iret hx hb hr (fun t ht hW => ⟨_, rfl, Option.some.inj h, ht⟩) (fun q hq => by cases hq) dX7_width_45
    have h := it_n c_3 h
    by_cases c_4 : x2 = 1
    · have h := it_p c_4 h
      refine lv_tableIn (tgt := 46) hx hb dX7_width_11 (by rw [c_4]; decide) (by rw [c_4]; decide) (by rw [c_4]; rfl) (by decide) ?_
      refine lv_aload_n hx hb dX7_width_46 rfl (lv_at hl 0 rfl) ?_
      refine va_get (D := (dC, dI)) (ci := 6) (v := .ref aRn) (C := RX7) (T := TX7) (N := 6) hx hb hts (fun _ h => List.mem_cons_of_mem _ (List.mem_append_left _ (List.mem_append_right _ h))) hown hK hP 0 rfl rfl 0 (by decide) (hts (.fieldLink RX7 10 "SlateRows" "now" "LSlateRows$Roof;") (by decide +kernel)) (fun _ h9 => h9) rfl dX7_width_47 ?_
      refine va_get (D := (dC, dI)) (ci := 3) (v := .ref aRn_many) (C := RX3) (T := TX3) (N := 9) hx hb hts (fun _ h => List.mem_cons_of_mem _ (List.mem_append_right _ h)) hown hK hP 1 rfl rfl 1 (by decide) (hts (.fieldLink RX7 68 "SlateRows$Roof" "many" "[I") (by decide +kernel)) (fun _ h9 => h9) rfl dX7_width_50 ?_
      refine lv_iload_n hx hb dX7_width_53 rfl (lv_at hl 1 rfl) ?_
      obtain ⟨hi, h⟩ := ck_some h
      refine va_iald hx hb hK hP 3 0 rfl rfl (gi_in hi) dX7_width_54 ?_
      exact W.iret hx hb hr (fun t ht hW => ⟨_, rfl, Option.some.inj h, ht⟩) (fun q hq => by cases hq) dX7_width_55
    have h := it_n c_4 h
    by_cases c_5 : x2 = 2
    · have h := it_p c_5 h
      refine lv_tableIn (tgt := 56) hx hb dX7_width_11 (by rw [c_5]; decide) (by rw [c_5]; decide) (by rw [c_5]; rfl) (by decide) ?_
      refine lv_aload_n hx hb dX7_width_56 rfl (lv_at hl 0 rfl) ?_
      refine va_get (D := (dC, dI)) (ci := 6) (v := .ref aRn) (C := RX7) (T := TX7) (N := 6) hx hb hts (fun _ h => List.mem_cons_of_mem _ (List.mem_append_left _ (List.mem_append_right _ h))) hown hK hP 0 rfl rfl 0 (by decide) (hts (.fieldLink RX7 10 "SlateRows" "now" "LSlateRows$Roof;") (by decide +kernel)) (fun _ h9 => h9) rfl dX7_width_57 ?_
      refine va_get (D := (dC, dI)) (ci := 3) (v := .ref aRn_worth) (C := RX3) (T := TX3) (N := 9) hx hb hts (fun _ h => List.mem_cons_of_mem _ (List.mem_append_right _ h)) hown hK hP 1 rfl rfl 2 (by decide) (hts (.fieldLink RX7 71 "SlateRows$Roof" "worth" "[I") (by decide +kernel)) (fun _ h9 => h9) rfl dX7_width_60 ?_
      refine lv_iload_n hx hb dX7_width_63 rfl (lv_at hl 1 rfl) ?_
      obtain ⟨hi, h⟩ := ck_some h
      refine va_iald hx hb hK hP 4 0 rfl rfl (gi_in hi) dX7_width_64 ?_
      exact W.iret hx hb hr (fun t ht hW => ⟨_, rfl, Option.some.inj h, ht⟩) (fun q hq => by cases hq) dX7_width_65
    have h := it_n c_5 h
    refine lv_tableOut (tgt := 66) hx hb dX7_width_11 (by have qc_3 := lv_neT (a := 0) c_3 rfl; have qc_4 := lv_neT (a := 1) c_4 rfl; have qc_5 := lv_neT (a := 2) c_5 rfl; omega) (by decide) ?_
    refine lv_iconst (v := (-1)) hx hb dX7_width_66 (by decide) ?_
    exact W.iret hx hb hr (fun t ht hW => ⟨_, rfl, Option.some.inj h, ht⟩) (fun q hq => by cases hq) dX7_width_67
  · have h := it_p c_2 h
    refine lv_iconst (v := (-1)) hx hb dX7_width_8 (by decide) ?_
    exact W.iret hx hb hr (fun t ht hW => ⟨_, rfl, Option.some.inj h, ht⟩) (fun q hq => by cases hq) dX7_width_9
def f_X7_heap (N : Nat) (Rn_many : Nat → Int32) (Rn_widths : Int32) (x1 : Int32) (x2 : Int32) : Option (Int32 × (Nat → Int32)) :=
  (f_X7_isWidth N Rn_widths x1).bind fun r_1 => if (b2i r_1) = 0 then (some ((-1), Rn_many)) else (if x2 < 0 then (some ((-1), Rn_many)) else (if x2 ≤ 12 then (ck (gi x1 4) (ck (gi x1 4) (some ((Rn_many x1.toNatClampNeg), (upd Rn_many x1.toNatClampNeg x2))))) else (some ((-1), Rn_many))))
set_option maxHeartbeats 4000000 in
set_option maxRecDepth 100000 in
theorem k_X7_heap (l : Launch) (dC : Nat → ClassId) (dI : Nat → Nat → Nat) (cI cZ cS : ClassId) (N : Nat) (aS aRn aRn_inches aRn_many aRn_worth aRn_lengths aRn_laid aRn_slates aKept aMind aShv : Nat) (sz : Nat) (S_isKept : Int32) (S_ways : Option Nat) (Rn_inches : Nat → Int32) (Rn_many : Nat → Int32) (Rn_worth : Nat → Int32) (Rn_lengths : Nat → Int32) (Rn_laid : Nat → Int32) (Rn_slates : Nat → Int32) (Rn_widths : Int32) (Rn_rows : Int32) (Rn_lap : Int32) (x1 : Int32) (x2 : Int32) (res : Int32 × (Nat → Int32)) (h : f_X7_heap N Rn_many Rn_widths x1 x2 = some res) : Met l yX7_heap wsX7_heap ({ frames := 1, cells := 0, slots := 0, locals := 21 }) (va_Pc [.ref aS, .int x1, .int x2] (preW (dC, dI) cI cZ cS [(aS, .inr (6, [.ref aRn, .ref aKept, .ref aMind, .ref aShv, .int S_isKept, va_rf S_ways])), (aRn, .inr (3, [.ref aRn_inches, .ref aRn_many, .ref aRn_worth, .ref aRn_lengths, .ref aRn_laid, .ref aRn_slates, .int Rn_widths, .int Rn_rows, .int Rn_lap])), (aRn_inches, .inl (cI, 4, .inl Rn_inches)), (aRn_many, .inl (cI, 4, .inl Rn_many)), (aRn_worth, .inl (cI, 4, .inl Rn_worth)), (aRn_lengths, .inl (cI, 6, .inl Rn_lengths)), (aRn_laid, .inl (cI, 6, .inl Rn_laid)), (aRn_slates, .inl (cI, 72, .inl Rn_slates))] sz)) (va_Qi (fun (r : Int32) (_ : Unit) => r = res.1) (fun _ => qW (dC, dI) cI cZ cS (va_A [(aS, .inr (6, [.ref aRn, .ref aKept, .ref aMind, .ref aShv, .int S_isKept, va_rf S_ways])), (aRn, .inr (3, [.ref aRn_inches, .ref aRn_many, .ref aRn_worth, .ref aRn_lengths, .ref aRn_laid, .ref aRn_slates, .int Rn_widths, .int Rn_rows, .int Rn_lap])), (aRn_inches, .inl (cI, 4, .inl Rn_inches)), (aRn_many, .inl (cI, 4, .inl Rn_many)), (aRn_worth, .inl (cI, 4, .inl Rn_worth)), (aRn_lengths, .inl (cI, 6, .inl Rn_lengths)), (aRn_laid, .inl (cI, 6, .inl Rn_laid)), (aRn_slates, .inl (cI, 72, .inl Rn_slates))] sz) [(aS, .inr (6, [.ref aRn, .ref aKept, .ref aMind, .ref aShv, .int S_isKept, va_rf S_ways])), (aRn, .inr (3, [.ref aRn_inches, .ref aRn_many, .ref aRn_worth, .ref aRn_lengths, .ref aRn_laid, .ref aRn_slates, .int Rn_widths, .int Rn_rows, .int Rn_lap])), (aRn_inches, .inl (cI, 4, .inl Rn_inches)), (aRn_many, .inl (cI, 4, .inl res.2)), (aRn_worth, .inl (cI, 4, .inl Rn_worth)), (aRn_lengths, .inl (cI, 6, .inl Rn_lengths)), (aRn_laid, .inl (cI, 6, .inl Rn_laid)), (aRn_slates, .inl (cI, 72, .inl Rn_slates))]) (va_A [(aS, .inr (6, [.ref aRn, .ref aKept, .ref aMind, .ref aShv, .int S_isKept, va_rf S_ways])), (aRn, .inr (3, [.ref aRn_inches, .ref aRn_many, .ref aRn_worth, .ref aRn_lengths, .ref aRn_laid, .ref aRn_slates, .int Rn_widths, .int Rn_rows, .int Rn_lap])), (aRn_inches, .inl (cI, 4, .inl Rn_inches)), (aRn_many, .inl (cI, 4, .inl Rn_many)), (aRn_worth, .inl (cI, 4, .inl Rn_worth)), (aRn_lengths, .inl (cI, 6, .inl Rn_lengths)), (aRn_laid, .inl (cI, 6, .inl Rn_laid)), (aRn_slates, .inl (cI, 72, .inl Rn_slates))] sz)) 0 0 (va_A [(aS, .inr (6, [.ref aRn, .ref aKept, .ref aMind, .ref aShv, .int S_isKept, va_rf S_ways])), (aRn, .inr (3, [.ref aRn_inches, .ref aRn_many, .ref aRn_worth, .ref aRn_lengths, .ref aRn_laid, .ref aRn_slates, .int Rn_widths, .int Rn_rows, .int Rn_lap])), (aRn_inches, .inl (cI, 4, .inl Rn_inches)), (aRn_many, .inl (cI, 4, .inl Rn_many)), (aRn_worth, .inl (cI, 4, .inl Rn_worth)), (aRn_lengths, .inl (cI, 6, .inl Rn_lengths)), (aRn_laid, .inl (cI, 6, .inl Rn_laid)), (aRn_slates, .inl (cI, 72, .inl Rn_slates))] sz) := by
  refine Met.ofW (cc := cX7_heap) (maxL := 4) (ret := (some .int)) (by decide) rfl ?_
  intro p e s m args below meth c s₁ B hml hv
  obtain ⟨rfl, hsz, hP, hK, hD0⟩ := hv
  have hx := B.exec
  have hb := B.bytes
  have hr := B.returns
  have hts := atoms_spec (ws := wsX7_heap) B.pre
  have hown : s.vm.findClass RX7 = some m.cls := findClass_of_methodNamed B.named
  have hlocks := B.notSynchronized
  subst hsz
  have hD := hD0.self (sz := s.heap.size)
  generalize hAe : va_A [(aS, .inr (6, [.ref aRn, .ref aKept, .ref aMind, .ref aShv, .int S_isKept, va_rf S_ways])), (aRn, .inr (3, [.ref aRn_inches, .ref aRn_many, .ref aRn_worth, .ref aRn_lengths, .ref aRn_laid, .ref aRn_slates, .int Rn_widths, .int Rn_rows, .int Rn_lap])), (aRn_inches, .inl (cI, 4, .inl Rn_inches)), (aRn_many, .inl (cI, 4, .inl Rn_many)), (aRn_worth, .inl (cI, 4, .inl Rn_worth)), (aRn_lengths, .inl (cI, 6, .inl Rn_lengths)), (aRn_laid, .inl (cI, 6, .inl Rn_laid)), (aRn_slates, .inl (cI, 72, .inl Rn_slates))] s.heap.size = A at hD ⊢
  have hA : ∀ q : Nat, s.heap.size ≤ q → A q := fun q h => by rw [← hAe]; exact Or.inr h
  have hS : va_S A s.heap s.heap [] := va_S.rf
  have hl := lv_entry ([.ref aS, .int x1, .int x2]) (n := 4) (Nat.le_of_ble_eq_true rfl)
  rw [lg_entry_eq]
  generalize (lg_sl ([.ref aS, .int x1, .int x2]) ++ List.replicate (4 - (lg_sl ([.ref aS, .int x1, .int x2])).length) Slot.unset).toArray = ls at hl ⊢
  have hl : lv_has ls 4 [(0, .ref aS), (1, .int x1), (2, .int x2)] := hl
  unfold f_X7_heap at h
  refine lv_aload_n hx hb dX7_heap_0 rfl (lv_at hl 0 rfl) ?_
  refine lv_iload_n hx hb dX7_heap_1 rfl (lv_at hl 1 rfl) ?_
  obtain ⟨r_1, hg, h⟩ := bd_some h
  refine rdV (As := [.int x1]) (rest := []) (ci := 6) ⟨hx, hb, hml, hown, hts⟩ (k_X7_isWidth l dC dI cI cZ cS N aS aRn aRn_inches aRn_many aRn_worth aRn_lengths aRn_laid aRn_slates aKept aMind aShv S_isKept S_ways Rn_inches Rn_many Rn_worth Rn_lengths Rn_laid Rn_slates Rn_widths Rn_rows Rn_lap x1 r_1 hg) (cwV 1 hts gX7_heap_X7_isWidth rfl rfl rfl cd_X7_isWidth ⟨Nat.le_of_ble_eq_true rfl, Nat.le_of_ble_eq_true rfl⟩) hP hD hK [0, 1, 2, 3, 4, 5, 6, 7] (by decide) rfl rfl rfl rfl hl.1 rfl (Nat.le_of_ble_eq_true rfl) dX7_heap_2 ⟨Nat.zero_le _, Nat.zero_le _⟩ ?_
  refine lv_if_eq (tgt := 18) hx hb dX7_heap_5 (by decide) (fun c_2 => ?_) (fun c_2 => ?_)
  · have h := it_p c_2 h
    refine lv_iconst (v := (-1)) hx hb dX7_heap_18 (by decide) ?_
    have h := Option.some.inj h
    exact W.iret hx hb hr (fun t ht hW => ⟨⟨_, (), rfl, by rw [← h], by (try rw [← h]); rw [ht]; exact hP, va_K.moved hW.alike hK, by (try rw [← h]); exact hD⟩, hS.F ht⟩) hS.2.2 dX7_heap_19
  · have h := it_n c_2 h
    refine lv_iload_n hx hb dX7_heap_8 rfl (lv_at hl 2 rfl) ?_
    refine lv_if_lt (tgt := 18) hx hb dX7_heap_9 (by decide) (fun c_3 => ?_) (fun c_3 => ?_)
    · have h := it_p c_3 h
      refine lv_iconst (v := (-1)) hx hb dX7_heap_18 (by decide) ?_
      have h := Option.some.inj h
      exact W.iret hx hb hr (fun t ht hW => ⟨⟨_, (), rfl, by rw [← h], by (try rw [← h]); rw [ht]; exact hP, va_K.moved hW.alike hK, by (try rw [← h]); exact hD⟩, hS.F ht⟩) hS.2.2 dX7_heap_19
    · have h := it_n c_3 h
      refine lv_iload_n hx hb dX7_heap_12 rfl (lv_at hl 2 rfl) ?_
      refine lv_bipush (v := 12) hx hb dX7_heap_13 (by decide) ?_
      refine lv_icmp_le (tgt := 20) hx hb dX7_heap_15 (by decide) (fun c_4 => ?_) (fun c_4 => ?_)
      · have h := it_p c_4 h
        refine lv_aload_n hx hb dX7_heap_20 rfl (lv_at hl 0 rfl) ?_
        refine va_get (D := (dC, dI)) (ci := 6) (v := .ref aRn) (C := RX7) (T := TX7) (N := 6) hx hb hts (fun _ h => List.mem_cons_of_mem _ (List.mem_append_left _ (List.mem_append_right _ h))) hown hK hP 0 rfl rfl 0 (by decide) (hts (.fieldLink RX7 10 "SlateRows" "now" "LSlateRows$Roof;") (by decide +kernel)) (fun _ h9 => h9) rfl dX7_heap_21 ?_
        refine va_get (D := (dC, dI)) (ci := 3) (v := .ref aRn_many) (C := RX3) (T := TX3) (N := 9) hx hb hts (fun _ h => List.mem_cons_of_mem _ (List.mem_append_right _ h)) hown hK hP 1 rfl rfl 1 (by decide) (hts (.fieldLink RX7 68 "SlateRows$Roof" "many" "[I") (by decide +kernel)) (fun _ h9 => h9) rfl dX7_heap_24 ?_
        refine lv_iload_n hx hb dX7_heap_27 rfl (lv_at hl 1 rfl) ?_
        obtain ⟨hi, h⟩ := ck_some h
        refine va_iald hx hb hK hP 3 0 rfl rfl (gi_in hi) dX7_heap_28 ?_
        refine lv_istore_n (lv' := [(3, .int (Rn_many x1.toNatClampNeg)), (0, .ref aS), (1, .int x1), (2, .int x2)]) hx hb dX7_heap_29 rfl hl (by decide) rfl (fun ls hl => ?_)
        refine lv_aload_n hx hb dX7_heap_30 rfl (lv_at hl 1 rfl) ?_
        refine va_get (D := (dC, dI)) (ci := 6) (v := .ref aRn) (C := RX7) (T := TX7) (N := 6) hx hb hts (fun _ h => List.mem_cons_of_mem _ (List.mem_append_left _ (List.mem_append_right _ h))) hown hK hP 0 rfl rfl 0 (by decide) (hts (.fieldLink RX7 10 "SlateRows" "now" "LSlateRows$Roof;") (by decide +kernel)) (fun _ h9 => h9) rfl dX7_heap_31 ?_
        refine va_get (D := (dC, dI)) (ci := 3) (v := .ref aRn_many) (C := RX3) (T := TX3) (N := 9) hx hb hts (fun _ h => List.mem_cons_of_mem _ (List.mem_append_right _ h)) hown hK hP 1 rfl rfl 1 (by decide) (hts (.fieldLink RX7 68 "SlateRows$Roof" "many" "[I") (by decide +kernel)) (fun _ h9 => h9) rfl dX7_heap_34 ?_
        refine lv_iload_n hx hb dX7_heap_37 rfl (lv_at hl 2 rfl) ?_
        refine lv_iload_n hx hb dX7_heap_38 rfl (lv_at hl 3 rfl) ?_
        obtain ⟨hi, h⟩ := ck_some h
        refine va_iast hx hb hK hP hD hS 3 0 rfl rfl (gi_in hi) dX7_heap_39 (fun H locs hP hD hS => ?_)
        have hP : va_P (dC, dI) vwCl [(aS, .inr (6, [.ref aRn, .ref aKept, .ref aMind, .ref aShv, .int S_isKept, va_rf S_ways])), (aRn, .inr (3, [.ref aRn_inches, .ref aRn_many, .ref aRn_worth, .ref aRn_lengths, .ref aRn_laid, .ref aRn_slates, .int Rn_widths, .int Rn_rows, .int Rn_lap])), (aRn_inches, .inl (cI, 4, .inl Rn_inches)), (aRn_many, .inl (cI, 4, .inl (upd Rn_many x1.toNatClampNeg x2))), (aRn_worth, .inl (cI, 4, .inl Rn_worth)), (aRn_lengths, .inl (cI, 6, .inl Rn_lengths)), (aRn_laid, .inl (cI, 6, .inl Rn_laid)), (aRn_slates, .inl (cI, 72, .inl Rn_slates))] H := hP
        have hD : va_D A [(aS, .inr (6, [.ref aRn, .ref aKept, .ref aMind, .ref aShv, .int S_isKept, va_rf S_ways])), (aRn, .inr (3, [.ref aRn_inches, .ref aRn_many, .ref aRn_worth, .ref aRn_lengths, .ref aRn_laid, .ref aRn_slates, .int Rn_widths, .int Rn_rows, .int Rn_lap])), (aRn_inches, .inl (cI, 4, .inl Rn_inches)), (aRn_many, .inl (cI, 4, .inl (upd Rn_many x1.toNatClampNeg x2))), (aRn_worth, .inl (cI, 4, .inl Rn_worth)), (aRn_lengths, .inl (cI, 6, .inl Rn_lengths)), (aRn_laid, .inl (cI, 6, .inl Rn_laid)), (aRn_slates, .inl (cI, 72, .inl Rn_slates))] := hD
        refine lv_iload_n hx hb dX7_heap_40 rfl (lv_at hl 0 rfl) ?_
        have h := Option.some.inj h
        exact W.iret hx hb hr (fun t ht hW => ⟨⟨_, (), rfl, by rw [← h], by (try rw [← h]); rw [ht]; exact hP, va_K.moved hW.alike hK, by (try rw [← h]); exact hD⟩, hS.F ht⟩) hS.2.2 dX7_heap_41
      · have h := it_n c_4 h
        refine lv_iconst (v := (-1)) hx hb dX7_heap_18 (by decide) ?_
        have h := Option.some.inj h
        exact W.iret hx hb hr (fun t ht hW => ⟨⟨_, (), rfl, by rw [← h], by (try rw [← h]); rw [ht]; exact hP, va_K.moved hW.alike hK, by (try rw [← h]); exact hD⟩, hS.F ht⟩) hS.2.2 dX7_heap_19
def f_X7_lap (N : Nat) (Rn_lap : Int32) (x1 : Int32) : Option (Int32 × Int32) :=
  if x1 < 0 then (some ((-1), Rn_lap)) else (if x1 ≤ 20 then (some (Rn_lap, x1)) else (some ((-1), Rn_lap)))
set_option maxHeartbeats 4000000 in
set_option maxRecDepth 100000 in
theorem k_X7_lap (l : Launch) (dC : Nat → ClassId) (dI : Nat → Nat → Nat) (cI cZ cS : ClassId) (N : Nat) (aS aRn aRn_inches aRn_many aRn_worth aRn_lengths aRn_laid aRn_slates aKept aMind aShv : Nat) (sz : Nat) (S_isKept : Int32) (S_ways : Option Nat) (Rn_inches : Nat → Int32) (Rn_many : Nat → Int32) (Rn_worth : Nat → Int32) (Rn_lengths : Nat → Int32) (Rn_laid : Nat → Int32) (Rn_slates : Nat → Int32) (Rn_widths : Int32) (Rn_rows : Int32) (Rn_lap : Int32) (x1 : Int32) (res : Int32 × Int32) (h : f_X7_lap N Rn_lap x1 = some res) : Met l yX7_lap wsX7_lap ({ frames := 0, cells := 0, slots := 0, locals := 0 }) (va_Pc [.ref aS, .int x1] (preW (dC, dI) cI cZ cS [(aS, .inr (6, [.ref aRn, .ref aKept, .ref aMind, .ref aShv, .int S_isKept, va_rf S_ways])), (aRn, .inr (3, [.ref aRn_inches, .ref aRn_many, .ref aRn_worth, .ref aRn_lengths, .ref aRn_laid, .ref aRn_slates, .int Rn_widths, .int Rn_rows, .int Rn_lap])), (aRn_inches, .inl (cI, 4, .inl Rn_inches)), (aRn_many, .inl (cI, 4, .inl Rn_many)), (aRn_worth, .inl (cI, 4, .inl Rn_worth)), (aRn_lengths, .inl (cI, 6, .inl Rn_lengths)), (aRn_laid, .inl (cI, 6, .inl Rn_laid)), (aRn_slates, .inl (cI, 72, .inl Rn_slates))] sz)) (va_Qi (fun (r : Int32) (_ : Unit) => r = res.1) (fun _ => qW (dC, dI) cI cZ cS (va_A [(aS, .inr (6, [.ref aRn, .ref aKept, .ref aMind, .ref aShv, .int S_isKept, va_rf S_ways])), (aRn, .inr (3, [.ref aRn_inches, .ref aRn_many, .ref aRn_worth, .ref aRn_lengths, .ref aRn_laid, .ref aRn_slates, .int Rn_widths, .int Rn_rows, .int Rn_lap])), (aRn_inches, .inl (cI, 4, .inl Rn_inches)), (aRn_many, .inl (cI, 4, .inl Rn_many)), (aRn_worth, .inl (cI, 4, .inl Rn_worth)), (aRn_lengths, .inl (cI, 6, .inl Rn_lengths)), (aRn_laid, .inl (cI, 6, .inl Rn_laid)), (aRn_slates, .inl (cI, 72, .inl Rn_slates))] sz) [(aS, .inr (6, [.ref aRn, .ref aKept, .ref aMind, .ref aShv, .int S_isKept, va_rf S_ways])), (aRn, .inr (3, [.ref aRn_inches, .ref aRn_many, .ref aRn_worth, .ref aRn_lengths, .ref aRn_laid, .ref aRn_slates, .int Rn_widths, .int Rn_rows, .int res.2])), (aRn_inches, .inl (cI, 4, .inl Rn_inches)), (aRn_many, .inl (cI, 4, .inl Rn_many)), (aRn_worth, .inl (cI, 4, .inl Rn_worth)), (aRn_lengths, .inl (cI, 6, .inl Rn_lengths)), (aRn_laid, .inl (cI, 6, .inl Rn_laid)), (aRn_slates, .inl (cI, 72, .inl Rn_slates))]) (va_A [(aS, .inr (6, [.ref aRn, .ref aKept, .ref aMind, .ref aShv, .int S_isKept, va_rf S_ways])), (aRn, .inr (3, [.ref aRn_inches, .ref aRn_many, .ref aRn_worth, .ref aRn_lengths, .ref aRn_laid, .ref aRn_slates, .int Rn_widths, .int Rn_rows, .int Rn_lap])), (aRn_inches, .inl (cI, 4, .inl Rn_inches)), (aRn_many, .inl (cI, 4, .inl Rn_many)), (aRn_worth, .inl (cI, 4, .inl Rn_worth)), (aRn_lengths, .inl (cI, 6, .inl Rn_lengths)), (aRn_laid, .inl (cI, 6, .inl Rn_laid)), (aRn_slates, .inl (cI, 72, .inl Rn_slates))] sz)) 0 0 (va_A [(aS, .inr (6, [.ref aRn, .ref aKept, .ref aMind, .ref aShv, .int S_isKept, va_rf S_ways])), (aRn, .inr (3, [.ref aRn_inches, .ref aRn_many, .ref aRn_worth, .ref aRn_lengths, .ref aRn_laid, .ref aRn_slates, .int Rn_widths, .int Rn_rows, .int Rn_lap])), (aRn_inches, .inl (cI, 4, .inl Rn_inches)), (aRn_many, .inl (cI, 4, .inl Rn_many)), (aRn_worth, .inl (cI, 4, .inl Rn_worth)), (aRn_lengths, .inl (cI, 6, .inl Rn_lengths)), (aRn_laid, .inl (cI, 6, .inl Rn_laid)), (aRn_slates, .inl (cI, 72, .inl Rn_slates))] sz) := by
  refine Met.ofW (cc := cX7_lap) (maxL := 3) (ret := (some .int)) (by decide) rfl ?_
  intro p e s m args below meth c s₁ B hml hv
  obtain ⟨rfl, hsz, hP, hK, hD0⟩ := hv
  have hx := B.exec
  have hb := B.bytes
  have hr := B.returns
  have hts := atoms_spec (ws := wsX7_lap) B.pre
  have hown : s.vm.findClass RX7 = some m.cls := findClass_of_methodNamed B.named
  have hlocks := B.notSynchronized
  subst hsz
  have hD := hD0.self (sz := s.heap.size)
  generalize hAe : va_A [(aS, .inr (6, [.ref aRn, .ref aKept, .ref aMind, .ref aShv, .int S_isKept, va_rf S_ways])), (aRn, .inr (3, [.ref aRn_inches, .ref aRn_many, .ref aRn_worth, .ref aRn_lengths, .ref aRn_laid, .ref aRn_slates, .int Rn_widths, .int Rn_rows, .int Rn_lap])), (aRn_inches, .inl (cI, 4, .inl Rn_inches)), (aRn_many, .inl (cI, 4, .inl Rn_many)), (aRn_worth, .inl (cI, 4, .inl Rn_worth)), (aRn_lengths, .inl (cI, 6, .inl Rn_lengths)), (aRn_laid, .inl (cI, 6, .inl Rn_laid)), (aRn_slates, .inl (cI, 72, .inl Rn_slates))] s.heap.size = A at hD ⊢
  have hA : ∀ q : Nat, s.heap.size ≤ q → A q := fun q h => by rw [← hAe]; exact Or.inr h
  have hS : va_S A s.heap s.heap [] := va_S.rf
  have hl := lv_entry ([.ref aS, .int x1]) (n := 3) (Nat.le_of_ble_eq_true rfl)
  rw [lg_entry_eq]
  generalize (lg_sl ([.ref aS, .int x1]) ++ List.replicate (3 - (lg_sl ([.ref aS, .int x1])).length) Slot.unset).toArray = ls at hl ⊢
  have hl : lv_has ls 3 [(0, .ref aS), (1, .int x1)] := hl
  unfold f_X7_lap at h
  refine lv_iload_n hx hb dX7_lap_0 rfl (lv_at hl 1 rfl) ?_
  refine lv_if_lt (tgt := 10) hx hb dX7_lap_1 (by decide) (fun c_1 => ?_) (fun c_1 => ?_)
  · have h := it_p c_1 h
    refine lv_iconst (v := (-1)) hx hb dX7_lap_10 (by decide) ?_
    have h := Option.some.inj h
    exact W.iret hx hb hr (fun t ht hW => ⟨⟨_, (), rfl, by rw [← h], by (try rw [← h]); rw [ht]; exact hP, va_K.moved hW.alike hK, by (try rw [← h]); exact hD⟩, hS.F ht⟩) hS.2.2 dX7_lap_11
  · have h := it_n c_1 h
    refine lv_iload_n hx hb dX7_lap_4 rfl (lv_at hl 1 rfl) ?_
    refine lv_bipush (v := 20) hx hb dX7_lap_5 (by decide) ?_
    refine lv_icmp_le (tgt := 12) hx hb dX7_lap_7 (by decide) (fun c_2 => ?_) (fun c_2 => ?_)
    · have h := it_p c_2 h
      refine lv_aload_n hx hb dX7_lap_12 rfl (lv_at hl 0 rfl) ?_
      refine va_get (D := (dC, dI)) (ci := 6) (v := .ref aRn) (C := RX7) (T := TX7) (N := 6) hx hb hts (fun _ h => List.mem_cons_of_mem _ (List.mem_append_left _ (List.mem_append_right _ h))) hown hK hP 0 rfl rfl 0 (by decide) (hts (.fieldLink RX7 10 "SlateRows" "now" "LSlateRows$Roof;") (by decide +kernel)) (fun _ h9 => h9) rfl dX7_lap_13 ?_
      refine va_get (D := (dC, dI)) (ci := 3) (v := .int Rn_lap) (C := RX3) (T := TX3) (N := 9) hx hb hts (fun _ h => List.mem_cons_of_mem _ (List.mem_append_right _ h)) hown hK hP 1 rfl rfl 8 (by decide) (hts (.fieldLink RX7 74 "SlateRows$Roof" "lap" "I") (by decide +kernel)) (fun _ h9 => h9) rfl dX7_lap_16 ?_
      refine lv_istore_n (lv' := [(2, .int Rn_lap), (0, .ref aS), (1, .int x1)]) hx hb dX7_lap_19 rfl hl (by decide) rfl (fun ls hl => ?_)
      refine lv_aload_n hx hb dX7_lap_20 rfl (lv_at hl 1 rfl) ?_
      refine va_get (D := (dC, dI)) (ci := 6) (v := .ref aRn) (C := RX7) (T := TX7) (N := 6) hx hb hts (fun _ h => List.mem_cons_of_mem _ (List.mem_append_left _ (List.mem_append_right _ h))) hown hK hP 0 rfl rfl 0 (by decide) (hts (.fieldLink RX7 10 "SlateRows" "now" "LSlateRows$Roof;") (by decide +kernel)) (fun _ h9 => h9) rfl dX7_lap_21 ?_
      refine lv_iload_n hx hb dX7_lap_24 rfl (lv_at hl 2 rfl) ?_
      refine va_put (D := (dC, dI)) (ci := 3) (v := .int x1) (ty := .int) (C := RX3) (T := TX3) (N := 9) hx hb hts (fun _ h => List.mem_cons_of_mem _ (List.mem_append_right _ h)) tyX3 tyX3_ok nmX3 hown hK hP hD hS 1 rfl rfl 8 (by decide) (hts (.fieldLink RX7 74 "SlateRows$Roof" "lap" "I") (by decide +kernel)) (fun _ h9 => h9) rfl (by decide +kernel) rfl rfl (Nat.le_of_ble_eq_true rfl) dX7_lap_25 (fun H locs hP hD hS => ?_)
      have hP : va_P (dC, dI) vwCl [(aS, .inr (6, [.ref aRn, .ref aKept, .ref aMind, .ref aShv, .int S_isKept, va_rf S_ways])), (aRn, .inr (3, [.ref aRn_inches, .ref aRn_many, .ref aRn_worth, .ref aRn_lengths, .ref aRn_laid, .ref aRn_slates, .int Rn_widths, .int Rn_rows, .int x1])), (aRn_inches, .inl (cI, 4, .inl Rn_inches)), (aRn_many, .inl (cI, 4, .inl Rn_many)), (aRn_worth, .inl (cI, 4, .inl Rn_worth)), (aRn_lengths, .inl (cI, 6, .inl Rn_lengths)), (aRn_laid, .inl (cI, 6, .inl Rn_laid)), (aRn_slates, .inl (cI, 72, .inl Rn_slates))] H := hP
      have hD : va_D A [(aS, .inr (6, [.ref aRn, .ref aKept, .ref aMind, .ref aShv, .int S_isKept, va_rf S_ways])), (aRn, .inr (3, [.ref aRn_inches, .ref aRn_many, .ref aRn_worth, .ref aRn_lengths, .ref aRn_laid, .ref aRn_slates, .int Rn_widths, .int Rn_rows, .int x1])), (aRn_inches, .inl (cI, 4, .inl Rn_inches)), (aRn_many, .inl (cI, 4, .inl Rn_many)), (aRn_worth, .inl (cI, 4, .inl Rn_worth)), (aRn_lengths, .inl (cI, 6, .inl Rn_lengths)), (aRn_laid, .inl (cI, 6, .inl Rn_laid)), (aRn_slates, .inl (cI, 72, .inl Rn_slates))] := hD
      refine lv_iload_n hx hb dX7_lap_28 rfl (lv_at hl 0 rfl) ?_
      have h := Option.some.inj h
      exact W.iret hx hb hr (fun t ht hW => ⟨⟨_, (), rfl, by rw [← h], by (try rw [← h]); rw [ht]; exact hP, va_K.moved hW.alike hK, by (try rw [← h]); exact hD⟩, hS.F ht⟩) hS.2.2 dX7_lap_29
    · have h := it_n c_2 h
      refine lv_iconst (v := (-1)) hx hb dX7_lap_10 (by decide) ?_
      have h := Option.some.inj h
      exact W.iret hx hb hr (fun t ht hW => ⟨⟨_, (), rfl, by rw [← h], by (try rw [← h]); rw [ht]; exact hP, va_K.moved hW.alike hK, by (try rw [← h]); exact hD⟩, hS.F ht⟩) hS.2.2 dX7_lap_11
def f_X7_rowOf (N : Nat) (Rn_inches : Nat → Int32) (Rn_lengths : Nat → Int32) (Rn_laid : Nat → Int32) (Rn_slates : Nat → Int32) (Rn_rows : Int32) (x1 : Int32) (x2 : Int32) : Option (Int32) :=
  (f_X7_isRow N Rn_rows x1).bind fun r_1 => if (b2i r_1) = 0 then (some ((-1))) else (if x2 = 0 then (ck (gi x1 6) (some ((Rn_lengths x1.toNatClampNeg)))) else (if x2 = 1 then (ck (gi x1 6) (some ((Rn_laid x1.toNatClampNeg)))) else (if x2 = 2 then ((f_X3_cutOf N Rn_inches Rn_lengths Rn_laid Rn_slates x1).bind fun r_6 => some (r_6)) else (some ((-1))))))
set_option maxHeartbeats 4000000 in
set_option maxRecDepth 100000 in
theorem k_X7_rowOf (l : Launch) (dC : Nat → ClassId) (dI : Nat → Nat → Nat) (cI cZ cS : ClassId) (N : Nat) (aS aRn aRn_inches aRn_many aRn_worth aRn_lengths aRn_laid aRn_slates aKept aMind aShv : Nat) (S_isKept : Int32) (S_ways : Option Nat) (Rn_inches : Nat → Int32) (Rn_many : Nat → Int32) (Rn_worth : Nat → Int32) (Rn_lengths : Nat → Int32) (Rn_laid : Nat → Int32) (Rn_slates : Nat → Int32) (Rn_widths : Int32) (Rn_rows : Int32) (Rn_lap : Int32) (x1 : Int32) (x2 : Int32) (res : Int32) (h : f_X7_rowOf N Rn_inches Rn_lengths Rn_laid Rn_slates Rn_rows x1 x2 = some res) : Met l yX7_rowOf wsX7_rowOf ({ frames := 3, cells := 0, slots := 0, locals := 67 }) (va_Pc [.ref aS, .int x1, .int x2] (wd (dC, dI) cI cZ cS [(aS, .inr (6, [.ref aRn, .ref aKept, .ref aMind, .ref aShv, .int S_isKept, va_rf S_ways])), (aRn, .inr (3, [.ref aRn_inches, .ref aRn_many, .ref aRn_worth, .ref aRn_lengths, .ref aRn_laid, .ref aRn_slates, .int Rn_widths, .int Rn_rows, .int Rn_lap])), (aRn_inches, .inl (cI, 4, .inl Rn_inches)), (aRn_many, .inl (cI, 4, .inl Rn_many)), (aRn_worth, .inl (cI, 4, .inl Rn_worth)), (aRn_lengths, .inl (cI, 6, .inl Rn_lengths)), (aRn_laid, .inl (cI, 6, .inl Rn_laid)), (aRn_slates, .inl (cI, 72, .inl Rn_slates))])) (vp_Si (fun r => r = res)) 0 0 (fun _ => False) := by
  refine Met.ofW (cc := cX7_rowOf) (maxL := 3) (ret := (some .int)) (by decide) rfl ?_
  intro p e s m args below meth c s₁ B hml hv
  obtain ⟨rfl, hP, hK, hD⟩ := hv
  have hx := B.exec
  have hb := B.bytes
  have hr := B.returns
  have hts := atoms_spec (ws := wsX7_rowOf) B.pre
  have hown : s.vm.findClass RX7 = some m.cls := findClass_of_methodNamed B.named
  have hlocks := B.notSynchronized
  have hl := lv_entry ([.ref aS, .int x1, .int x2]) (n := 3) (Nat.le_of_ble_eq_true rfl)
  rw [lg_entry_eq]
  generalize (lg_sl ([.ref aS, .int x1, .int x2]) ++ List.replicate (3 - (lg_sl ([.ref aS, .int x1, .int x2])).length) Slot.unset).toArray = ls at hl ⊢
  have hl : lv_has ls 3 [(0, .ref aS), (1, .int x1), (2, .int x2)] := hl
  unfold f_X7_rowOf at h
  refine lv_aload_n hx hb dX7_rowOf_0 rfl (lv_at hl 0 rfl) ?_
  refine lv_iload_n hx hb dX7_rowOf_1 rfl (lv_at hl 1 rfl) ?_
  obtain ⟨r_1, hg, h⟩ := bd_some h
  refine rdV (As := [.int x1]) (rest := []) (ci := 6) ⟨hx, hb, hml, hown, hts⟩ (k_X7_isRow l dC dI cI cZ cS N aS aRn aRn_inches aRn_many aRn_worth aRn_lengths aRn_laid aRn_slates aKept aMind aShv S_isKept S_ways Rn_inches Rn_many Rn_worth Rn_lengths Rn_laid Rn_slates Rn_widths Rn_rows Rn_lap x1 r_1 hg) (cwV 1 hts gX7_rowOf_X7_isRow rfl rfl rfl cd_X7_isRow ⟨Nat.le_of_ble_eq_true rfl, Nat.le_of_ble_eq_true rfl⟩) hP hD hK [0, 1, 2, 3, 4, 5, 6, 7] (by decide) rfl rfl rfl rfl hl.1 rfl (Nat.le_of_ble_eq_true rfl) dX7_rowOf_2 ⟨Nat.zero_le _, Nat.zero_le _⟩ ?_
  refine lv_if_ne (tgt := 10) hx hb dX7_rowOf_5 (by decide) (fun c_2 => ?_) (fun c_2 => ?_)
  · have h := it_n c_2 h
    refine lv_iload_n hx hb dX7_rowOf_10 rfl (lv_at hl 2 rfl) ?_
    by_cases c_3 : x2 = 0
    · have h := it_p c_3 h
      refine lv_tableIn (tgt := 36) hx hb dX7_rowOf_11 (by rw [c_3]; decide) (by rw [c_3]; decide) (by rw [c_3]; rfl) (by decide) ?_
      refine lv_aload_n hx hb dX7_rowOf_36 rfl (lv_at hl 0 rfl) ?_
      refine va_get (D := (dC, dI)) (ci := 6) (v := .ref aRn) (C := RX7) (T := TX7) (N := 6) hx hb hts (fun _ h => List.mem_cons_of_mem _ (List.mem_append_left _ (List.mem_append_right _ h))) hown hK hP 0 rfl rfl 0 (by decide) (hts (.fieldLink RX7 10 "SlateRows" "now" "LSlateRows$Roof;") (by decide +kernel)) (fun _ h9 => h9) rfl dX7_rowOf_37 ?_
      refine va_get (D := (dC, dI)) (ci := 3) (v := .ref aRn_lengths) (C := RX3) (T := TX3) (N := 9) hx hb hts (fun _ h => List.mem_cons_of_mem _ (List.mem_append_right _ h)) hown hK hP 1 rfl rfl 3 (by decide) (hts (.fieldLink RX7 80 "SlateRows$Roof" "lengths" "[I") (by decide +kernel)) (fun _ h9 => h9) rfl dX7_rowOf_40 ?_
      refine lv_iload_n hx hb dX7_rowOf_43 rfl (lv_at hl 1 rfl) ?_
      obtain ⟨hi, h⟩ := ck_some h
      refine va_iald hx hb hK hP 5 0 rfl rfl (gi_in hi) dX7_rowOf_44 ?_
      exact W.iret hx hb hr (fun t ht hW => ⟨_, rfl, Option.some.inj h, ht⟩) (fun q hq => by cases hq) dX7_rowOf_45
    have h := it_n c_3 h
    by_cases c_4 : x2 = 1
    · have h := it_p c_4 h
      refine lv_tableIn (tgt := 46) hx hb dX7_rowOf_11 (by rw [c_4]; decide) (by rw [c_4]; decide) (by rw [c_4]; rfl) (by decide) ?_
      refine lv_aload_n hx hb dX7_rowOf_46 rfl (lv_at hl 0 rfl) ?_
      refine va_get (D := (dC, dI)) (ci := 6) (v := .ref aRn) (C := RX7) (T := TX7) (N := 6) hx hb hts (fun _ h => List.mem_cons_of_mem _ (List.mem_append_left _ (List.mem_append_right _ h))) hown hK hP 0 rfl rfl 0 (by decide) (hts (.fieldLink RX7 10 "SlateRows" "now" "LSlateRows$Roof;") (by decide +kernel)) (fun _ h9 => h9) rfl dX7_rowOf_47 ?_
      refine va_get (D := (dC, dI)) (ci := 3) (v := .ref aRn_laid) (C := RX3) (T := TX3) (N := 9) hx hb hts (fun _ h => List.mem_cons_of_mem _ (List.mem_append_right _ h)) hown hK hP 1 rfl rfl 4 (by decide) (hts (.fieldLink RX7 83 "SlateRows$Roof" "laid" "[I") (by decide +kernel)) (fun _ h9 => h9) rfl dX7_rowOf_50 ?_
      refine lv_iload_n hx hb dX7_rowOf_53 rfl (lv_at hl 1 rfl) ?_
      obtain ⟨hi, h⟩ := ck_some h
      refine va_iald hx hb hK hP 6 0 rfl rfl (gi_in hi) dX7_rowOf_54 ?_
      exact W.iret hx hb hr (fun t ht hW => ⟨_, rfl, Option.some.inj h, ht⟩) (fun q hq => by cases hq) dX7_rowOf_55
    have h := it_n c_4 h
    by_cases c_5 : x2 = 2
    · have h := it_p c_5 h
      refine lv_tableIn (tgt := 56) hx hb dX7_rowOf_11 (by rw [c_5]; decide) (by rw [c_5]; decide) (by rw [c_5]; rfl) (by decide) ?_
      refine lv_aload_n hx hb dX7_rowOf_56 rfl (lv_at hl 0 rfl) ?_
      refine va_get (D := (dC, dI)) (ci := 6) (v := .ref aRn) (C := RX7) (T := TX7) (N := 6) hx hb hts (fun _ h => List.mem_cons_of_mem _ (List.mem_append_left _ (List.mem_append_right _ h))) hown hK hP 0 rfl rfl 0 (by decide) (hts (.fieldLink RX7 10 "SlateRows" "now" "LSlateRows$Roof;") (by decide +kernel)) (fun _ h9 => h9) rfl dX7_rowOf_57 ?_
      refine lv_iload_n hx hb dX7_rowOf_60 rfl (lv_at hl 1 rfl) ?_
      obtain ⟨r_6, hg, h⟩ := bd_some h
      refine rdV (As := [.int x1]) (rest := []) (ci := 3) ⟨hx, hb, hml, hown, hts⟩ (k_X3_cutOf l dC dI cI cZ cS N aRn aRn_inches aRn_many aRn_worth aRn_lengths aRn_laid aRn_slates Rn_inches Rn_many Rn_worth Rn_lengths Rn_laid Rn_slates Rn_widths Rn_rows Rn_lap x1 r_6 hg) (cwV 1 hts gX7_rowOf_X3_cutOf rfl rfl rfl cd_X3_cutOf ⟨Nat.le_of_ble_eq_true rfl, Nat.le_of_ble_eq_true rfl⟩) hP hD hK [1, 2, 3, 4, 5, 6, 7] (by decide) rfl rfl rfl rfl hl.1 rfl (Nat.le_of_ble_eq_true rfl) dX7_rowOf_61 ⟨Nat.zero_le _, Nat.zero_le _⟩ ?_
      exact W.iret hx hb hr (fun t ht hW => ⟨_, rfl, Option.some.inj h, ht⟩) (fun q hq => by cases hq) dX7_rowOf_64
    have h := it_n c_5 h
    refine lv_tableOut (tgt := 65) hx hb dX7_rowOf_11 (by have qc_3 := lv_neT (a := 0) c_3 rfl; have qc_4 := lv_neT (a := 1) c_4 rfl; have qc_5 := lv_neT (a := 2) c_5 rfl; omega) (by decide) ?_
    refine lv_iconst (v := (-1)) hx hb dX7_rowOf_65 (by decide) ?_
    exact W.iret hx hb hr (fun t ht hW => ⟨_, rfl, Option.some.inj h, ht⟩) (fun q hq => by cases hq) dX7_rowOf_66
  · have h := it_p c_2 h
    refine lv_iconst (v := (-1)) hx hb dX7_rowOf_8 (by decide) ?_
    exact W.iret hx hb hr (fun t ht hW => ⟨_, rfl, Option.some.inj h, ht⟩) (fun q hq => by cases hq) dX7_rowOf_9
def f_X7_slate (N : Nat) (Rn_laid : Nat → Int32) (Rn_slates : Nat → Int32) (Rn_rows : Int32) (x1 : Int32) (x2 : Int32) : Option (Int32) :=
  (f_X7_isRow N Rn_rows x1).bind fun r_1 => if (b2i r_1) = 0 then (some ((-1))) else (if 0 ≤ x2 then (ck (gi x1 6) (if (Rn_laid x1.toNatClampNeg) ≤ x2 then (some ((-4))) else ((f_X3_slateAt N Rn_slates x1 x2).bind fun r_5 => some (r_5)))) else (some ((-1))))
set_option maxHeartbeats 4000000 in
set_option maxRecDepth 100000 in
theorem k_X7_slate (l : Launch) (dC : Nat → ClassId) (dI : Nat → Nat → Nat) (cI cZ cS : ClassId) (N : Nat) (aS aRn aRn_inches aRn_many aRn_worth aRn_lengths aRn_laid aRn_slates aKept aMind aShv : Nat) (S_isKept : Int32) (S_ways : Option Nat) (Rn_inches : Nat → Int32) (Rn_many : Nat → Int32) (Rn_worth : Nat → Int32) (Rn_lengths : Nat → Int32) (Rn_laid : Nat → Int32) (Rn_slates : Nat → Int32) (Rn_widths : Int32) (Rn_rows : Int32) (Rn_lap : Int32) (x1 : Int32) (x2 : Int32) (res : Int32) (h : f_X7_slate N Rn_laid Rn_slates Rn_rows x1 x2 = some res) : Met l yX7_slate wsX7_slate ({ frames := 1, cells := 0, slots := 0, locals := 22 }) (va_Pc [.ref aS, .int x1, .int x2] (wd (dC, dI) cI cZ cS [(aS, .inr (6, [.ref aRn, .ref aKept, .ref aMind, .ref aShv, .int S_isKept, va_rf S_ways])), (aRn, .inr (3, [.ref aRn_inches, .ref aRn_many, .ref aRn_worth, .ref aRn_lengths, .ref aRn_laid, .ref aRn_slates, .int Rn_widths, .int Rn_rows, .int Rn_lap])), (aRn_inches, .inl (cI, 4, .inl Rn_inches)), (aRn_many, .inl (cI, 4, .inl Rn_many)), (aRn_worth, .inl (cI, 4, .inl Rn_worth)), (aRn_lengths, .inl (cI, 6, .inl Rn_lengths)), (aRn_laid, .inl (cI, 6, .inl Rn_laid)), (aRn_slates, .inl (cI, 72, .inl Rn_slates))])) (vp_Si (fun r => r = res)) 0 0 (fun _ => False) := by
  refine Met.ofW (cc := cX7_slate) (maxL := 3) (ret := (some .int)) (by decide) rfl ?_
  intro p e s m args below meth c s₁ B hml hv
  obtain ⟨rfl, hP, hK, hD⟩ := hv
  have hx := B.exec
  have hb := B.bytes
  have hr := B.returns
  have hts := atoms_spec (ws := wsX7_slate) B.pre
  have hown : s.vm.findClass RX7 = some m.cls := findClass_of_methodNamed B.named
  have hlocks := B.notSynchronized
  have hl := lv_entry ([.ref aS, .int x1, .int x2]) (n := 3) (Nat.le_of_ble_eq_true rfl)
  rw [lg_entry_eq]
  generalize (lg_sl ([.ref aS, .int x1, .int x2]) ++ List.replicate (3 - (lg_sl ([.ref aS, .int x1, .int x2])).length) Slot.unset).toArray = ls at hl ⊢
  have hl : lv_has ls 3 [(0, .ref aS), (1, .int x1), (2, .int x2)] := hl
  unfold f_X7_slate at h
  refine lv_aload_n hx hb dX7_slate_0 rfl (lv_at hl 0 rfl) ?_
  refine lv_iload_n hx hb dX7_slate_1 rfl (lv_at hl 1 rfl) ?_
  obtain ⟨r_1, hg, h⟩ := bd_some h
  refine rdV (As := [.int x1]) (rest := []) (ci := 6) ⟨hx, hb, hml, hown, hts⟩ (k_X7_isRow l dC dI cI cZ cS N aS aRn aRn_inches aRn_many aRn_worth aRn_lengths aRn_laid aRn_slates aKept aMind aShv S_isKept S_ways Rn_inches Rn_many Rn_worth Rn_lengths Rn_laid Rn_slates Rn_widths Rn_rows Rn_lap x1 r_1 hg) (cwV 1 hts gX7_slate_X7_isRow rfl rfl rfl cd_X7_isRow ⟨Nat.le_of_ble_eq_true rfl, Nat.le_of_ble_eq_true rfl⟩) hP hD hK [0, 1, 2, 3, 4, 5, 6, 7] (by decide) rfl rfl rfl rfl hl.1 rfl (Nat.le_of_ble_eq_true rfl) dX7_slate_2 ⟨Nat.zero_le _, Nat.zero_le _⟩ ?_
  refine lv_if_eq (tgt := 12) hx hb dX7_slate_5 (by decide) (fun c_2 => ?_) (fun c_2 => ?_)
  · have h := it_p c_2 h
    refine lv_iconst (v := (-1)) hx hb dX7_slate_12 (by decide) ?_
    exact W.iret hx hb hr (fun t ht hW => ⟨_, rfl, Option.some.inj h, ht⟩) (fun q hq => by cases hq) dX7_slate_13
  · have h := it_n c_2 h
    refine lv_iload_n hx hb dX7_slate_8 rfl (lv_at hl 2 rfl) ?_
    refine lv_if_ge (tgt := 14) hx hb dX7_slate_9 (by decide) (fun c_3 => ?_) (fun c_3 => ?_)
    · have h := it_p c_3 h
      refine lv_iload_n hx hb dX7_slate_14 rfl (lv_at hl 2 rfl) ?_
      refine lv_aload_n hx hb dX7_slate_15 rfl (lv_at hl 0 rfl) ?_
      refine va_get (D := (dC, dI)) (ci := 6) (v := .ref aRn) (C := RX7) (T := TX7) (N := 6) hx hb hts (fun _ h => List.mem_cons_of_mem _ (List.mem_append_left _ (List.mem_append_right _ h))) hown hK hP 0 rfl rfl 0 (by decide) (hts (.fieldLink RX7 10 "SlateRows" "now" "LSlateRows$Roof;") (by decide +kernel)) (fun _ h9 => h9) rfl dX7_slate_16 ?_
      refine va_get (D := (dC, dI)) (ci := 3) (v := .ref aRn_laid) (C := RX3) (T := TX3) (N := 9) hx hb hts (fun _ h => List.mem_cons_of_mem _ (List.mem_append_right _ h)) hown hK hP 1 rfl rfl 4 (by decide) (hts (.fieldLink RX7 83 "SlateRows$Roof" "laid" "[I") (by decide +kernel)) (fun _ h9 => h9) rfl dX7_slate_19 ?_
      refine lv_iload_n hx hb dX7_slate_22 rfl (lv_at hl 1 rfl) ?_
      obtain ⟨hi, h⟩ := ck_some h
      refine va_iald hx hb hK hP 6 0 rfl rfl (gi_in hi) dX7_slate_23 ?_
      refine lv_icmp_ge (tgt := 39) hx hb dX7_slate_24 (by decide) (fun c_4 => ?_) (fun c_4 => ?_)
      · have h := it_p c_4 h
        refine lv_bipush (v := (-4)) hx hb dX7_slate_39 (by decide) ?_
        exact W.iret hx hb hr (fun t ht hW => ⟨_, rfl, Option.some.inj h, ht⟩) (fun q hq => by cases hq) dX7_slate_41
      · have h := it_n c_4 h
        refine lv_aload_n hx hb dX7_slate_27 rfl (lv_at hl 0 rfl) ?_
        refine va_get (D := (dC, dI)) (ci := 6) (v := .ref aRn) (C := RX7) (T := TX7) (N := 6) hx hb hts (fun _ h => List.mem_cons_of_mem _ (List.mem_append_left _ (List.mem_append_right _ h))) hown hK hP 0 rfl rfl 0 (by decide) (hts (.fieldLink RX7 10 "SlateRows" "now" "LSlateRows$Roof;") (by decide +kernel)) (fun _ h9 => h9) rfl dX7_slate_28 ?_
        refine lv_iload_n hx hb dX7_slate_31 rfl (lv_at hl 1 rfl) ?_
        refine lv_iload_n hx hb dX7_slate_32 rfl (lv_at hl 2 rfl) ?_
        obtain ⟨r_5, hg, h⟩ := bd_some h
        refine rdV (As := [.int x1, .int x2]) (rest := []) (ci := 3) ⟨hx, hb, hml, hown, hts⟩ (k_X3_slateAt l dC dI cI cZ cS N aRn aRn_inches aRn_many aRn_worth aRn_lengths aRn_laid aRn_slates Rn_inches Rn_many Rn_worth Rn_lengths Rn_laid Rn_slates Rn_widths Rn_rows Rn_lap x1 x2 r_5 hg) (cwV 2 hts gX7_slate_X3_slateAt rfl rfl rfl cd_X3_slateAt ⟨Nat.le_of_ble_eq_true rfl, Nat.le_of_ble_eq_true rfl⟩) hP hD hK [1, 2, 3, 4, 5, 6, 7] (by decide) rfl rfl rfl rfl hl.1 rfl (Nat.le_of_ble_eq_true rfl) dX7_slate_33 ⟨Nat.zero_le _, Nat.zero_le _⟩ ?_
        refine lv_goto (tgt := 41) hx hb dX7_slate_36 (by decide) ?_
        exact W.iret hx hb hr (fun t ht hW => ⟨_, rfl, Option.some.inj h, ht⟩) (fun q hq => by cases hq) dX7_slate_41
    · have h := it_n c_3 h
      refine lv_iconst (v := (-1)) hx hb dX7_slate_12 (by decide) ?_
      exact W.iret hx hb hr (fun t ht hW => ⟨_, rfl, Option.some.inj h, ht⟩) (fun q hq => by cases hq) dX7_slate_13
def f_X7_joint (N : Nat) (Rn_inches : Nat → Int32) (Rn_laid : Nat → Int32) (Rn_slates : Nat → Int32) (Rn_rows : Int32) (x1 : Int32) (x2 : Int32) : Option (Int32) :=
  (f_X7_isRow N Rn_rows x1).bind fun r_1 => if (b2i r_1) = 0 then (some ((-1))) else (if 0 ≤ x2 then (ck (gi x1 6) (if ((Rn_laid x1.toNatClampNeg) - 1) ≤ x2 then (some ((-4))) else ((f_X3_endOf N Rn_inches Rn_laid Rn_slates x1 x2).bind fun r_5 => some (r_5)))) else (some ((-1))))
set_option maxHeartbeats 4000000 in
set_option maxRecDepth 100000 in
theorem k_X7_joint (l : Launch) (dC : Nat → ClassId) (dI : Nat → Nat → Nat) (cI cZ cS : ClassId) (N : Nat) (aS aRn aRn_inches aRn_many aRn_worth aRn_lengths aRn_laid aRn_slates aKept aMind aShv : Nat) (S_isKept : Int32) (S_ways : Option Nat) (Rn_inches : Nat → Int32) (Rn_many : Nat → Int32) (Rn_worth : Nat → Int32) (Rn_lengths : Nat → Int32) (Rn_laid : Nat → Int32) (Rn_slates : Nat → Int32) (Rn_widths : Int32) (Rn_rows : Int32) (Rn_lap : Int32) (x1 : Int32) (x2 : Int32) (res : Int32) (h : f_X7_joint N Rn_inches Rn_laid Rn_slates Rn_rows x1 x2 = some res) : Met l yX7_joint wsX7_joint ({ frames := 2, cells := 0, slots := 0, locals := 46 }) (va_Pc [.ref aS, .int x1, .int x2] (wd (dC, dI) cI cZ cS [(aS, .inr (6, [.ref aRn, .ref aKept, .ref aMind, .ref aShv, .int S_isKept, va_rf S_ways])), (aRn, .inr (3, [.ref aRn_inches, .ref aRn_many, .ref aRn_worth, .ref aRn_lengths, .ref aRn_laid, .ref aRn_slates, .int Rn_widths, .int Rn_rows, .int Rn_lap])), (aRn_inches, .inl (cI, 4, .inl Rn_inches)), (aRn_many, .inl (cI, 4, .inl Rn_many)), (aRn_worth, .inl (cI, 4, .inl Rn_worth)), (aRn_lengths, .inl (cI, 6, .inl Rn_lengths)), (aRn_laid, .inl (cI, 6, .inl Rn_laid)), (aRn_slates, .inl (cI, 72, .inl Rn_slates))])) (vp_Si (fun r => r = res)) 0 0 (fun _ => False) := by
  refine Met.ofW (cc := cX7_joint) (maxL := 3) (ret := (some .int)) (by decide) rfl ?_
  intro p e s m args below meth c s₁ B hml hv
  obtain ⟨rfl, hP, hK, hD⟩ := hv
  have hx := B.exec
  have hb := B.bytes
  have hr := B.returns
  have hts := atoms_spec (ws := wsX7_joint) B.pre
  have hown : s.vm.findClass RX7 = some m.cls := findClass_of_methodNamed B.named
  have hlocks := B.notSynchronized
  have hl := lv_entry ([.ref aS, .int x1, .int x2]) (n := 3) (Nat.le_of_ble_eq_true rfl)
  rw [lg_entry_eq]
  generalize (lg_sl ([.ref aS, .int x1, .int x2]) ++ List.replicate (3 - (lg_sl ([.ref aS, .int x1, .int x2])).length) Slot.unset).toArray = ls at hl ⊢
  have hl : lv_has ls 3 [(0, .ref aS), (1, .int x1), (2, .int x2)] := hl
  unfold f_X7_joint at h
  refine lv_aload_n hx hb dX7_joint_0 rfl (lv_at hl 0 rfl) ?_
  refine lv_iload_n hx hb dX7_joint_1 rfl (lv_at hl 1 rfl) ?_
  obtain ⟨r_1, hg, h⟩ := bd_some h
  refine rdV (As := [.int x1]) (rest := []) (ci := 6) ⟨hx, hb, hml, hown, hts⟩ (k_X7_isRow l dC dI cI cZ cS N aS aRn aRn_inches aRn_many aRn_worth aRn_lengths aRn_laid aRn_slates aKept aMind aShv S_isKept S_ways Rn_inches Rn_many Rn_worth Rn_lengths Rn_laid Rn_slates Rn_widths Rn_rows Rn_lap x1 r_1 hg) (cwV 1 hts gX7_joint_X7_isRow rfl rfl rfl cd_X7_isRow ⟨Nat.le_of_ble_eq_true rfl, Nat.le_of_ble_eq_true rfl⟩) hP hD hK [0, 1, 2, 3, 4, 5, 6, 7] (by decide) rfl rfl rfl rfl hl.1 rfl (Nat.le_of_ble_eq_true rfl) dX7_joint_2 ⟨Nat.zero_le _, Nat.zero_le _⟩ ?_
  refine lv_if_eq (tgt := 12) hx hb dX7_joint_5 (by decide) (fun c_2 => ?_) (fun c_2 => ?_)
  · have h := it_p c_2 h
    refine lv_iconst (v := (-1)) hx hb dX7_joint_12 (by decide) ?_
    exact W.iret hx hb hr (fun t ht hW => ⟨_, rfl, Option.some.inj h, ht⟩) (fun q hq => by cases hq) dX7_joint_13
  · have h := it_n c_2 h
    refine lv_iload_n hx hb dX7_joint_8 rfl (lv_at hl 2 rfl) ?_
    refine lv_if_ge (tgt := 14) hx hb dX7_joint_9 (by decide) (fun c_3 => ?_) (fun c_3 => ?_)
    · have h := it_p c_3 h
      refine lv_iload_n hx hb dX7_joint_14 rfl (lv_at hl 2 rfl) ?_
      refine lv_aload_n hx hb dX7_joint_15 rfl (lv_at hl 0 rfl) ?_
      refine va_get (D := (dC, dI)) (ci := 6) (v := .ref aRn) (C := RX7) (T := TX7) (N := 6) hx hb hts (fun _ h => List.mem_cons_of_mem _ (List.mem_append_left _ (List.mem_append_right _ h))) hown hK hP 0 rfl rfl 0 (by decide) (hts (.fieldLink RX7 10 "SlateRows" "now" "LSlateRows$Roof;") (by decide +kernel)) (fun _ h9 => h9) rfl dX7_joint_16 ?_
      refine va_get (D := (dC, dI)) (ci := 3) (v := .ref aRn_laid) (C := RX3) (T := TX3) (N := 9) hx hb hts (fun _ h => List.mem_cons_of_mem _ (List.mem_append_right _ h)) hown hK hP 1 rfl rfl 4 (by decide) (hts (.fieldLink RX7 83 "SlateRows$Roof" "laid" "[I") (by decide +kernel)) (fun _ h9 => h9) rfl dX7_joint_19 ?_
      refine lv_iload_n hx hb dX7_joint_22 rfl (lv_at hl 1 rfl) ?_
      obtain ⟨hi, h⟩ := ck_some h
      refine va_iald hx hb hK hP 6 0 rfl rfl (gi_in hi) dX7_joint_23 ?_
      refine lv_iconst (v := 1) hx hb dX7_joint_24 (by decide) ?_
      refine lv_isub hx hb dX7_joint_25 ?_
      refine lv_icmp_ge (tgt := 41) hx hb dX7_joint_26 (by decide) (fun c_4 => ?_) (fun c_4 => ?_)
      · have h := it_p c_4 h
        refine lv_bipush (v := (-4)) hx hb dX7_joint_41 (by decide) ?_
        exact W.iret hx hb hr (fun t ht hW => ⟨_, rfl, Option.some.inj h, ht⟩) (fun q hq => by cases hq) dX7_joint_43
      · have h := it_n c_4 h
        refine lv_aload_n hx hb dX7_joint_29 rfl (lv_at hl 0 rfl) ?_
        refine va_get (D := (dC, dI)) (ci := 6) (v := .ref aRn) (C := RX7) (T := TX7) (N := 6) hx hb hts (fun _ h => List.mem_cons_of_mem _ (List.mem_append_left _ (List.mem_append_right _ h))) hown hK hP 0 rfl rfl 0 (by decide) (hts (.fieldLink RX7 10 "SlateRows" "now" "LSlateRows$Roof;") (by decide +kernel)) (fun _ h9 => h9) rfl dX7_joint_30 ?_
        refine lv_iload_n hx hb dX7_joint_33 rfl (lv_at hl 1 rfl) ?_
        refine lv_iload_n hx hb dX7_joint_34 rfl (lv_at hl 2 rfl) ?_
        obtain ⟨r_5, hg, h⟩ := bd_some h
        refine rdV (As := [.int x1, .int x2]) (rest := []) (ci := 3) ⟨hx, hb, hml, hown, hts⟩ (k_X3_endOf l dC dI cI cZ cS N aRn aRn_inches aRn_many aRn_worth aRn_lengths aRn_laid aRn_slates Rn_inches Rn_many Rn_worth Rn_lengths Rn_laid Rn_slates Rn_widths Rn_rows Rn_lap x1 x2 r_5 hg) (cwV 2 hts gX7_joint_X3_endOf rfl rfl rfl cd_X3_endOf ⟨Nat.le_of_ble_eq_true rfl, Nat.le_of_ble_eq_true rfl⟩) hP hD hK [1, 2, 3, 4, 5, 6, 7] (by decide) rfl rfl rfl rfl hl.1 rfl (Nat.le_of_ble_eq_true rfl) dX7_joint_35 ⟨Nat.zero_le _, Nat.zero_le _⟩ ?_
        refine lv_goto (tgt := 43) hx hb dX7_joint_38 (by decide) ?_
        exact W.iret hx hb hr (fun t ht hW => ⟨_, rfl, Option.some.inj h, ht⟩) (fun q hq => by cases hq) dX7_joint_43
    · have h := it_n c_3 h
      refine lv_iconst (v := (-1)) hx hb dX7_joint_12 (by decide) ?_
      exact W.iret hx hb hr (fun t ht hW => ⟨_, rfl, Option.some.inj h, ht⟩) (fun q hq => by cases hq) dX7_joint_13
