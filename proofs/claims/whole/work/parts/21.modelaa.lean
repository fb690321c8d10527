theorem cd_X8_isIn : yX8_isIn.cls ≠ "java/lang/invoke/MethodHandle" ∧ yX8_isIn.cls ≠ "java/lang/invoke/VarHandle" ∧ (parseMethodDescriptor yX8_isIn.desc).map (fun d => d.parameters.length) = some 3 := by decide +kernel
theorem cd_X8_isShelf : yX8_isShelf.cls ≠ "java/lang/invoke/MethodHandle" ∧ yX8_isShelf.cls ≠ "java/lang/invoke/VarHandle" ∧ (parseMethodDescriptor yX8_isShelf.desc).map (fun d => d.parameters.length) = some 1 := by decide +kernel
theorem cd_X8_thrown : yX8_thrown.cls = RX8 ∧ yX8_thrown.cls ≠ "java/lang/invoke/MethodHandle" ∧ yX8_thrown.cls ≠ "java/lang/invoke/VarHandle" ∧ (parseMethodDescriptor yX8_thrown.desc).map (fun d => d.parameters.length) = some 0 := by decide +kernel
theorem cd_X8_isWidth : yX8_isWidth.cls = RX8 ∧ yX8_isWidth.cls ≠ "java/lang/invoke/MethodHandle" ∧ yX8_isWidth.cls ≠ "java/lang/invoke/VarHandle" ∧ (parseMethodDescriptor yX8_isWidth.desc).map (fun d => d.parameters.length) = some 1 := by decide +kernel
theorem cd_X8_isRow : yX8_isRow.cls = RX8 ∧ yX8_isRow.cls ≠ "java/lang/invoke/MethodHandle" ∧ yX8_isRow.cls ≠ "java/lang/invoke/VarHandle" ∧ (parseMethodDescriptor yX8_isRow.desc).map (fun d => d.parameters.length) = some 1 := by decide +kernel
theorem cd_X8_inches : yX8_inches.cls = RX8 ∧ yX8_inches.cls ≠ "java/lang/invoke/MethodHandle" ∧ yX8_inches.cls ≠ "java/lang/invoke/VarHandle" ∧ (parseMethodDescriptor yX8_inches.desc).map (fun d => d.parameters.length) = some 1 := by decide +kernel
theorem cd_X8_many : yX8_many.cls = RX8 ∧ yX8_many.cls ≠ "java/lang/invoke/MethodHandle" ∧ yX8_many.cls ≠ "java/lang/invoke/VarHandle" ∧ (parseMethodDescriptor yX8_many.desc).map (fun d => d.parameters.length) = some 1 := by decide +kernel
theorem cd_X8_worth : yX8_worth.cls = RX8 ∧ yX8_worth.cls ≠ "java/lang/invoke/MethodHandle" ∧ yX8_worth.cls ≠ "java/lang/invoke/VarHandle" ∧ (parseMethodDescriptor yX8_worth.desc).map (fun d => d.parameters.length) = some 1 := by decide +kernel
theorem cd_X8_leaves : yX8_leaves.cls = RX8 ∧ yX8_leaves.cls ≠ "java/lang/invoke/MethodHandle" ∧ yX8_leaves.cls ≠ "java/lang/invoke/VarHandle" ∧ (parseMethodDescriptor yX8_leaves.desc).map (fun d => d.parameters.length) = some 2 := by decide +kernel
theorem cd_X8_lengthOf : yX8_lengthOf.cls = RX8 ∧ yX8_lengthOf.cls ≠ "java/lang/invoke/MethodHandle" ∧ yX8_lengthOf.cls ≠ "java/lang/invoke/VarHandle" ∧ (parseMethodDescriptor yX8_lengthOf.desc).map (fun d => d.parameters.length) = some 1 := by decide +kernel
theorem cd_X8_slates : yX8_slates.cls = RX8 ∧ yX8_slates.cls ≠ "java/lang/invoke/MethodHandle" ∧ yX8_slates.cls ≠ "java/lang/invoke/VarHandle" ∧ (parseMethodDescriptor yX8_slates.desc).map (fun d => d.parameters.length) = some 1 := by decide +kernel
theorem cd_X8_slateOf : yX8_slateOf.cls = RX8 ∧ yX8_slateOf.cls ≠ "java/lang/invoke/MethodHandle" ∧ yX8_slateOf.cls ≠ "java/lang/invoke/VarHandle" ∧ (parseMethodDescriptor yX8_slateOf.desc).map (fun d => d.parameters.length) = some 2 := by decide +kernel
theorem cd_X8_isLaid : yX8_isLaid.cls = RX8 ∧ yX8_isLaid.cls ≠ "java/lang/invoke/MethodHandle" ∧ yX8_isLaid.cls ≠ "java/lang/invoke/VarHandle" ∧ (parseMethodDescriptor yX8_isLaid.desc).map (fun d => d.parameters.length) = some 1 := by decide +kernel
theorem cd_X8_here : yX8_here.cls = RX8 ∧ yX8_here.cls ≠ "java/lang/invoke/MethodHandle" ∧ yX8_here.cls ≠ "java/lang/invoke/VarHandle" ∧ (parseMethodDescriptor yX8_here.desc).map (fun d => d.parameters.length) = some 0 := by decide +kernel
theorem cd_X8_takes : yX8_takes.cls = RX8 ∧ yX8_takes.cls ≠ "java/lang/invoke/MethodHandle" ∧ yX8_takes.cls ≠ "java/lang/invoke/VarHandle" ∧ (parseMethodDescriptor yX8_takes.desc).map (fun d => d.parameters.length) = some 1 := by decide +kernel
def f_X8_isIn (N : Nat) (y0 : Int64) (y1 : Int64) (y2 : Int64) : Option (Bool) :=
  if (lg_cmp y0 y1) < 0 then (some (false)) else (if 0 < (lg_cmp y0 y2) then (some (false)) else (some (true)))
set_option maxHeartbeats 4000000 in
set_option maxRecDepth 100000 in
theorem k_X8_isIn (l : Launch) (dC : Nat → ClassId) (dI : Nat → Nat → Nat) (cI cZ cS : ClassId) (N : Nat) (y0 : Int64) (y1 : Int64) (y2 : Int64) (res : Bool) (h : f_X8_isIn N y0 y1 y2 = some res) : Met l yX8_isIn wsX8_isIn ({ frames := 0, cells := 0, slots := 0, locals := 0 }) (va_Pc [.long y0, .long y1, .long y2] (wd (dC, dI) cI cZ cS [])) (vp_Si (fun r => r = b2i res)) 0 0 (fun _ => False) := by
  refine Met.ofW (cc := cX8_isIn) (maxL := 6) (ret := (some .boolean)) (by decide) rfl ?_
  intro p e s m args below meth c s₁ B hml hv
  obtain ⟨rfl, hP, hK, hD⟩ := hv
  have hx := B.exec
  have hb := B.bytes
  have hr := B.returns
  have hts := atoms_spec (ws := wsX8_isIn) B.pre
  have hown : s.vm.findClass RX8 = some m.cls := findClass_of_methodNamed B.named
  have hlocks := B.notSynchronized
  have hl := lv_entry ([.long y0, .long y1, .long y2]) (n := 6) (Nat.le_of_ble_eq_true rfl)
  rw [lg_entry_eq]
  generalize (lg_sl ([.long y0, .long y1, .long y2]) ++ List.replicate (6 - (lg_sl ([.long y0, .long y1, .long y2])).length) Slot.unset).toArray = ls at hl ⊢
  have hl : lv_has ls 6 [(0, .long y0), (2, .long y1), (4, .long y2)] := hl
  unfold f_X8_isIn at h
  refine lv_lload_n hx hb dX8_isIn_0 rfl (lv_at hl 0 rfl) ?_
  refine lv_lload_n hx hb dX8_isIn_1 rfl (lv_at hl 1 rfl) ?_
  refine W.lcmp hx hb dX8_isIn_2 ?_
  refine lv_if_lt (tgt := 17) hx hb dX8_isIn_3 (by decide) (fun c_1 => ?_) (fun c_1 => ?_)
  · have h := it_p c_1 h
    refine lv_iconst (v := 0) hx hb dX8_isIn_17 (by decide) ?_
    exact W.zret (v := b2i false) hx hb hr (b2i_nar _) (fun t ht hW => ⟨b2i false, rfl, congrArg b2i (Option.some.inj h), ht⟩) (fun q hq => by cases hq) dX8_isIn_18
  · have h := it_n c_1 h
    refine lv_lload_n hx hb dX8_isIn_6 rfl (lv_at hl 0 rfl) ?_
    refine lv_lload hx hb dX8_isIn_7 (lv_at hl 2 rfl) ?_
    refine W.lcmp hx hb dX8_isIn_9 ?_
    refine lv_if_gt (tgt := 17) hx hb dX8_isIn_10 (by decide) (fun c_2 => ?_) (fun c_2 => ?_)
    · have h := it_p c_2 h
      refine lv_iconst (v := 0) hx hb dX8_isIn_17 (by decide) ?_
      exact W.zret (v := b2i false) hx hb hr (b2i_nar _) (fun t ht hW => ⟨b2i false, rfl, congrArg b2i (Option.some.inj h), ht⟩) (fun q hq => by cases hq) dX8_isIn_18
    · have h := it_n c_2 h
      refine lv_iconst (v := 1) hx hb dX8_isIn_13 (by decide) ?_
      refine lv_goto (tgt := 18) hx hb dX8_isIn_14 (by decide) ?_
      exact W.zret (v := b2i true) hx hb hr (b2i_nar _) (fun t ht hW => ⟨b2i true, rfl, congrArg b2i (Option.some.inj h), ht⟩) (fun q hq => by cases hq) dX8_isIn_18
def f_X8_isShelf (N : Nat) (x0 : Int32) : Option (Bool) :=
  (f_X8_isIn N x0.toInt64 0 7).bind fun r_1 => some (r_1)
set_option maxHeartbeats 4000000 in
set_option maxRecDepth 100000 in
theorem k_X8_isShelf (l : Launch) (dC : Nat → ClassId) (dI : Nat → Nat → Nat) (cI cZ cS : ClassId) (N : Nat) (x0 : Int32) (res : Bool) (h : f_X8_isShelf N x0 = some res) : Met l yX8_isShelf wsX8_isShelf ({ frames := 1, cells := 0, slots := 0, locals := 25 }) (va_Pc [.int x0] (wd (dC, dI) cI cZ cS [])) (vp_Si (fun r => r = b2i res)) 0 0 (fun _ => False) := by
  refine Met.ofW (cc := cX8_isShelf) (maxL := 1) (ret := (some .boolean)) (by decide) rfl ?_
  intro p e s m args below meth c s₁ B hml hv
  obtain ⟨rfl, hP, hK, hD⟩ := hv
  have hx := B.exec
  have hb := B.bytes
  have hr := B.returns
  have hts := atoms_spec (ws := wsX8_isShelf) B.pre
  have hown : s.vm.findClass RX8 = some m.cls := findClass_of_methodNamed B.named
  have hlocks := B.notSynchronized
  have hl := lv_entry ([.int x0]) (n := 1) (Nat.le_of_ble_eq_true rfl)
  rw [lg_entry_eq]
  generalize (lg_sl ([.int x0]) ++ List.replicate (1 - (lg_sl ([.int x0])).length) Slot.unset).toArray = ls at hl ⊢
  have hl : lv_has ls 1 [(0, .int x0)] := hl
  unfold f_X8_isShelf at h
  refine lv_iload_n hx hb dX8_isShelf_0 rfl (lv_at hl 0 rfl) ?_
  refine lv_i2l hx hb dX8_isShelf_1 rfl ?_
  refine lv_lconst (v := 0) hx hb dX8_isShelf_2 (by decide) ?_
  refine lv_ldc2 (v := 7) hx hb hown (hts (.constantLong RX8 67 (7)) (by decide +kernel)) dX8_isShelf_3 ?_
  obtain ⟨r_1, hg, h⟩ := bd_some h
  refine rdS (As := [.long x0.toInt64, .long 0, .long 7]) (rest := []) ⟨hx, hb, hml, hown, hts⟩ (k_X8_isIn l dC dI cI cZ cS N x0.toInt64 0 7 r_1 hg) (va_cwS 3 hts gX8_isShelf_X8_isIn rfl rfl rfl cd_X8_isIn ⟨Nat.le_of_ble_eq_true rfl, Nat.le_of_ble_eq_true rfl⟩) hP hD hK [] (by decide) rfl rfl hl.1 rfl (Nat.le_of_ble_eq_true rfl) dX8_isShelf_6 ⟨Nat.zero_le _, Nat.zero_le _⟩ ?_
  exact W.zret (v := b2i r_1) hx hb hr (b2i_nar _) (fun t ht hW => ⟨b2i r_1, rfl, congrArg b2i (Option.some.inj h), ht⟩) (fun q hq => by cases hq) dX8_isShelf_9
def f_X8_thrown (N : Nat) (M_thrown : Int32) : Option (Int32) :=
  some (M_thrown)
set_option maxHeartbeats 4000000 in
set_option maxRecDepth 100000 in
theorem k_X8_thrown (l : Launch) (dC : Nat → ClassId) (dI : Nat → Nat → Nat) (cI cZ cS : ClassId) (N : Nat) (aM : Nat) (fs_M : List Value) (M_thrown : Int32) (hf_M_thrown : fs_M[11]? = some (.int M_thrown)) (res : Int32) (h : f_X8_thrown N M_thrown = some res) : Met l yX8_thrown wsX8_thrown ({ frames := 0, cells := 0, slots := 0, locals := 0 }) (va_Pc [.ref aM] (wd (dC, dI) cI cZ cS [(aM, .inr (7, fs_M))])) (vp_Si (fun r => r = res)) 0 0 (fun _ => False) := by
  refine Met.ofW (cc := cX8_thrown) (maxL := 1) (ret := (some .int)) (by decide) rfl ?_
  intro p e s m args below meth c s₁ B hml hv
  obtain ⟨rfl, hP, hK, hD⟩ := hv
  have hx := B.exec
  have hb := B.bytes
  have hr := B.returns
  have hts := atoms_spec (ws := wsX8_thrown) B.pre
  have hown : s.vm.findClass RX8 = some m.cls := findClass_of_methodNamed B.named
  have hlocks := B.notSynchronized
  have hl := lv_entry ([.ref aM]) (n := 1) (Nat.le_of_ble_eq_true rfl)
  rw [lg_entry_eq]
  generalize (lg_sl ([.ref aM]) ++ List.replicate (1 - (lg_sl ([.ref aM])).length) Slot.unset).toArray = ls at hl ⊢
  have hl : lv_has ls 1 [(0, .ref aM)] := hl
  unfold f_X8_thrown at h
  refine lv_aload_n hx hb dX8_thrown_0 rfl (lv_at hl 0 rfl) ?_
  refine va_get (D := (dC, dI)) (ci := 7) (v := .int M_thrown) (C := RX8) (T := TX8) (N := 37) hx hb hts (fun _ h => List.mem_cons_of_mem _ (List.mem_append_right _ h)) hown hK hP 0 rfl rfl 11 (by decide) (hts (.fieldLink RX8 59 "SlateRowsModel" "thrown" "I") (by decide +kernel)) (fun _ h9 => h9) hf_M_thrown dX8_thrown_1 ?_
  exact W.iret hx hb hr (fun t ht hW => ⟨_, rfl, Option.some.inj h, ht⟩) (fun q hq => by cases hq) dX8_thrown_4
def f_X8_isWidth (N : Nat) (M_s : Nat → Int32) (x1 : Int32) : Option (Bool) :=
  ck (gi 1 99) ((f_X8_isIn N x1.toInt64 0 (((M_s (1 : Int32).toNatClampNeg) - 1).toInt64)).bind fun r_1 => some (r_1))
set_option maxHeartbeats 4000000 in
set_option maxRecDepth 100000 in
theorem k_X8_isWidth (l : Launch) (dC : Nat → ClassId) (dI : Nat → Nat → Nat) (cI cZ cS : ClassId) (N : Nat) (aM aM_s : Nat) (fs_M : List Value) (M_s : Nat → Int32) (x1 : Int32) (hf_M_s : fs_M[0]? = some (.ref aM_s)) (res : Bool) (h : f_X8_isWidth N M_s x1 = some res) : Met l yX8_isWidth wsX8_isWidth ({ frames := 1, cells := 0, slots := 0, locals := 25 }) (va_Pc [.ref aM, .int x1] (wd (dC, dI) cI cZ cS [(aM, .inr (7, fs_M)), (aM_s, .inl (cI, 99, .inl M_s))])) (vp_Si (fun r => r = b2i res)) 0 0 (fun _ => False) := by
  refine Met.ofW (cc := cX8_isWidth) (maxL := 2) (ret := (some .boolean)) (by decide) rfl ?_
  intro p e s m args below meth c s₁ B hml hv
  obtain ⟨rfl, hP, hK, hD⟩ := hv
  have hx := B.exec
  have hb := B.bytes
  have hr := B.returns
  have hts := atoms_spec (ws := wsX8_isWidth) B.pre
  have hown : s.vm.findClass RX8 = some m.cls := findClass_of_methodNamed B.named
  have hlocks := B.notSynchronized
  have hl := lv_entry ([.ref aM, .int x1]) (n := 2) (Nat.le_of_ble_eq_true rfl)
  rw [lg_entry_eq]
  generalize (lg_sl ([.ref aM, .int x1]) ++ List.replicate (2 - (lg_sl ([.ref aM, .int x1])).length) Slot.unset).toArray = ls at hl ⊢
  have hl : lv_has ls 2 [(0, .ref aM), (1, .int x1)] := hl
  unfold f_X8_isWidth at h
  refine lv_iload_n hx hb dX8_isWidth_0 rfl (lv_at hl 1 rfl) ?_
  refine lv_i2l hx hb dX8_isWidth_1 rfl ?_
  refine lv_lconst (v := 0) hx hb dX8_isWidth_2 (by decide) ?_
  refine lv_aload_n hx hb dX8_isWidth_3 rfl (lv_at hl 0 rfl) ?_
  refine va_get (D := (dC, dI)) (ci := 7) (v := .ref aM_s) (C := RX8) (T := TX8) (N := 37) hx hb hts (fun _ h => List.mem_cons_of_mem _ (List.mem_append_right _ h)) hown hK hP 0 rfl rfl 0 (by decide) (hts (.fieldLink RX8 9 "SlateRowsModel" "s" "[I") (by decide +kernel)) (fun _ h9 => h9) hf_M_s dX8_isWidth_4 ?_
  refine lv_iconst (v := 1) hx hb dX8_isWidth_7 (by decide) ?_
  obtain ⟨hi, h⟩ := ck_some h
  refine va_iald hx hb hK hP 1 0 rfl rfl (gi_in hi) dX8_isWidth_8 ?_
  refine lv_iconst (v := 1) hx hb dX8_isWidth_9 (by decide) ?_
  refine lv_isub hx hb dX8_isWidth_10 ?_
  refine lv_i2l hx hb dX8_isWidth_11 rfl ?_
  obtain ⟨r_1, hg, h⟩ := bd_some h
  refine rdS (As := [.long x1.toInt64, .long 0, .long (((M_s (1 : Int32).toNatClampNeg) - 1).toInt64)]) (rest := []) ⟨hx, hb, hml, hown, hts⟩ (k_X8_isIn l dC dI cI cZ cS N x1.toInt64 0 (((M_s (1 : Int32).toNatClampNeg) - 1).toInt64) r_1 hg) (va_cwS 3 hts gX8_isWidth_X8_isIn rfl rfl rfl cd_X8_isIn ⟨Nat.le_of_ble_eq_true rfl, Nat.le_of_ble_eq_true rfl⟩) hP hD hK [] (by decide) rfl rfl hl.1 rfl (Nat.le_of_ble_eq_true rfl) dX8_isWidth_12 ⟨Nat.zero_le _, Nat.zero_le _⟩ ?_
  exact W.zret (v := b2i r_1) hx hb hr (b2i_nar _) (fun t ht hW => ⟨b2i r_1, rfl, congrArg b2i (Option.some.inj h), ht⟩) (fun q hq => by cases hq) dX8_isWidth_15
def f_X8_isRow (N : Nat) (M_s : Nat → Int32) (x1 : Int32) : Option (Bool) :=
  ck (gi 2 99) ((f_X8_isIn N x1.toInt64 0 (((M_s (2 : Int32).toNatClampNeg) - 1).toInt64)).bind fun r_1 => some (r_1))
set_option maxHeartbeats 4000000 in
set_option maxRecDepth 100000 in
theorem k_X8_isRow (l : Launch) (dC : Nat → ClassId) (dI : Nat → Nat → Nat) (cI cZ cS : ClassId) (N : Nat) (aM aM_s : Nat) (fs_M : List Value) (M_s : Nat → Int32) (x1 : Int32) (hf_M_s : fs_M[0]? = some (.ref aM_s)) (res : Bool) (h : f_X8_isRow N M_s x1 = some res) : Met l yX8_isRow wsX8_isRow ({ frames := 1, cells := 0, slots := 0, locals := 25 }) (va_Pc [.ref aM, .int x1] (wd (dC, dI) cI cZ cS [(aM, .inr (7, fs_M)), (aM_s, .inl (cI, 99, .inl M_s))])) (vp_Si (fun r => r = b2i res)) 0 0 (fun _ => False) := by
  refine Met.ofW (cc := cX8_isRow) (maxL := 2) (ret := (some .boolean)) (by decide) rfl ?_
  intro p e s m args below meth c s₁ B hml hv
  obtain ⟨rfl, hP, hK, hD⟩ := hv
  have hx := B.exec
  have hb := B.bytes
  have hr := B.returns
  have hts := atoms_spec (ws := wsX8_isRow) B.pre
  have hown : s.vm.findClass RX8 = some m.cls := findClass_of_methodNamed B.named
  have hlocks := B.notSynchronized
  have hl := lv_entry ([.ref aM, .int x1]) (n := 2) (Nat.le_of_ble_eq_true rfl)
  rw [lg_entry_eq]
  generalize (lg_sl ([.ref aM, .int x1]) ++ List.replicate (2 - (lg_sl ([.ref aM, .int x1])).length) Slot.unset).toArray = ls at hl ⊢
  have hl : lv_has ls 2 [(0, .ref aM), (1, .int x1)] := hl
  unfold f_X8_isRow at h
  refine lv_iload_n hx hb dX8_isRow_0 rfl (lv_at hl 1 rfl) ?_
  refine lv_i2l hx hb dX8_isRow_1 rfl ?_
  refine lv_lconst (v := 0) hx hb dX8_isRow_2 (by decide) ?_
  refine lv_aload_n hx hb dX8_isRow_3 rfl (lv_at hl 0 rfl) ?_
  refine va_get (D := (dC, dI)) (ci := 7) (v := .ref aM_s) (C := RX8) (T := TX8) (N := 37) hx hb hts (fun _ h => List.mem_cons_of_mem _ (List.mem_append_right _ h)) hown hK hP 0 rfl rfl 0 (by decide) (hts (.fieldLink RX8 9 "SlateRowsModel" "s" "[I") (by decide +kernel)) (fun _ h9 => h9) hf_M_s dX8_isRow_4 ?_
  refine lv_iconst (v := 2) hx hb dX8_isRow_7 (by decide) ?_
  obtain ⟨hi, h⟩ := ck_some h
  refine va_iald hx hb hK hP 1 0 rfl rfl (gi_in hi) dX8_isRow_8 ?_
  refine lv_iconst (v := 1) hx hb dX8_isRow_9 (by decide) ?_
  refine lv_isub hx hb dX8_isRow_10 ?_
  refine lv_i2l hx hb dX8_isRow_11 rfl ?_
  obtain ⟨r_1, hg, h⟩ := bd_some h
  refine rdS (As := [.long x1.toInt64, .long 0, .long (((M_s (2 : Int32).toNatClampNeg) - 1).toInt64)]) (rest := []) ⟨hx, hb, hml, hown, hts⟩ (k_X8_isIn l dC dI cI cZ cS N x1.toInt64 0 (((M_s (2 : Int32).toNatClampNeg) - 1).toInt64) r_1 hg) (va_cwS 3 hts gX8_isRow_X8_isIn rfl rfl rfl cd_X8_isIn ⟨Nat.le_of_ble_eq_true rfl, Nat.le_of_ble_eq_true rfl⟩) hP hD hK [] (by decide) rfl rfl hl.1 rfl (Nat.le_of_ble_eq_true rfl) dX8_isRow_12 ⟨Nat.zero_le _, Nat.zero_le _⟩ ?_
  exact W.zret (v := b2i r_1) hx hb hr (b2i_nar _) (fun t ht hW => ⟨b2i r_1, rfl, congrArg b2i (Option.some.inj h), ht⟩) (fun q hq => by cases hq) dX8_isRow_15
def f_X8_inches (N : Nat) (M_s : Nat → Int32) (x1 : Int32) : Option (Int32) :=
  ck (gi (3 + (3 * x1)) 99) (some ((M_s (3 + (3 * x1)).toNatClampNeg)))
set_option maxHeartbeats 4000000 in
set_option maxRecDepth 100000 in
theorem k_X8_inches (l : Launch) (dC : Nat → ClassId) (dI : Nat → Nat → Nat) (cI cZ cS : ClassId) (N : Nat) (aM aM_s : Nat) (fs_M : List Value) (M_s : Nat → Int32) (x1 : Int32) (hf_M_s : fs_M[0]? = some (.ref aM_s)) (res : Int32) (h : f_X8_inches N M_s x1 = some res) : Met l yX8_inches wsX8_inches ({ frames := 0, cells := 0, slots := 0, locals := 0 }) (va_Pc [.ref aM, .int x1] (wd (dC, dI) cI cZ cS [(aM, .inr (7, fs_M)), (aM_s, .inl (cI, 99, .inl M_s))])) (vp_Si (fun r => r = res)) 0 0 (fun _ => False) := by
  refine Met.ofW (cc := cX8_inches) (maxL := 2) (ret := (some .int)) (by decide) rfl ?_
  intro p e s m args below meth c s₁ B hml hv
  obtain ⟨rfl, hP, hK, hD⟩ := hv
  have hx := B.exec
  have hb := B.bytes
  have hr := B.returns
  have hts := atoms_spec (ws := wsX8_inches) B.pre
  have hown : s.vm.findClass RX8 = some m.cls := findClass_of_methodNamed B.named
  have hlocks := B.notSynchronized
  have hl := lv_entry ([.ref aM, .int x1]) (n := 2) (Nat.le_of_ble_eq_true rfl)
  rw [lg_entry_eq]
  generalize (lg_sl ([.ref aM, .int x1]) ++ List.replicate (2 - (lg_sl ([.ref aM, .int x1])).length) Slot.unset).toArray = ls at hl ⊢
  have hl : lv_has ls 2 [(0, .ref aM), (1, .int x1)] := hl
  unfold f_X8_inches at h
  refine lv_aload_n hx hb dX8_inches_0 rfl (lv_at hl 0 rfl) ?_
  refine va_get (D := (dC, dI)) (ci := 7) (v := .ref aM_s) (C := RX8) (T := TX8) (N := 37) hx hb hts (fun _ h => List.mem_cons_of_mem _ (List.mem_append_right _ h)) hown hK hP 0 rfl rfl 0 (by decide) (hts (.fieldLink RX8 9 "SlateRowsModel" "s" "[I") (by decide +kernel)) (fun _ h9 => h9) hf_M_s dX8_inches_1 ?_
  refine lv_iconst (v := 3) hx hb dX8_inches_4 (by decide) ?_
  refine lv_iconst (v := 3) hx hb dX8_inches_5 (by decide) ?_
  refine lv_iload_n hx hb dX8_inches_6 rfl (lv_at hl 1 rfl) ?_
  refine lv_imul hx hb dX8_inches_7 ?_
  refine lv_iadd hx hb dX8_inches_8 ?_
  obtain ⟨hi, h⟩ := ck_some h
  refine va_iald hx hb hK hP 1 0 rfl rfl (gi_in hi) dX8_inches_9 ?_
  exact W.iret hx hb hr (fun t ht hW => ⟨_, rfl, Option.some.inj h, ht⟩) (fun q hq => by cases hq) dX8_inches_10
def f_X8_many (N : Nat) (M_s : Nat → Int32) (x1 : Int32) : Option (Int32) :=
  ck (gi ((3 + (3 * x1)) + 1) 99) (some ((M_s ((3 + (3 * x1)) + 1).toNatClampNeg)))
set_option maxHeartbeats 4000000 in
set_option maxRecDepth 100000 in
theorem k_X8_many (l : Launch) (dC : Nat → ClassId) (dI : Nat → Nat → Nat) (cI cZ cS : ClassId) (N : Nat) (aM aM_s : Nat) (fs_M : List Value) (M_s : Nat → Int32) (x1 : Int32) (hf_M_s : fs_M[0]? = some (.ref aM_s)) (res : Int32) (h : f_X8_many N M_s x1 = some res) : Met l yX8_many wsX8_many ({ frames := 0, cells := 0, slots := 0, locals := 0 }) (va_Pc [.ref aM, .int x1] (wd (dC, dI) cI cZ cS [(aM, .inr (7, fs_M)), (aM_s, .inl (cI, 99, .inl M_s))])) (vp_Si (fun r => r = res)) 0 0 (fun _ => False) := by
  refine Met.ofW (cc := cX8_many) (maxL := 2) (ret := (some .int)) (by decide) rfl ?_
  intro p e s m args below meth c s₁ B hml hv
  obtain ⟨rfl, hP, hK, hD⟩ := hv
  have hx := B.exec
  have hb := B.bytes
  have hr := B.returns
  have hts := atoms_spec (ws := wsX8_many) B.pre
  have hown : s.vm.findClass RX8 = some m.cls := findClass_of_methodNamed B.named
  have hlocks := B.notSynchronized
  have hl := lv_entry ([.ref aM, .int x1]) (n := 2) (Nat.le_of_ble_eq_true rfl)
  rw [lg_entry_eq]
  generalize (lg_sl ([.ref aM, .int x1]) ++ List.replicate (2 - (lg_sl ([.ref aM, .int x1])).length) Slot.unset).toArray = ls at hl ⊢
  have hl : lv_has ls 2 [(0, .ref aM), (1, .int x1)] := hl
  unfold f_X8_many at h
  refine lv_aload_n hx hb dX8_many_0 rfl (lv_at hl 0 rfl) ?_
  refine va_get (D := (dC, dI)) (ci := 7) (v := .ref aM_s) (C := RX8) (T := TX8) (N := 37) hx hb hts (fun _ h => List.mem_cons_of_mem _ (List.mem_append_right _ h)) hown hK hP 0 rfl rfl 0 (by decide) (hts (.fieldLink RX8 9 "SlateRowsModel" "s" "[I") (by decide +kernel)) (fun _ h9 => h9) hf_M_s dX8_many_1 ?_
  refine lv_iconst (v := 3) hx hb dX8_many_4 (by decide) ?_
  refine lv_iconst (v := 3) hx hb dX8_many_5 (by decide) ?_
  refine lv_iload_n hx hb dX8_many_6 rfl (lv_at hl 1 rfl) ?_
  refine lv_imul hx hb dX8_many_7 ?_
  refine lv_iadd hx hb dX8_many_8 ?_
  refine lv_iconst (v := 1) hx hb dX8_many_9 (by decide) ?_
  refine lv_iadd hx hb dX8_many_10 ?_
  obtain ⟨hi, h⟩ := ck_some h
  refine va_iald hx hb hK hP 1 0 rfl rfl (gi_in hi) dX8_many_11 ?_
  exact W.iret hx hb hr (fun t ht hW => ⟨_, rfl, Option.some.inj h, ht⟩) (fun q hq => by cases hq) dX8_many_12
def f_X8_worth (N : Nat) (M_s : Nat → Int32) (x1 : Int32) : Option (Int32) :=
  ck (gi ((3 + (3 * x1)) + 2) 99) (some ((M_s ((3 + (3 * x1)) + 2).toNatClampNeg)))
set_option maxHeartbeats 4000000 in
set_option maxRecDepth 100000 in
theorem k_X8_worth (l : Launch) (dC : Nat → ClassId) (dI : Nat → Nat → Nat) (cI cZ cS : ClassId) (N : Nat) (aM aM_s : Nat) (fs_M : List Value) (M_s : Nat → Int32) (x1 : Int32) (hf_M_s : fs_M[0]? = some (.ref aM_s)) (res : Int32) (h : f_X8_worth N M_s x1 = some res) : Met l yX8_worth wsX8_worth ({ frames := 0, cells := 0, slots := 0, locals := 0 }) (va_Pc [.ref aM, .int x1] (wd (dC, dI) cI cZ cS [(aM, .inr (7, fs_M)), (aM_s, .inl (cI, 99, .inl M_s))])) (vp_Si (fun r => r = res)) 0 0 (fun _ => False) := by
  refine Met.ofW (cc := cX8_worth) (maxL := 2) (ret := (some .int)) (by decide) rfl ?_
  intro p e s m args below meth c s₁ B hml hv
  obtain ⟨rfl, hP, hK, hD⟩ := hv
  have hx := B.exec
  have hb := B.bytes
  have hr := B.returns
  have hts := atoms_spec (ws := wsX8_worth) B.pre
  have hown : s.vm.findClass RX8 = some m.cls := findClass_of_methodNamed B.named
  have hlocks := B.notSynchronized
  have hl := lv_entry ([.ref aM, .int x1]) (n := 2) (Nat.le_of_ble_eq_true rfl)
  rw [lg_entry_eq]
  generalize (lg_sl ([.ref aM, .int x1]) ++ List.replicate (2 - (lg_sl ([.ref aM, .int x1])).length) Slot.unset).toArray = ls at hl ⊢
  have hl : lv_has ls 2 [(0, .ref aM), (1, .int x1)] := hl
  unfold f_X8_worth at h
  refine lv_aload_n hx hb dX8_worth_0 rfl (lv_at hl 0 rfl) ?_
  refine va_get (D := (dC, dI)) (ci := 7) (v := .ref aM_s) (C := RX8) (T := TX8) (N := 37) hx hb hts (fun _ h => List.mem_cons_of_mem _ (List.mem_append_right _ h)) hown hK hP 0 rfl rfl 0 (by decide) (hts (.fieldLink RX8 9 "SlateRowsModel" "s" "[I") (by decide +kernel)) (fun _ h9 => h9) hf_M_s dX8_worth_1 ?_
  refine lv_iconst (v := 3) hx hb dX8_worth_4 (by decide) ?_
  refine lv_iconst (v := 3) hx hb dX8_worth_5 (by decide) ?_
  refine lv_iload_n hx hb dX8_worth_6 rfl (lv_at hl 1 rfl) ?_
  refine lv_imul hx hb dX8_worth_7 ?_
  refine lv_iadd hx hb dX8_worth_8 ?_
  refine lv_iconst (v := 2) hx hb dX8_worth_9 (by decide) ?_
  refine lv_iadd hx hb dX8_worth_10 ?_
  obtain ⟨hi, h⟩ := ck_some h
  refine va_iald hx hb hK hP 1 0 rfl rfl (gi_in hi) dX8_worth_11 ?_
  exact W.iret hx hb hr (fun t ht hW => ⟨_, rfl, Option.some.inj h, ht⟩) (fun q hq => by cases hq) dX8_worth_12
def f_X8_leaves (N : Nat) (M_s : Nat → Int32) (x1 : Int32) (x2 : Int32) : Option ((Nat → Int32)) :=
  ck (gi ((3 + (3 * x1)) + 1) 99) (ck (gi ((3 + (3 * x1)) + 1) 99) (some ((upd M_s ((3 + (3 * x1)) + 1).toNatClampNeg ((M_s ((3 + (3 * x1)) + 1).toNatClampNeg) - x2)))))
set_option maxHeartbeats 4000000 in
set_option maxRecDepth 100000 in
theorem k_X8_leaves (l : Launch) (dC : Nat → ClassId) (dI : Nat → Nat → Nat) (cI cZ cS : ClassId) (N : Nat) (aM aM_s : Nat) (fs_M : List Value) (sz : Nat) (M_s : Nat → Int32) (x1 : Int32) (x2 : Int32) (hf_M_s : fs_M[0]? = some (.ref aM_s)) (res : (Nat → Int32)) (h : f_X8_leaves N M_s x1 x2 = some res) : Met l yX8_leaves wsX8_leaves ({ frames := 0, cells := 0, slots := 0, locals := 0 }) (va_Pc [.ref aM, .int x1, .int x2] (preW (dC, dI) cI cZ cS [(aM, .inr (7, fs_M)), (aM_s, .inl (cI, 99, .inl M_s))] sz)) (va_Qv (fun _ : Unit => True) (fun _ => qW (dC, dI) cI cZ cS (va_A [(aM, .inr (7, fs_M)), (aM_s, .inl (cI, 99, .inl M_s))] sz) [(aM, .inr (7, fs_M)), (aM_s, .inl (cI, 99, .inl res))]) (va_A [(aM, .inr (7, fs_M)), (aM_s, .inl (cI, 99, .inl M_s))] sz)) 0 0 (va_A [(aM, .inr (7, fs_M)), (aM_s, .inl (cI, 99, .inl M_s))] sz) := by
  refine Met.ofW (cc := cX8_leaves) (maxL := 3) (ret := none) (by decide) rfl ?_
  intro p e s m args below meth c s₁ B hml hv
  obtain ⟨rfl, hsz, hP, hK, hD0⟩ := hv
  have hx := B.exec
  have hb := B.bytes
  have hr := B.returns
  have hts := atoms_spec (ws := wsX8_leaves) B.pre
  have hown : s.vm.findClass RX8 = some m.cls := findClass_of_methodNamed B.named
  have hlocks := B.notSynchronized
  subst hsz
  have hD := hD0.self (sz := s.heap.size)
  generalize hAe : va_A [(aM, .inr (7, fs_M)), (aM_s, .inl (cI, 99, .inl M_s))] s.heap.size = A at hD ⊢
  have hA : ∀ q : Nat, s.heap.size ≤ q → A q := fun q h => by rw [← hAe]; exact Or.inr h
  have hS : va_S A s.heap s.heap [] := va_S.rf
  have hl := lv_entry ([.ref aM, .int x1, .int x2]) (n := 3) (Nat.le_of_ble_eq_true rfl)
  rw [lg_entry_eq]
  generalize (lg_sl ([.ref aM, .int x1, .int x2]) ++ List.replicate (3 - (lg_sl ([.ref aM, .int x1, .int x2])).length) Slot.unset).toArray = ls at hl ⊢
  have hl : lv_has ls 3 [(0, .ref aM), (1, .int x1), (2, .int x2)] := hl
  unfold f_X8_leaves at h
  refine lv_aload_n hx hb dX8_leaves_0 rfl (lv_at hl 0 rfl) ?_
  refine va_get (D := (dC, dI)) (ci := 7) (v := .ref aM_s) (C := RX8) (T := TX8) (N := 37) hx hb hts (fun _ h => List.mem_cons_of_mem _ (List.mem_append_right _ h)) hown hK hP 0 rfl rfl 0 (by decide) (hts (.fieldLink RX8 9 "SlateRowsModel" "s" "[I") (by decide +kernel)) (fun _ h9 => h9) hf_M_s dX8_leaves_1 ?_
  refine lv_iconst (v := 3) hx hb dX8_leaves_4 (by decide) ?_
  refine lv_iconst (v := 3) hx hb dX8_leaves_5 (by decide) ?_
  refine lv_iload_n hx hb dX8_leaves_6 rfl (lv_at hl 1 rfl) ?_
  refine lv_imul hx hb dX8_leaves_7 ?_
  refine lv_iadd hx hb dX8_leaves_8 ?_
  refine lv_iconst (v := 1) hx hb dX8_leaves_9 (by decide) ?_
  refine lv_iadd hx hb dX8_leaves_10 ?_
  refine lv_dup2_11 hx hb dX8_leaves_11 rfl rfl ?_
  obtain ⟨hi, h⟩ := ck_some h
  refine va_iald hx hb hK hP 1 0 rfl rfl (gi_in hi) dX8_leaves_12 ?_
  refine lv_iload_n hx hb dX8_leaves_13 rfl (lv_at hl 2 rfl) ?_
  refine lv_isub hx hb dX8_leaves_14 ?_
  obtain ⟨hi, h⟩ := ck_some h
  refine va_iast hx hb hK hP hD hS 1 0 rfl rfl (gi_in hi) dX8_leaves_15 (fun H locs hP hD hS => ?_)
  have hP : va_P (dC, dI) vwCl [(aM, .inr (7, fs_M)), (aM_s, .inl (cI, 99, .inl (upd M_s ((3 + (3 * x1)) + 1).toNatClampNeg ((M_s ((3 + (3 * x1)) + 1).toNatClampNeg) - x2))))] H := hP
  have hD : va_D A [(aM, .inr (7, fs_M)), (aM_s, .inl (cI, 99, .inl (upd M_s ((3 + (3 * x1)) + 1).toNatClampNeg ((M_s ((3 + (3 * x1)) + 1).toNatClampNeg) - x2))))] := hD
  have h := Option.some.inj h
  exact W.vret hx hb hr (fun t ht hW => ⟨⟨(), rfl, trivial, by (try rw [← h]); rw [ht]; exact hP, va_K.moved hW.alike hK, by (try rw [← h]); exact hD⟩, hS.F ht⟩) hS.2.2 dX8_leaves_16
def f_X8_lengthOf (N : Nat) (M_s : Nat → Int32) (x1 : Int32) : Option (Int32) :=
  ck (gi (15 + (14 * x1)) 99) (some ((M_s (15 + (14 * x1)).toNatClampNeg)))
set_option maxHeartbeats 4000000 in
set_option maxRecDepth 100000 in
theorem k_X8_lengthOf (l : Launch) (dC : Nat → ClassId) (dI : Nat → Nat → Nat) (cI cZ cS : ClassId) (N : Nat) (aM aM_s : Nat) (fs_M : List Value) (M_s : Nat → Int32) (x1 : Int32) (hf_M_s : fs_M[0]? = some (.ref aM_s)) (res : Int32) (h : f_X8_lengthOf N M_s x1 = some res) : Met l yX8_lengthOf wsX8_lengthOf ({ frames := 0, cells := 0, slots := 0, locals := 0 }) (va_Pc [.ref aM, .int x1] (wd (dC, dI) cI cZ cS [(aM, .inr (7, fs_M)), (aM_s, .inl (cI, 99, .inl M_s))])) (vp_Si (fun r => r = res)) 0 0 (fun _ => False) := by
  refine Met.ofW (cc := cX8_lengthOf) (maxL := 2) (ret := (some .int)) (by decide) rfl ?_
  intro p e s m args below meth c s₁ B hml hv
  obtain ⟨rfl, hP, hK, hD⟩ := hv
  have hx := B.exec
  have hb := B.bytes
  have hr := B.returns
  have hts := atoms_spec (ws := wsX8_lengthOf) B.pre
  have hown : s.vm.findClass RX8 = some m.cls := findClass_of_methodNamed B.named
  have hlocks := B.notSynchronized
  have hl := lv_entry ([.ref aM, .int x1]) (n := 2) (Nat.le_of_ble_eq_true rfl)
  rw [lg_entry_eq]
  generalize (lg_sl ([.ref aM, .int x1]) ++ List.replicate (2 - (lg_sl ([.ref aM, .int x1])).length) Slot.unset).toArray = ls at hl ⊢
  have hl : lv_has ls 2 [(0, .ref aM), (1, .int x1)] := hl
  unfold f_X8_lengthOf at h
  refine lv_aload_n hx hb dX8_lengthOf_0 rfl (lv_at hl 0 rfl) ?_
  refine va_get (D := (dC, dI)) (ci := 7) (v := .ref aM_s) (C := RX8) (T := TX8) (N := 37) hx hb hts (fun _ h => List.mem_cons_of_mem _ (List.mem_append_right _ h)) hown hK hP 0 rfl rfl 0 (by decide) (hts (.fieldLink RX8 9 "SlateRowsModel" "s" "[I") (by decide +kernel)) (fun _ h9 => h9) hf_M_s dX8_lengthOf_1 ?_
  refine lv_bipush (v := 15) hx hb dX8_lengthOf_4 (by decide) ?_
  refine lv_bipush (v := 14) hx hb dX8_lengthOf_6 (by decide) ?_
  refine lv_iload_n hx hb dX8_lengthOf_8 rfl (lv_at hl 1 rfl) ?_
  refine lv_imul hx hb dX8_lengthOf_9 ?_
  refine lv_iadd hx hb dX8_lengthOf_10 ?_
  obtain ⟨hi, h⟩ := ck_some h
  refine va_iald hx hb hK hP 1 0 rfl rfl (gi_in hi) dX8_lengthOf_11 ?_
  exact W.iret hx hb hr (fun t ht hW => ⟨_, rfl, Option.some.inj h, ht⟩) (fun q hq => by cases hq) dX8_lengthOf_12
def f_X8_slates (N : Nat) (M_s : Nat → Int32) (x1 : Int32) : Option (Int32) :=
  ck (gi ((15 + (14 * x1)) + 1) 99) (some ((M_s ((15 + (14 * x1)) + 1).toNatClampNeg)))
set_option maxHeartbeats 4000000 in
set_option maxRecDepth 100000 in
theorem k_X8_slates (l : Launch) (dC : Nat → ClassId) (dI : Nat → Nat → Nat) (cI cZ cS : ClassId) (N : Nat) (aM aM_s : Nat) (fs_M : List Value) (M_s : Nat → Int32) (x1 : Int32) (hf_M_s : fs_M[0]? = some (.ref aM_s)) (res : Int32) (h : f_X8_slates N M_s x1 = some res) : Met l yX8_slates wsX8_slates ({ frames := 0, cells := 0, slots := 0, locals := 0 }) (va_Pc [.ref aM, .int x1] (wd (dC, dI) cI cZ cS [(aM, .inr (7, fs_M)), (aM_s, .inl (cI, 99, .inl M_s))])) (vp_Si (fun r => r = res)) 0 0 (fun _ => False) := by
  refine Met.ofW (cc := cX8_slates) (maxL := 2) (ret := (some .int)) (by decide) rfl ?_
  intro p e s m args below meth c s₁ B hml hv
  obtain ⟨rfl, hP, hK, hD⟩ := hv
  have hx := B.exec
  have hb := B.bytes
  have hr := B.returns
  have hts := atoms_spec (ws := wsX8_slates) B.pre
  have hown : s.vm.findClass RX8 = some m.cls := findClass_of_methodNamed B.named
  have hlocks := B.notSynchronized
  have hl := lv_entry ([.ref aM, .int x1]) (n := 2) (Nat.le_of_ble_eq_true rfl)
  rw [lg_entry_eq]
  generalize (lg_sl ([.ref aM, .int x1]) ++ List.replicate (2 - (lg_sl ([.ref aM, .int x1])).length) Slot.unset).toArray = ls at hl ⊢
  have hl : lv_has ls 2 [(0, .ref aM), (1, .int x1)] := hl
  unfold f_X8_slates at h
  refine lv_aload_n hx hb dX8_slates_0 rfl (lv_at hl 0 rfl) ?_
  refine va_get (D := (dC, dI)) (ci := 7) (v := .ref aM_s) (C := RX8) (T := TX8) (N := 37) hx hb hts (fun _ h => List.mem_cons_of_mem _ (List.mem_append_right _ h)) hown hK hP 0 rfl rfl 0 (by decide) (hts (.fieldLink RX8 9 "SlateRowsModel" "s" "[I") (by decide +kernel)) (fun _ h9 => h9) hf_M_s dX8_slates_1 ?_
  refine lv_bipush (v := 15) hx hb dX8_slates_4 (by decide) ?_
  refine lv_bipush (v := 14) hx hb dX8_slates_6 (by decide) ?_
  refine lv_iload_n hx hb dX8_slates_8 rfl (lv_at hl 1 rfl) ?_
  refine lv_imul hx hb dX8_slates_9 ?_
  refine lv_iadd hx hb dX8_slates_10 ?_
  refine lv_iconst (v := 1) hx hb dX8_slates_11 (by decide) ?_
  refine lv_iadd hx hb dX8_slates_12 ?_
  obtain ⟨hi, h⟩ := ck_some h
  refine va_iald hx hb hK hP 1 0 rfl rfl (gi_in hi) dX8_slates_13 ?_
  exact W.iret hx hb hr (fun t ht hW => ⟨_, rfl, Option.some.inj h, ht⟩) (fun q hq => by cases hq) dX8_slates_14
def f_X8_slateOf (N : Nat) (M_s : Nat → Int32) (x1 : Int32) (x2 : Int32) : Option (Int32) :=
  ck (gi (((15 + (14 * x1)) + 2) + x2) 99) (some ((M_s (((15 + (14 * x1)) + 2) + x2).toNatClampNeg)))
set_option maxHeartbeats 4000000 in
set_option maxRecDepth 100000 in
theorem k_X8_slateOf (l : Launch) (dC : Nat → ClassId) (dI : Nat → Nat → Nat) (cI cZ cS : ClassId) (N : Nat) (aM aM_s : Nat) (fs_M : List Value) (M_s : Nat → Int32) (x1 : Int32) (x2 : Int32) (hf_M_s : fs_M[0]? = some (.ref aM_s)) (res : Int32) (h : f_X8_slateOf N M_s x1 x2 = some res) : Met l yX8_slateOf wsX8_slateOf ({ frames := 0, cells := 0, slots := 0, locals := 0 }) (va_Pc [.ref aM, .int x1, .int x2] (wd (dC, dI) cI cZ cS [(aM, .inr (7, fs_M)), (aM_s, .inl (cI, 99, .inl M_s))])) (vp_Si (fun r => r = res)) 0 0 (fun _ => False) := by
  refine Met.ofW (cc := cX8_slateOf) (maxL := 3) (ret := (some .int)) (by decide) rfl ?_
  intro p e s m args below meth c s₁ B hml hv
  obtain ⟨rfl, hP, hK, hD⟩ := hv
  have hx := B.exec
  have hb := B.bytes
  have hr := B.returns
  have hts := atoms_spec (ws := wsX8_slateOf) B.pre
  have hown : s.vm.findClass RX8 = some m.cls := findClass_of_methodNamed B.named
  have hlocks := B.notSynchronized
  have hl := lv_entry ([.ref aM, .int x1, .int x2]) (n := 3) (Nat.le_of_ble_eq_true rfl)
  rw [lg_entry_eq]
  generalize (lg_sl ([.ref aM, .int x1, .int x2]) ++ List.replicate (3 - (lg_sl ([.ref aM, .int x1, .int x2])).length) Slot.unset).toArray = ls at hl ⊢
  have hl : lv_has ls 3 [(0, .ref aM), (1, .int x1), (2, .int x2)] := hl
  unfold f_X8_slateOf at h
  refine lv_aload_n hx hb dX8_slateOf_0 rfl (lv_at hl 0 rfl) ?_
  refine va_get (D := (dC, dI)) (ci := 7) (v := .ref aM_s) (C := RX8) (T := TX8) (N := 37) hx hb hts (fun _ h => List.mem_cons_of_mem _ (List.mem_append_right _ h)) hown hK hP 0 rfl rfl 0 (by decide) (hts (.fieldLink RX8 9 "SlateRowsModel" "s" "[I") (by decide +kernel)) (fun _ h9 => h9) hf_M_s dX8_slateOf_1 ?_
  refine lv_bipush (v := 15) hx hb dX8_slateOf_4 (by decide) ?_
  refine lv_bipush (v := 14) hx hb dX8_slateOf_6 (by decide) ?_
  refine lv_iload_n hx hb dX8_slateOf_8 rfl (lv_at hl 1 rfl) ?_
  refine lv_imul hx hb dX8_slateOf_9 ?_
  refine lv_iadd hx hb dX8_slateOf_10 ?_
  refine lv_iconst (v := 2) hx hb dX8_slateOf_11 (by decide) ?_
  refine lv_iadd hx hb dX8_slateOf_12 ?_
  refine lv_iload_n hx hb dX8_slateOf_13 rfl (lv_at hl 2 rfl) ?_
  refine lv_iadd hx hb dX8_slateOf_14 ?_
  obtain ⟨hi, h⟩ := ck_some h
  refine va_iald hx hb hK hP 1 0 rfl rfl (gi_in hi) dX8_slateOf_15 ?_
  exact W.iret hx hb hr (fun t ht hW => ⟨_, rfl, Option.some.inj h, ht⟩) (fun q hq => by cases hq) dX8_slateOf_16
def f_X8_isLaid (N : Nat) (M_s : Nat → Int32) (x1 : Int32) : Option (Bool) :=
  (f_X8_slates N M_s x1).bind fun r_1 => if r_1 ≤ 0 then (some (false)) else (some (true))
set_option maxHeartbeats 4000000 in
set_option maxRecDepth 100000 in
theorem k_X8_isLaid (l : Launch) (dC : Nat → ClassId) (dI : Nat → Nat → Nat) (cI cZ cS : ClassId) (N : Nat) (aM aM_s : Nat) (fs_M : List Value) (M_s : Nat → Int32) (x1 : Int32) (hf_M_s : fs_M[0]? = some (.ref aM_s)) (res : Bool) (h : f_X8_isLaid N M_s x1 = some res) : Met l yX8_isLaid wsX8_isLaid ({ frames := 1, cells := 0, slots := 0, locals := 21 }) (va_Pc [.ref aM, .int x1] (wd (dC, dI) cI cZ cS [(aM, .inr (7, fs_M)), (aM_s, .inl (cI, 99, .inl M_s))])) (vp_Si (fun r => r = b2i res)) 0 0 (fun _ => False) := by
  refine Met.ofW (cc := cX8_isLaid) (maxL := 2) (ret := (some .boolean)) (by decide) rfl ?_
  intro p e s m args below meth c s₁ B hml hv
  obtain ⟨rfl, hP, hK, hD⟩ := hv
  have hx := B.exec
  have hb := B.bytes
  have hr := B.returns
  have hts := atoms_spec (ws := wsX8_isLaid) B.pre
  have hown : s.vm.findClass RX8 = some m.cls := findClass_of_methodNamed B.named
  have hlocks := B.notSynchronized
  have hl := lv_entry ([.ref aM, .int x1]) (n := 2) (Nat.le_of_ble_eq_true rfl)
  rw [lg_entry_eq]
  generalize (lg_sl ([.ref aM, .int x1]) ++ List.replicate (2 - (lg_sl ([.ref aM, .int x1])).length) Slot.unset).toArray = ls at hl ⊢
  have hl : lv_has ls 2 [(0, .ref aM), (1, .int x1)] := hl
  unfold f_X8_isLaid at h
  refine lv_aload_n hx hb dX8_isLaid_0 rfl (lv_at hl 0 rfl) ?_
  refine lv_iload_n hx hb dX8_isLaid_1 rfl (lv_at hl 1 rfl) ?_
  obtain ⟨r_1, hg, h⟩ := bd_some h
  refine rdV (As := [.int x1]) (rest := []) (ci := 7) ⟨hx, hb, hml, hown, hts⟩ (k_X8_slates l dC dI cI cZ cS N aM aM_s fs_M M_s x1 hf_M_s r_1 hg) (cwV 1 hts gX8_isLaid_X8_slates rfl rfl rfl cd_X8_slates ⟨Nat.le_of_ble_eq_true rfl, Nat.le_of_ble_eq_true rfl⟩) hP hD hK [0, 1] (by decide) rfl rfl rfl rfl hl.1 rfl (Nat.le_of_ble_eq_true rfl) dX8_isLaid_2 ⟨Nat.zero_le _, Nat.zero_le _⟩ ?_
  refine lv_if_le (tgt := 12) hx hb dX8_isLaid_5 (by decide) (fun c_2 => ?_) (fun c_2 => ?_)
  · have h := it_p c_2 h
    refine lv_iconst (v := 0) hx hb dX8_isLaid_12 (by decide) ?_
    exact W.zret (v := b2i false) hx hb hr (b2i_nar _) (fun t ht hW => ⟨b2i false, rfl, congrArg b2i (Option.some.inj h), ht⟩) (fun q hq => by cases hq) dX8_isLaid_13
  · have h := it_n c_2 h
    refine lv_iconst (v := 1) hx hb dX8_isLaid_8 (by decide) ?_
    refine lv_goto (tgt := 13) hx hb dX8_isLaid_9 (by decide) ?_
    exact W.zret (v := b2i true) hx hb hr (b2i_nar _) (fun t ht hW => ⟨b2i true, rfl, congrArg b2i (Option.some.inj h), ht⟩) (fun q hq => by cases hq) dX8_isLaid_13
def f_X8_here (N : Nat) (M_element : Nat → Int32) (M_pos : Int32) (M_base : Int32) (M_end : Int32) : Option (Int32) :=
  if M_end ≤ M_pos then (some ((-1000))) else (ck (gi (M_base + M_pos) 800) (some ((M_element (M_base + M_pos).toNatClampNeg))))
set_option maxHeartbeats 4000000 in
set_option maxRecDepth 100000 in
theorem k_X8_here (l : Launch) (dC : Nat → ClassId) (dI : Nat → Nat → Nat) (cI cZ cS : ClassId) (N : Nat) (aM aM_element : Nat) (fs_M : List Value) (M_element : Nat → Int32) (M_pos : Int32) (M_base : Int32) (M_end : Int32) (hf_M_element : fs_M[7]? = some (.ref aM_element)) (hf_M_pos : fs_M[12]? = some (.int M_pos)) (hf_M_base : fs_M[13]? = some (.int M_base)) (hf_M_end : fs_M[14]? = some (.int M_end)) (res : Int32) (h : f_X8_here N M_element M_pos M_base M_end = some res) : Met l yX8_here wsX8_here ({ frames := 0, cells := 0, slots := 0, locals := 0 }) (va_Pc [.ref aM] (wd (dC, dI) cI cZ cS [(aM, .inr (7, fs_M)), (aM_element, .inl (cI, 800, .inl M_element))])) (vp_Si (fun r => r = res)) 0 0 (fun _ => False) := by
  refine Met.ofW (cc := cX8_here) (maxL := 1) (ret := (some .int)) (by decide) rfl ?_
  intro p e s m args below meth c s₁ B hml hv
  obtain ⟨rfl, hP, hK, hD⟩ := hv
  have hx := B.exec
  have hb := B.bytes
  have hr := B.returns
  have hts := atoms_spec (ws := wsX8_here) B.pre
  have hown : s.vm.findClass RX8 = some m.cls := findClass_of_methodNamed B.named
  have hlocks := B.notSynchronized
  have hl := lv_entry ([.ref aM]) (n := 1) (Nat.le_of_ble_eq_true rfl)
  rw [lg_entry_eq]
  generalize (lg_sl ([.ref aM]) ++ List.replicate (1 - (lg_sl ([.ref aM])).length) Slot.unset).toArray = ls at hl ⊢
  have hl : lv_has ls 1 [(0, .ref aM)] := hl
  unfold f_X8_here at h
  refine lv_aload_n hx hb dX8_here_0 rfl (lv_at hl 0 rfl) ?_
  refine va_get (D := (dC, dI)) (ci := 7) (v := .int M_pos) (C := RX8) (T := TX8) (N := 37) hx hb hts (fun _ h => List.mem_cons_of_mem _ (List.mem_append_right _ h)) hown hK hP 0 rfl rfl 12 (by decide) (hts (.fieldLink RX8 73 "SlateRowsModel" "pos" "I") (by decide +kernel)) (fun _ h9 => h9) hf_M_pos dX8_here_1 ?_
  refine lv_aload_n hx hb dX8_here_4 rfl (lv_at hl 0 rfl) ?_
  refine va_get (D := (dC, dI)) (ci := 7) (v := .int M_end) (C := RX8) (T := TX8) (N := 37) hx hb hts (fun _ h => List.mem_cons_of_mem _ (List.mem_append_right _ h)) hown hK hP 0 rfl rfl 14 (by decide) (hts (.fieldLink RX8 76 "SlateRowsModel" "end" "I") (by decide +kernel)) (fun _ h9 => h9) hf_M_end dX8_here_5 ?_
  refine lv_icmp_ge (tgt := 28) hx hb dX8_here_8 (by decide) (fun c_1 => ?_) (fun c_1 => ?_)
  · have h := it_p c_1 h
    refine lv_sipush (v := (-1000)) hx hb dX8_here_28 (by decide) ?_
    exact W.iret hx hb hr (fun t ht hW => ⟨_, rfl, Option.some.inj h, ht⟩) (fun q hq => by cases hq) dX8_here_31
  · have h := it_n c_1 h
    refine lv_aload_n hx hb dX8_here_11 rfl (lv_at hl 0 rfl) ?_
    refine va_get (D := (dC, dI)) (ci := 7) (v := .ref aM_element) (C := RX8) (T := TX8) (N := 37) hx hb hts (fun _ h => List.mem_cons_of_mem _ (List.mem_append_right _ h)) hown hK hP 0 rfl rfl 7 (by decide) (hts (.fieldLink RX8 31 "SlateRowsModel" "element" "[I") (by decide +kernel)) (fun _ h9 => h9) hf_M_element dX8_here_12 ?_
    refine lv_aload_n hx hb dX8_here_15 rfl (lv_at hl 0 rfl) ?_
    refine va_get (D := (dC, dI)) (ci := 7) (v := .int M_base) (C := RX8) (T := TX8) (N := 37) hx hb hts (fun _ h => List.mem_cons_of_mem _ (List.mem_append_right _ h)) hown hK hP 0 rfl rfl 13 (by decide) (hts (.fieldLink RX8 79 "SlateRowsModel" "base" "I") (by decide +kernel)) (fun _ h9 => h9) hf_M_base dX8_here_16 ?_
    refine lv_aload_n hx hb dX8_here_19 rfl (lv_at hl 0 rfl) ?_
    refine va_get (D := (dC, dI)) (ci := 7) (v := .int M_pos) (C := RX8) (T := TX8) (N := 37) hx hb hts (fun _ h => List.mem_cons_of_mem _ (List.mem_append_right _ h)) hown hK hP 0 rfl rfl 12 (by decide) (hts (.fieldLink RX8 73 "SlateRowsModel" "pos" "I") (by decide +kernel)) (fun _ h9 => h9) hf_M_pos dX8_here_20 ?_
    refine lv_iadd hx hb dX8_here_23 ?_
    obtain ⟨hi, h⟩ := ck_some h
    refine va_iald hx hb hK hP 1 0 rfl rfl (gi_in hi) dX8_here_24 ?_
    refine lv_goto (tgt := 31) hx hb dX8_here_25 (by decide) ?_
    exact W.iret hx hb hr (fun t ht hW => ⟨_, rfl, Option.some.inj h, ht⟩) (fun q hq => by cases hq) dX8_here_31
def f_X8_takes (N : Nat) (M_element : Nat → Int32) (M_pos : Int32) (M_base : Int32) (M_end : Int32) (x1 : Int32) : Option (Bool × Int32) :=
  (f_X8_here N M_element M_pos M_base M_end).bind fun r_1 => if r_1 = x1 then (some (true, (M_pos + 1))) else (some (false, M_pos))
set_option maxHeartbeats 4000000 in
set_option maxRecDepth 100000 in
theorem k_X8_takes (l : Launch) (dC : Nat → ClassId) (dI : Nat → Nat → Nat) (cI cZ cS : ClassId) (N : Nat) (aM aM_element aM_s aM_image aM_read aM_saved aM_kept aM_sort aM_size aM_keptKind aM_keptFigure aM_numbers aM_used aM_way aM_found aM_isOne aM_isTwo : Nat) (sz : Nat) (M_element : Nat → Int32) (M_hasImage : Int32) (M_thrown : Int32) (M_pos : Int32) (M_base : Int32) (M_end : Int32) (M_number : Int32) (M_told : Int32) (M_wayRow : Int32) (M_wayTo : Int32) (M_ways : Int32) (M_endsBy : Int32) (M_foundSize : Int32) (M_foundWorth : Int32) (M_foundCut : Int32) (M_z : Int32) (M_aside : Int32) (M_byRow : Int32) (M_byAt : Int32) (M_one : Int32) (M_two : Int32) (M_slatesBy : Int32) (x1 : Int32) (res : Bool × Int32) (h : f_X8_takes N M_element M_pos M_base M_end x1 = some res) : Met l yX8_takes wsX8_takes ({ frames := 1, cells := 0, slots := 0, locals := 20 }) (va_Pc [.ref aM, .int x1] (preW (dC, dI) cI cZ cS [(aM, .inr (7, [.ref aM_s, .ref aM_image, .ref aM_read, .ref aM_saved, .ref aM_kept, .ref aM_sort, .ref aM_size, .ref aM_element, .ref aM_keptKind, .ref aM_keptFigure, .int M_hasImage, .int M_thrown, .int M_pos, .int M_base, .int M_end, .int M_number, .int M_told, .ref aM_numbers, .ref aM_used, .ref aM_way, .ref aM_found, .int M_wayRow, .int M_wayTo, .int M_ways, .int M_endsBy, .int M_foundSize, .int M_foundWorth, .int M_foundCut, .ref aM_isOne, .ref aM_isTwo, .int M_z, .int M_aside, .int M_byRow, .int M_byAt, .int M_one, .int M_two, .int M_slatesBy])), (aM_element, .inl (cI, 800, .inl M_element))] sz)) (va_Qi (fun (r : Int32) (_ : Unit) => r = b2i res.1) (fun _ => qW (dC, dI) cI cZ cS (va_A [(aM, .inr (7, [.ref aM_s, .ref aM_image, .ref aM_read, .ref aM_saved, .ref aM_kept, .ref aM_sort, .ref aM_size, .ref aM_element, .ref aM_keptKind, .ref aM_keptFigure, .int M_hasImage, .int M_thrown, .int M_pos, .int M_base, .int M_end, .int M_number, .int M_told, .ref aM_numbers, .ref aM_used, .ref aM_way, .ref aM_found, .int M_wayRow, .int M_wayTo, .int M_ways, .int M_endsBy, .int M_foundSize, .int M_foundWorth, .int M_foundCut, .ref aM_isOne, .ref aM_isTwo, .int M_z, .int M_aside, .int M_byRow, .int M_byAt, .int M_one, .int M_two, .int M_slatesBy])), (aM_element, .inl (cI, 800, .inl M_element))] sz) [(aM, .inr (7, [.ref aM_s, .ref aM_image, .ref aM_read, .ref aM_saved, .ref aM_kept, .ref aM_sort, .ref aM_size, .ref aM_element, .ref aM_keptKind, .ref aM_keptFigure, .int M_hasImage, .int M_thrown, .int res.2, .int M_base, .int M_end, .int M_number, .int M_told, .ref aM_numbers, .ref aM_used, .ref aM_way, .ref aM_found, .int M_wayRow, .int M_wayTo, .int M_ways, .int M_endsBy, .int M_foundSize, .int M_foundWorth, .int M_foundCut, .ref aM_isOne, .ref aM_isTwo, .int M_z, .int M_aside, .int M_byRow, .int M_byAt, .int M_one, .int M_two, .int M_slatesBy])), (aM_element, .inl (cI, 800, .inl M_element))]) (va_A [(aM, .inr (7, [.ref aM_s, .ref aM_image, .ref aM_read, .ref aM_saved, .ref aM_kept, .ref aM_sort, .ref aM_size, .ref aM_element, .ref aM_keptKind, .ref aM_keptFigure, .int M_hasImage, .int M_thrown, .int M_pos, .int M_base, .int M_end, .int M_number, .int M_told, .ref aM_numbers, .ref aM_used, .ref aM_way, .ref aM_found, .int M_wayRow, .int M_wayTo, .int M_ways, .int M_endsBy, .int M_foundSize, .int M_foundWorth, .int M_foundCut, .ref aM_isOne, .ref aM_isTwo, .int M_z, .int M_aside, .int M_byRow, .int M_byAt, .int M_one, .int M_two, .int M_slatesBy])), (aM_element, .inl (cI, 800, .inl M_element))] sz)) 0 0 (va_A [(aM, .inr (7, [.ref aM_s, .ref aM_image, .ref aM_read, .ref aM_saved, .ref aM_kept, .ref aM_sort, .ref aM_size, .ref aM_element, .ref aM_keptKind, .ref aM_keptFigure, .int M_hasImage, .int M_thrown, .int M_pos, .int M_base, .int M_end, .int M_number, .int M_told, .ref aM_numbers, .ref aM_used, .ref aM_way, .ref aM_found, .int M_wayRow, .int M_wayTo, .int M_ways, .int M_endsBy, .int M_foundSize, .int M_foundWorth, .int M_foundCut, .ref aM_isOne, .ref aM_isTwo, .int M_z, .int M_aside, .int M_byRow, .int M_byAt, .int M_one, .int M_two, .int M_slatesBy])), (aM_element, .inl (cI, 800, .inl M_element))] sz) := by
  refine Met.ofW (cc := cX8_takes) (maxL := 2) (ret := (some .boolean)) (by decide) rfl ?_
  intro p e s m args below meth c s₁ B hml hv
  obtain ⟨rfl, hsz, hP, hK, hD0⟩ := hv
  have hx := B.exec
  have hb := B.bytes
  have hr := B.returns
  have hts := atoms_spec (ws := wsX8_takes) B.pre
  have hown : s.vm.findClass RX8 = some m.cls := findClass_of_methodNamed B.named
  have hlocks := B.notSynchronized
  subst hsz
  have hD := hD0.self (sz := s.heap.size)
  generalize hAe : va_A [(aM, .inr (7, [.ref aM_s, .ref aM_image, .ref aM_read, .ref aM_saved, .ref aM_kept, .ref aM_sort, .ref aM_size, .ref aM_element, .ref aM_keptKind, .ref aM_keptFigure, .int M_hasImage, .int M_thrown, .int M_pos, .int M_base, .int M_end, .int M_number, .int M_told, .ref aM_numbers, .ref aM_used, .ref aM_way, .ref aM_found, .int M_wayRow, .int M_wayTo, .int M_ways, .int M_endsBy, .int M_foundSize, .int M_foundWorth, .int M_foundCut, .ref aM_isOne, .ref aM_isTwo, .int M_z, .int M_aside, .int M_byRow, .int M_byAt, .int M_one, .int M_two, .int M_slatesBy])), (aM_element, .inl (cI, 800, .inl M_element))] s.heap.size = A at hD ⊢
  have hA : ∀ q : Nat, s.heap.size ≤ q → A q := fun q h => by rw [← hAe]; exact Or.inr h
  have hS : va_S A s.heap s.heap [] := va_S.rf
  have hl := lv_entry ([.ref aM, .int x1]) (n := 2) (Nat.le_of_ble_eq_true rfl)
  rw [lg_entry_eq]
  generalize (lg_sl ([.ref aM, .int x1]) ++ List.replicate (2 - (lg_sl ([.ref aM, .int x1])).length) Slot.unset).toArray = ls at hl ⊢
  have hl : lv_has ls 2 [(0, .ref aM), (1, .int x1)] := hl
  unfold f_X8_takes at h
  refine lv_aload_n hx hb dX8_takes_0 rfl (lv_at hl 0 rfl) ?_
  obtain ⟨r_1, hg, h⟩ := bd_some h
  refine rdV (As := []) (rest := []) (ci := 7) ⟨hx, hb, hml, hown, hts⟩ (k_X8_here l dC dI cI cZ cS N aM aM_element [.ref aM_s, .ref aM_image, .ref aM_read, .ref aM_saved, .ref aM_kept, .ref aM_sort, .ref aM_size, .ref aM_element, .ref aM_keptKind, .ref aM_keptFigure, .int M_hasImage, .int M_thrown, .int M_pos, .int M_base, .int M_end, .int M_number, .int M_told, .ref aM_numbers, .ref aM_used, .ref aM_way, .ref aM_found, .int M_wayRow, .int M_wayTo, .int M_ways, .int M_endsBy, .int M_foundSize, .int M_foundWorth, .int M_foundCut, .ref aM_isOne, .ref aM_isTwo, .int M_z, .int M_aside, .int M_byRow, .int M_byAt, .int M_one, .int M_two, .int M_slatesBy] M_element M_pos M_base M_end rfl rfl rfl rfl r_1 hg) (cwV 0 hts gX8_takes_X8_here rfl rfl rfl cd_X8_here ⟨Nat.le_of_ble_eq_true rfl, Nat.le_of_ble_eq_true rfl⟩) hP hD hK [0, 1] (by decide) rfl rfl rfl rfl hl.1 rfl (Nat.le_of_ble_eq_true rfl) dX8_takes_1 ⟨Nat.zero_le _, Nat.zero_le _⟩ ?_
  refine lv_iload_n hx hb dX8_takes_4 rfl (lv_at hl 1 rfl) ?_
  refine lv_icmp_eq (tgt := 10) hx hb dX8_takes_5 (by decide) (fun c_2 => ?_) (fun c_2 => ?_)
  · have h := it_p c_2 h
    refine lv_aload_n hx hb dX8_takes_10 rfl (lv_at hl 0 rfl) ?_
    refine lv_dup hx hb dX8_takes_11 rfl ?_
    refine va_get (D := (dC, dI)) (ci := 7) (v := .int M_pos) (C := RX8) (T := TX8) (N := 37) hx hb hts (fun _ h => List.mem_cons_of_mem _ (List.mem_append_right _ h)) hown hK hP 0 rfl rfl 12 (by decide) (hts (.fieldLink RX8 73 "SlateRowsModel" "pos" "I") (by decide +kernel)) (fun _ h9 => h9) rfl dX8_takes_12 ?_
    refine lv_iconst (v := 1) hx hb dX8_takes_15 (by decide) ?_
    refine lv_iadd hx hb dX8_takes_16 ?_
    refine va_put (D := (dC, dI)) (ci := 7) (v := .int (M_pos + 1)) (ty := .int) (C := RX8) (T := TX8) (N := 37) hx hb hts (fun _ h => List.mem_cons_of_mem _ (List.mem_append_right _ h)) tyX8 tyX8_ok nmX8 hown hK hP hD hS 0 rfl rfl 12 (by decide) (hts (.fieldLink RX8 73 "SlateRowsModel" "pos" "I") (by decide +kernel)) (fun _ h9 => h9) rfl (by decide +kernel) rfl rfl (Nat.le_of_ble_eq_true rfl) dX8_takes_17 (fun H locs hP hD hS => ?_)
    have hP : va_P (dC, dI) vwCl [(aM, .inr (7, [.ref aM_s, .ref aM_image, .ref aM_read, .ref aM_saved, .ref aM_kept, .ref aM_sort, .ref aM_size, .ref aM_element, .ref aM_keptKind, .ref aM_keptFigure, .int M_hasImage, .int M_thrown, .int (M_pos + 1), .int M_base, .int M_end, .int M_number, .int M_told, .ref aM_numbers, .ref aM_used, .ref aM_way, .ref aM_found, .int M_wayRow, .int M_wayTo, .int M_ways, .int M_endsBy, .int M_foundSize, .int M_foundWorth, .int M_foundCut, .ref aM_isOne, .ref aM_isTwo, .int M_z, .int M_aside, .int M_byRow, .int M_byAt, .int M_one, .int M_two, .int M_slatesBy])), (aM_element, .inl (cI, 800, .inl M_element))] H := hP
    have hD : va_D A [(aM, .inr (7, [.ref aM_s, .ref aM_image, .ref aM_read, .ref aM_saved, .ref aM_kept, .ref aM_sort, .ref aM_size, .ref aM_element, .ref aM_keptKind, .ref aM_keptFigure, .int M_hasImage, .int M_thrown, .int (M_pos + 1), .int M_base, .int M_end, .int M_number, .int M_told, .ref aM_numbers, .ref aM_used, .ref aM_way, .ref aM_found, .int M_wayRow, .int M_wayTo, .int M_ways, .int M_endsBy, .int M_foundSize, .int M_foundWorth, .int M_foundCut, .ref aM_isOne, .ref aM_isTwo, .int M_z, .int M_aside, .int M_byRow, .int M_byAt, .int M_one, .int M_two, .int M_slatesBy])), (aM_element, .inl (cI, 800, .inl M_element))] := hD
    refine lv_iconst (v := 1) hx hb dX8_takes_20 (by decide) ?_
    have h := Option.some.inj h
    exact W.zret (v := b2i true) hx hb hr (b2i_nar _) (fun t ht hW => ⟨⟨_, (), rfl, by rw [← h], by (try rw [← h]); rw [ht]; exact hP, va_K.moved hW.alike hK, by (try rw [← h]); exact hD⟩, hS.F ht⟩) hS.2.2 dX8_takes_21
  · have h := it_n c_2 h
    refine lv_iconst (v := 0) hx hb dX8_takes_8 (by decide) ?_
    have h := Option.some.inj h
    exact W.zret (v := b2i false) hx hb hr (b2i_nar _) (fun t ht hW => ⟨⟨_, (), rfl, by rw [← h], by (try rw [← h]); rw [ht]; exact hP, va_K.moved hW.alike hK, by (try rw [← h]); exact hD⟩, hS.F ht⟩) hS.2.2 dX8_takes_9
