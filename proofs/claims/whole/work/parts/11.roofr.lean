theorem cd_X5_of : yX5_of.cls ≠ "java/lang/invoke/MethodHandle" ∧ yX5_of.cls ≠ "java/lang/invoke/VarHandle" ∧ (parseMethodDescriptor yX5_of.desc).map (fun d => d.parameters.length) = some 2 := by decide +kernel
theorem cd_X5_withOneMore : yX5_withOneMore.cls ≠ "java/lang/invoke/MethodHandle" ∧ yX5_withOneMore.cls ≠ "java/lang/invoke/VarHandle" ∧ (parseMethodDescriptor yX5_withOneMore.desc).map (fun d => d.parameters.length) = some 2 := by decide +kernel
theorem cd_X3_slateAt : yX3_slateAt.cls = RX3 ∧ yX3_slateAt.cls ≠ "java/lang/invoke/MethodHandle" ∧ yX3_slateAt.cls ≠ "java/lang/invoke/VarHandle" ∧ (parseMethodDescriptor yX3_slateAt.desc).map (fun d => d.parameters.length) = some 2 := by decide +kernel
theorem cd_X3_endOf : yX3_endOf.cls = RX3 ∧ yX3_endOf.cls ≠ "java/lang/invoke/MethodHandle" ∧ yX3_endOf.cls ≠ "java/lang/invoke/VarHandle" ∧ (parseMethodDescriptor yX3_endOf.desc).map (fun d => d.parameters.length) = some 2 := by decide +kernel
theorem cd_X3_cutOf : yX3_cutOf.cls = RX3 ∧ yX3_cutOf.cls ≠ "java/lang/invoke/MethodHandle" ∧ yX3_cutOf.cls ≠ "java/lang/invoke/VarHandle" ∧ (parseMethodDescriptor yX3_cutOf.desc).map (fun d => d.parameters.length) = some 1 := by decide +kernel
theorem cd_X3_wholeOnesOf : yX3_wholeOnesOf.cls = RX3 ∧ yX3_wholeOnesOf.cls ≠ "java/lang/invoke/MethodHandle" ∧ yX3_wholeOnesOf.cls ≠ "java/lang/invoke/VarHandle" ∧ (parseMethodDescriptor yX3_wholeOnesOf.desc).map (fun d => d.parameters.length) = some 1 := by decide +kernel
theorem cd_X3_allowsJoint : yX3_allowsJoint.cls = RX3 ∧ yX3_allowsJoint.cls ≠ "java/lang/invoke/MethodHandle" ∧ yX3_allowsJoint.cls ≠ "java/lang/invoke/VarHandle" ∧ (parseMethodDescriptor yX3_allowsJoint.desc).map (fun d => d.parameters.length) = some 2 := by decide +kernel
theorem cd_X3_hasInches : yX3_hasInches.cls = RX3 ∧ yX3_hasInches.cls ≠ "java/lang/invoke/MethodHandle" ∧ yX3_hasInches.cls ≠ "java/lang/invoke/VarHandle" ∧ (parseMethodDescriptor yX3_hasInches.desc).map (fun d => d.parameters.length) = some 1 := by decide +kernel
theorem cd_X3_slatesInHeap : yX3_slatesInHeap.cls = RX3 ∧ yX3_slatesInHeap.cls ≠ "java/lang/invoke/MethodHandle" ∧ yX3_slatesInHeap.cls ≠ "java/lang/invoke/VarHandle" ∧ (parseMethodDescriptor yX3_slatesInHeap.desc).map (fun d => d.parameters.length) = some 0 := by decide +kernel
theorem cd_X3_worthOfHeap : yX3_worthOfHeap.cls = RX3 ∧ yX3_worthOfHeap.cls ≠ "java/lang/invoke/MethodHandle" ∧ yX3_worthOfHeap.cls ≠ "java/lang/invoke/VarHandle" ∧ (parseMethodDescriptor yX3_worthOfHeap.desc).map (fun d => d.parameters.length) = some 0 := by decide +kernel
theorem cd_X3_rowsLaid : yX3_rowsLaid.cls = RX3 ∧ yX3_rowsLaid.cls ≠ "java/lang/invoke/MethodHandle" ∧ yX3_rowsLaid.cls ≠ "java/lang/invoke/VarHandle" ∧ (parseMethodDescriptor yX3_rowsLaid.desc).map (fun d => d.parameters.length) = some 0 := by decide +kernel
theorem cd_X3_hasBoth : yX3_hasBoth.cls = RX3 ∧ yX3_hasBoth.cls ≠ "java/lang/invoke/MethodHandle" ∧ yX3_hasBoth.cls ≠ "java/lang/invoke/VarHandle" ∧ (parseMethodDescriptor yX3_hasBoth.desc).map (fun d => d.parameters.length) = some 2 := by decide +kernel
theorem cd_X3_worthOfTaken : yX3_worthOfTaken.cls = RX3 ∧ yX3_worthOfTaken.cls ≠ "java/lang/invoke/MethodHandle" ∧ yX3_worthOfTaken.cls ≠ "java/lang/invoke/VarHandle" ∧ (parseMethodDescriptor yX3_worthOfTaken.desc).map (fun d => d.parameters.length) = some 1 := by decide +kernel
theorem cd_X3_faultOf : yX3_faultOf.cls = RX3 ∧ yX3_faultOf.cls ≠ "java/lang/invoke/MethodHandle" ∧ yX3_faultOf.cls ≠ "java/lang/invoke/VarHandle" ∧ (parseMethodDescriptor yX3_faultOf.desc).map (fun d => d.parameters.length) = some 2 := by decide +kernel
def f_X5_of (N : Nat) (x0 : Int32) (x1 : Int32) : Option (Int32) :=
  some (((x0 >>> ((4 * x1) &&& 31)) &&& 15))
set_option maxHeartbeats 4000000 in
set_option maxRecDepth 100000 in
theorem k_X5_of (l : Launch) (dC : Nat → ClassId) (dI : Nat → Nat → Nat) (cI cZ cS : ClassId) (N : Nat) (x0 : Int32) (x1 : Int32) (res : Int32) (h : f_X5_of N x0 x1 = some res) : Met l yX5_of wsX5_of ({ frames := 0, cells := 0, slots := 0, locals := 0 }) (va_Pc [.int x0, .int x1] (wd (dC, dI) cI cZ cS [])) (vp_Si (fun r => r = res)) 0 0 (fun _ => False) := by
  refine Met.ofW (cc := cX5_of) (maxL := 2) (ret := (some .int)) (by decide) rfl ?_
  intro p e s m args below meth c s₁ B hml hv
  obtain ⟨rfl, hP, hK, hD⟩ := hv
  have hx := B.exec
  have hb := B.bytes
  have hr := B.returns
  have hts := atoms_spec (ws := wsX5_of) B.pre
  have hown : s.vm.findClass RX5 = some m.cls := findClass_of_methodNamed B.named
  have hlocks := B.notSynchronized
  have hl := lv_entry ([.int x0, .int x1]) (n := 2) (Nat.le_of_ble_eq_true rfl)
  rw [lg_entry_eq]
  generalize (lg_sl ([.int x0, .int x1]) ++ List.replicate (2 - (lg_sl ([.int x0, .int x1])).length) Slot.unset).toArray = ls at hl ⊢
  have hl : lv_has ls 2 [(0, .int x0), (1, .int x1)] := hl
  unfold f_X5_of at h
  refine lv_iload_n hx hb dX5_of_0 rfl (lv_at hl 0 rfl) ?_
  refine lv_iconst (v := 4) hx hb dX5_of_1 (by decide) ?_
  refine lv_iload_n hx hb dX5_of_2 rfl (lv_at hl 1 rfl) ?_
  refine lv_imul hx hb dX5_of_3 ?_
  refine lv_ishr hx hb dX5_of_4 ?_
  refine lv_bipush (v := 15) hx hb dX5_of_5 (by decide) ?_
  refine lv_iand hx hb dX5_of_7 ?_
  exact W.iret hx hb hr (fun t ht hW => ⟨_, rfl, Option.some.inj h, ht⟩) (fun q hq => by cases hq) dX5_of_8
def f_X5_withOneMore (N : Nat) (x0 : Int32) (x1 : Int32) : Option (Int32) :=
  some ((x0 + (1 <<< ((4 * x1) &&& 31))))
set_option maxHeartbeats 4000000 in
set_option maxRecDepth 100000 in
theorem k_X5_withOneMore (l : Launch) (dC : Nat → ClassId) (dI : Nat → Nat → Nat) (cI cZ cS : ClassId) (N : Nat) (x0 : Int32) (x1 : Int32) (res : Int32) (h : f_X5_withOneMore N x0 x1 = some res) : Met l yX5_withOneMore wsX5_withOneMore ({ frames := 0, cells := 0, slots := 0, locals := 0 }) (va_Pc [.int x0, .int x1] (wd (dC, dI) cI cZ cS [])) (vp_Si (fun r => r = res)) 0 0 (fun _ => False) := by
  refine Met.ofW (cc := cX5_withOneMore) (maxL := 2) (ret := (some .int)) (by decide) rfl ?_
  intro p e s m args below meth c s₁ B hml hv
  obtain ⟨rfl, hP, hK, hD⟩ := hv
  have hx := B.exec
  have hb := B.bytes
  have hr := B.returns
  have hts := atoms_spec (ws := wsX5_withOneMore) B.pre
  have hown : s.vm.findClass RX5 = some m.cls := findClass_of_methodNamed B.named
  have hlocks := B.notSynchronized
  have hl := lv_entry ([.int x0, .int x1]) (n := 2) (Nat.le_of_ble_eq_true rfl)
  rw [lg_entry_eq]
  generalize (lg_sl ([.int x0, .int x1]) ++ List.replicate (2 - (lg_sl ([.int x0, .int x1])).length) Slot.unset).toArray = ls at hl ⊢
  have hl : lv_has ls 2 [(0, .int x0), (1, .int x1)] := hl
  unfold f_X5_withOneMore at h
  refine lv_iload_n hx hb dX5_withOneMore_0 rfl (lv_at hl 0 rfl) ?_
  refine lv_iconst (v := 1) hx hb dX5_withOneMore_1 (by decide) ?_
  refine lv_iconst (v := 4) hx hb dX5_withOneMore_2 (by decide) ?_
  refine lv_iload_n hx hb dX5_withOneMore_3 rfl (lv_at hl 1 rfl) ?_
  refine lv_imul hx hb dX5_withOneMore_4 ?_
  refine lv_ishl hx hb dX5_withOneMore_5 ?_
  refine lv_iadd hx hb dX5_withOneMore_6 ?_
  exact W.iret hx hb hr (fun t ht hW => ⟨_, rfl, Option.some.inj h, ht⟩) (fun q hq => by cases hq) dX5_withOneMore_7
def f_X3_slateAt (N : Nat) (R_slates : Nat → Int32) (x1 : Int32) (x2 : Int32) : Option (Int32) :=
  ck (gi ((x1 * 12) + x2) 72) (some ((R_slates ((x1 * 12) + x2).toNatClampNeg)))
set_option maxHeartbeats 4000000 in
set_option maxRecDepth 100000 in
theorem k_X3_slateAt (l : Launch) (dC : Nat → ClassId) (dI : Nat → Nat → Nat) (cI cZ cS : ClassId) (N : Nat) (aR aR_inches aR_many aR_worth aR_lengths aR_laid aR_slates : Nat) (R_inches : Nat → Int32) (R_many : Nat → Int32) (R_worth : Nat → Int32) (R_lengths : Nat → Int32) (R_laid : Nat → Int32) (R_slates : Nat → Int32) (R_widths : Int32) (R_rows : Int32) (R_lap : Int32) (x1 : Int32) (x2 : Int32) (res : Int32) (h : f_X3_slateAt N R_slates x1 x2 = some res) : Met l yX3_slateAt wsX3_slateAt ({ frames := 0, cells := 0, slots := 0, locals := 0 }) (va_Pc [.ref aR, .int x1, .int x2] (wd (dC, dI) cI cZ cS [(aR, .inr (3, [.ref aR_inches, .ref aR_many, .ref aR_worth, .ref aR_lengths, .ref aR_laid, .ref aR_slates, .int R_widths, .int R_rows, .int R_lap])), (aR_inches, .inl (cI, 4, .inl R_inches)), (aR_many, .inl (cI, 4, .inl R_many)), (aR_worth, .inl (cI, 4, .inl R_worth)), (aR_lengths, .inl (cI, 6, .inl R_lengths)), (aR_laid, .inl (cI, 6, .inl R_laid)), (aR_slates, .inl (cI, 72, .inl R_slates))])) (vp_Si (fun r => r = res)) 0 0 (fun _ => False) := by
  refine Met.ofW (cc := cX3_slateAt) (maxL := 3) (ret := (some .int)) (by decide) rfl ?_
  intro p e s m args below meth c s₁ B hml hv
  obtain ⟨rfl, hP, hK, hD⟩ := hv
  have hx := B.exec
  have hb := B.bytes
  have hr := B.returns
  have hts := atoms_spec (ws := wsX3_slateAt) B.pre
  have hown : s.vm.findClass RX3 = some m.cls := findClass_of_methodNamed B.named
  have hlocks := B.notSynchronized
  have hl := lv_entry ([.ref aR, .int x1, .int x2]) (n := 3) (Nat.le_of_ble_eq_true rfl)
  rw [lg_entry_eq]
  generalize (lg_sl ([.ref aR, .int x1, .int x2]) ++ List.replicate (3 - (lg_sl ([.ref aR, .int x1, .int x2])).length) Slot.unset).toArray = ls at hl ⊢
  have hl : lv_has ls 3 [(0, .ref aR), (1, .int x1), (2, .int x2)] := hl
  unfold f_X3_slateAt at h
  refine lv_aload_n hx hb dX3_slateAt_0 rfl (lv_at hl 0 rfl) ?_
  refine va_get (D := (dC, dI)) (ci := 3) (v := .ref aR_slates) (C := RX3) (T := TX3) (N := 9) hx hb hts (fun _ h => List.mem_cons_of_mem _ (List.mem_append_right _ h)) hown hK hP 0 rfl rfl 5 (by decide) (hts (.fieldLink RX3 27 "SlateRows$Roof" "slates" "[I") (by decide +kernel)) (fun _ h9 => h9) rfl dX3_slateAt_1 ?_
  refine lv_iload_n hx hb dX3_slateAt_4 rfl (lv_at hl 1 rfl) ?_
  refine lv_bipush (v := 12) hx hb dX3_slateAt_5 (by decide) ?_
  refine lv_imul hx hb dX3_slateAt_7 ?_
  refine lv_iload_n hx hb dX3_slateAt_8 rfl (lv_at hl 2 rfl) ?_
  refine lv_iadd hx hb dX3_slateAt_9 ?_
  obtain ⟨hi, h⟩ := ck_some h
  refine va_iald hx hb hK hP 6 0 rfl rfl (gi_in hi) dX3_slateAt_10 ?_
  exact W.iret hx hb hr (fun t ht hW => ⟨_, rfl, Option.some.inj h, ht⟩) (fun q hq => by cases hq) dX3_slateAt_11
def f_X3_endOf_L5 (N : Nat) (R_inches : Nat → Int32) (R_laid : Nat → Int32) (R_slates : Nat → Int32) (x1 : Int32) (x2 : Int32) : Nat → Int32 → Int32 → Option (Int32)
  | 0, _, _ => none
  | n + 1, v3, v4 =>
    if x2 < v4 then (some (v3)) else (ck (gi x1 6) (if (R_laid x1.toNatClampNeg) ≤ v4 then (some (v3)) else ((f_X3_slateAt N R_slates x1 v4).bind fun r_3 => ck (gi r_3 4) (f_X3_endOf_L5 N R_inches R_laid R_slates x1 x2 n (v3 + (R_inches r_3.toNatClampNeg)) (v4 + 1)))))
def f_X3_endOf (N : Nat) (R_inches : Nat → Int32) (R_laid : Nat → Int32) (R_slates : Nat → Int32) (x1 : Int32) (x2 : Int32) : Option (Int32) :=
  f_X3_endOf_L5 N R_inches R_laid R_slates x1 x2 N 0 0
set_option maxHeartbeats 4000000 in
set_option maxRecDepth 100000 in
theorem k_X3_endOf (l : Launch) (dC : Nat → ClassId) (dI : Nat → Nat → Nat) (cI cZ cS : ClassId) (N : Nat) (aR aR_inches aR_many aR_worth aR_lengths aR_laid aR_slates : Nat) (R_inches : Nat → Int32) (R_many : Nat → Int32) (R_worth : Nat → Int32) (R_lengths : Nat → Int32) (R_laid : Nat → Int32) (R_slates : Nat → Int32) (R_widths : Int32) (R_rows : Int32) (R_lap : Int32) (x1 : Int32) (x2 : Int32) (res : Int32) (h : f_X3_endOf N R_inches R_laid R_slates x1 x2 = some res) : Met l yX3_endOf wsX3_endOf ({ frames := 1, cells := 0, slots := 0, locals := 22 }) (va_Pc [.ref aR, .int x1, .int x2] (wd (dC, dI) cI cZ cS [(aR, .inr (3, [.ref aR_inches, .ref aR_many, .ref aR_worth, .ref aR_lengths, .ref aR_laid, .ref aR_slates, .int R_widths, .int R_rows, .int R_lap])), (aR_inches, .inl (cI, 4, .inl R_inches)), (aR_many, .inl (cI, 4, .inl R_many)), (aR_worth, .inl (cI, 4, .inl R_worth)), (aR_lengths, .inl (cI, 6, .inl R_lengths)), (aR_laid, .inl (cI, 6, .inl R_laid)), (aR_slates, .inl (cI, 72, .inl R_slates))])) (vp_Si (fun r => r = res)) 0 0 (fun _ => False) := by
  refine Met.ofW (cc := cX3_endOf) (maxL := 5) (ret := (some .int)) (by decide) rfl ?_
  intro p e s m args below meth c s₁ B hml hv
  obtain ⟨rfl, hP, hK, hD⟩ := hv
  have hx := B.exec
  have hb := B.bytes
  have hr := B.returns
  have hts := atoms_spec (ws := wsX3_endOf) B.pre
  have hown : s.vm.findClass RX3 = some m.cls := findClass_of_methodNamed B.named
  have hlocks := B.notSynchronized
  have hl := lv_entry ([.ref aR, .int x1, .int x2]) (n := 5) (Nat.le_of_ble_eq_true rfl)
  rw [lg_entry_eq]
  generalize (lg_sl ([.ref aR, .int x1, .int x2]) ++ List.replicate (5 - (lg_sl ([.ref aR, .int x1, .int x2])).length) Slot.unset).toArray = ls at hl ⊢
  have hl : lv_has ls 5 [(0, .ref aR), (1, .int x1), (2, .int x2)] := hl
  unfold f_X3_endOf at h
  refine lv_iconst (v := 0) hx hb dX3_endOf_0 (by decide) ?_
  refine lv_istore_n (lv' := [(3, .int 0), (0, .ref aR), (1, .int x1), (2, .int x2)]) hx hb dX3_endOf_1 rfl hl (by decide) rfl (fun ls hl => ?_)
  refine lv_iconst (v := 0) hx hb dX3_endOf_2 (by decide) ?_
  refine lv_istore (lv' := [(4, .int 0), (3, .int 0), (0, .ref aR), (1, .int x1), (2, .int x2)]) hx hb dX3_endOf_3 hl (by decide) rfl (fun ls hl => ?_)
  have L5_3 : ∀ (n_4 : Nat) (v3_5 : Int32) (v4_6 : Int32)  (ls : Array Slot), f_X3_endOf_L5 N R_inches R_laid R_slates x1 x2 n_4 v3_5 v4_6 = some res → lv_has ls 5 [(0, .ref aR), (1, .int x1), (2, .int x2), (3, .int v3_5), (4, .int v4_6)] → W p l e (headSpec wsX3_endOf ({ frames := 1, cells := 0, slots := 0, locals := 22 })).room s m ([.ref aR, .int x1, .int x2] : List Value).toArray below meth c s.heap [] 0 0 (MQ below (vp_Si (fun r => r = res)) ([.ref aR, .int x1, .int x2] : List Value).toArray s 0 0 (fun _ => False)) (F0 m 5 ls []) := by
    intro n_4
    induction n_4 with
    | zero =>
      intro v3_5 v4_6 ls h
      simp only [f_X3_endOf_L5] at h
      try exact absurd h (by simp)
    | succ n_4 ihn_4 =>
      intro v3_5 v4_6 ls h hl
      rw [f_X3_endOf_L5] at h
      refine lv_iload hx hb dX3_endOf_5 (lv_at hl 4 rfl) ?_
      refine lv_iload_n hx hb dX3_endOf_7 rfl (lv_at hl 2 rfl) ?_
      refine lv_icmp_gt (tgt := 43) hx hb dX3_endOf_8 (by decide) (fun c_7 => ?_) (fun c_7 => ?_)
      · have h := it_p c_7 h
        refine lv_iload_n hx hb dX3_endOf_43 rfl (lv_at hl 3 rfl) ?_
        exact W.iret hx hb hr (fun t ht hW => ⟨_, rfl, Option.some.inj h, ht⟩) (fun q hq => by cases hq) dX3_endOf_44
      · have h := it_n c_7 h
        refine lv_iload hx hb dX3_endOf_11 (lv_at hl 4 rfl) ?_
        refine lv_aload_n hx hb dX3_endOf_13 rfl (lv_at hl 0 rfl) ?_
        refine va_get (D := (dC, dI)) (ci := 3) (v := .ref aR_laid) (C := RX3) (T := TX3) (N := 9) hx hb hts (fun _ h => List.mem_cons_of_mem _ (List.mem_append_right _ h)) hown hK hP 0 rfl rfl 4 (by decide) (hts (.fieldLink RX3 24 "SlateRows$Roof" "laid" "[I") (by decide +kernel)) (fun _ h9 => h9) rfl dX3_endOf_14 ?_
        refine lv_iload_n hx hb dX3_endOf_17 rfl (lv_at hl 1 rfl) ?_
        obtain ⟨hi, h⟩ := ck_some h
        refine va_iald hx hb hK hP 5 0 rfl rfl (gi_in hi) dX3_endOf_18 ?_
        refine lv_icmp_ge (tgt := 43) hx hb dX3_endOf_19 (by decide) (fun c_8 => ?_) (fun c_8 => ?_)
        · have h := it_p c_8 h
          refine lv_iload_n hx hb dX3_endOf_43 rfl (lv_at hl 3 rfl) ?_
          exact W.iret hx hb hr (fun t ht hW => ⟨_, rfl, Option.some.inj h, ht⟩) (fun q hq => by cases hq) dX3_endOf_44
        · have h := it_n c_8 h
          refine lv_iload_n hx hb dX3_endOf_22 rfl (lv_at hl 3 rfl) ?_
          refine lv_aload_n hx hb dX3_endOf_23 rfl (lv_at hl 0 rfl) ?_
          refine va_get (D := (dC, dI)) (ci := 3) (v := .ref aR_inches) (C := RX3) (T := TX3) (N := 9) hx hb hts (fun _ h => List.mem_cons_of_mem _ (List.mem_append_right _ h)) hown hK hP 0 rfl rfl 0 (by decide) (hts (.fieldLink RX3 9 "SlateRows$Roof" "inches" "[I") (by decide +kernel)) (fun _ h9 => h9) rfl dX3_endOf_24 ?_
          refine lv_aload_n hx hb dX3_endOf_27 rfl (lv_at hl 0 rfl) ?_
          refine lv_iload_n hx hb dX3_endOf_28 rfl (lv_at hl 1 rfl) ?_
          refine lv_iload hx hb dX3_endOf_29 (lv_at hl 4 rfl) ?_
          obtain ⟨r_9, hg, h⟩ := bd_some h
          refine rdV (As := [.int x1, .int v4_6]) (rest := [.ref aR_inches, .int v3_5]) (ci := 3) ⟨hx, hb, hml, hown, hts⟩ (k_X3_slateAt l dC dI cI cZ cS N aR aR_inches aR_many aR_worth aR_lengths aR_laid aR_slates R_inches R_many R_worth R_lengths R_laid R_slates R_widths R_rows R_lap x1 v4_6 r_9 hg) (cwV 2 hts gX3_endOf_X3_slateAt rfl rfl rfl cd_X3_slateAt ⟨Nat.le_of_ble_eq_true rfl, Nat.le_of_ble_eq_true rfl⟩) hP hD hK [0, 1, 2, 3, 4, 5, 6] (by decide) rfl rfl rfl rfl hl.1 rfl (Nat.le_of_ble_eq_true rfl) dX3_endOf_31 ⟨Nat.zero_le _, Nat.zero_le _⟩ ?_
          obtain ⟨hi, h⟩ := ck_some h
          refine va_iald hx hb hK hP 1 0 rfl rfl (gi_in hi) dX3_endOf_34 ?_
          refine lv_iadd hx hb dX3_endOf_35 ?_
          refine lv_istore_n (lv' := [(3, .int (v3_5 + (R_inches r_9.toNatClampNeg))), (0, .ref aR), (1, .int x1), (2, .int x2), (4, .int v4_6)]) hx hb dX3_endOf_36 rfl hl (by decide) rfl (fun ls hl => ?_)
          refine lv_iinc (v := (v4_6 + 1)) (lv' := [(4, .int (v4_6 + 1)), (3, .int (v3_5 + (R_inches r_9.toNatClampNeg))), (0, .ref aR), (1, .int x1), (2, .int x2)]) hx hb dX3_endOf_37 hl (k := 4) rfl rfl (by decide) rfl (fun ls hl => ?_)
          refine lv_goto (tgt := 5) hx hb dX3_endOf_40 (by decide) ?_
          exact ihn_4 (v3_5 + (R_inches r_9.toNatClampNeg)) (v4_6 + 1) ls h (lv_sub hl [2, 3, 4, 1, 0] rfl)
  exact L5_3 N 0 0 ls h (lv_sub hl [2, 3, 4, 1, 0] rfl)
def f_X3_cutOf (N : Nat) (R_inches : Nat → Int32) (R_lengths : Nat → Int32) (R_laid : Nat → Int32) (R_slates : Nat → Int32) (x1 : Int32) : Option (Int32) :=
  ck (gi x1 6) (if (R_laid x1.toNatClampNeg) = 0 then (some (0)) else (ck (gi x1 6) ((f_X3_endOf N R_inches R_laid R_slates x1 ((R_laid x1.toNatClampNeg) - 1)).bind fun r_2 => ck (gi x1 6) (some ((r_2 - (R_lengths x1.toNatClampNeg)))))))
set_option maxHeartbeats 4000000 in
set_option maxRecDepth 100000 in
theorem k_X3_cutOf (l : Launch) (dC : Nat → ClassId) (dI : Nat → Nat → Nat) (cI cZ cS : ClassId) (N : Nat) (aR aR_inches aR_many aR_worth aR_lengths aR_laid aR_slates : Nat) (R_inches : Nat → Int32) (R_many : Nat → Int32) (R_worth : Nat → Int32) (R_lengths : Nat → Int32) (R_laid : Nat → Int32) (R_slates : Nat → Int32) (R_widths : Int32) (R_rows : Int32) (R_lap : Int32) (x1 : Int32) (res : Int32) (h : f_X3_cutOf N R_inches R_lengths R_laid R_slates x1 = some res) : Met l yX3_cutOf wsX3_cutOf ({ frames := 2, cells := 0, slots := 0, locals := 46 }) (va_Pc [.ref aR, .int x1] (wd (dC, dI) cI cZ cS [(aR, .inr (3, [.ref aR_inches, .ref aR_many, .ref aR_worth, .ref aR_lengths, .ref aR_laid, .ref aR_slates, .int R_widths, .int R_rows, .int R_lap])), (aR_inches, .inl (cI, 4, .inl R_inches)), (aR_many, .inl (cI, 4, .inl R_many)), (aR_worth, .inl (cI, 4, .inl R_worth)), (aR_lengths, .inl (cI, 6, .inl R_lengths)), (aR_laid, .inl (cI, 6, .inl R_laid)), (aR_slates, .inl (cI, 72, .inl R_slates))])) (vp_Si (fun r => r = res)) 0 0 (fun _ => False) := by
  refine Met.ofW (cc := cX3_cutOf) (maxL := 2) (ret := (some .int)) (by decide) rfl ?_
  intro p e s m args below meth c s₁ B hml hv
  obtain ⟨rfl, hP, hK, hD⟩ := hv
  have hx := B.exec
  have hb := B.bytes
  have hr := B.returns
  have hts := atoms_spec (ws := wsX3_cutOf) B.pre
  have hown : s.vm.findClass RX3 = some m.cls := findClass_of_methodNamed B.named
  have hlocks := B.notSynchronized
  have hl := lv_entry ([.ref aR, .int x1]) (n := 2) (Nat.le_of_ble_eq_true rfl)
  rw [lg_entry_eq]
  generalize (lg_sl ([.ref aR, .int x1]) ++ List.replicate (2 - (lg_sl ([.ref aR, .int x1])).length) Slot.unset).toArray = ls at hl ⊢
  have hl : lv_has ls 2 [(0, .ref aR), (1, .int x1)] := hl
  unfold f_X3_cutOf at h
  refine lv_aload_n hx hb dX3_cutOf_0 rfl (lv_at hl 0 rfl) ?_
  refine va_get (D := (dC, dI)) (ci := 3) (v := .ref aR_laid) (C := RX3) (T := TX3) (N := 9) hx hb hts (fun _ h => List.mem_cons_of_mem _ (List.mem_append_right _ h)) hown hK hP 0 rfl rfl 4 (by decide) (hts (.fieldLink RX3 24 "SlateRows$Roof" "laid" "[I") (by decide +kernel)) (fun _ h9 => h9) rfl dX3_cutOf_1 ?_
  refine lv_iload_n hx hb dX3_cutOf_4 rfl (lv_at hl 1 rfl) ?_
  obtain ⟨hi, h⟩ := ck_some h
  refine va_iald hx hb hK hP 5 0 rfl rfl (gi_in hi) dX3_cutOf_5 ?_
  refine lv_if_ne (tgt := 13) hx hb dX3_cutOf_6 (by decide) (fun c_1 => ?_) (fun c_1 => ?_)
  · have h := it_n c_1 h
    refine lv_aload_n hx hb dX3_cutOf_13 rfl (lv_at hl 0 rfl) ?_
    refine lv_iload_n hx hb dX3_cutOf_14 rfl (lv_at hl 1 rfl) ?_
    refine lv_aload_n hx hb dX3_cutOf_15 rfl (lv_at hl 0 rfl) ?_
    refine va_get (D := (dC, dI)) (ci := 3) (v := .ref aR_laid) (C := RX3) (T := TX3) (N := 9) hx hb hts (fun _ h => List.mem_cons_of_mem _ (List.mem_append_right _ h)) hown hK hP 0 rfl rfl 4 (by decide) (hts (.fieldLink RX3 24 "SlateRows$Roof" "laid" "[I") (by decide +kernel)) (fun _ h9 => h9) rfl dX3_cutOf_16 ?_
    refine lv_iload_n hx hb dX3_cutOf_19 rfl (lv_at hl 1 rfl) ?_
    obtain ⟨hi, h⟩ := ck_some h
    refine va_iald hx hb hK hP 5 0 rfl rfl (gi_in hi) dX3_cutOf_20 ?_
    refine lv_iconst (v := 1) hx hb dX3_cutOf_21 (by decide) ?_
    refine lv_isub hx hb dX3_cutOf_22 ?_
    obtain ⟨r_2, hg, h⟩ := bd_some h
    refine rdV (As := [.int x1, .int ((R_laid x1.toNatClampNeg) - 1)]) (rest := []) (ci := 3) ⟨hx, hb, hml, hown, hts⟩ (k_X3_endOf l dC dI cI cZ cS N aR aR_inches aR_many aR_worth aR_lengths aR_laid aR_slates R_inches R_many R_worth R_lengths R_laid R_slates R_widths R_rows R_lap x1 ((R_laid x1.toNatClampNeg) - 1) r_2 hg) (cwV 2 hts gX3_cutOf_X3_endOf rfl rfl rfl cd_X3_endOf ⟨Nat.le_of_ble_eq_true rfl, Nat.le_of_ble_eq_true rfl⟩) hP hD hK [0, 1, 2, 3, 4, 5, 6] (by decide) rfl rfl rfl rfl hl.1 rfl (Nat.le_of_ble_eq_true rfl) dX3_cutOf_23 ⟨Nat.zero_le _, Nat.zero_le _⟩ ?_
    refine lv_aload_n hx hb dX3_cutOf_26 rfl (lv_at hl 0 rfl) ?_
    refine va_get (D := (dC, dI)) (ci := 3) (v := .ref aR_lengths) (C := RX3) (T := TX3) (N := 9) hx hb hts (fun _ h => List.mem_cons_of_mem _ (List.mem_append_right _ h)) hown hK hP 0 rfl rfl 3 (by decide) (hts (.fieldLink RX3 21 "SlateRows$Roof" "lengths" "[I") (by decide +kernel)) (fun _ h9 => h9) rfl dX3_cutOf_27 ?_
    refine lv_iload_n hx hb dX3_cutOf_30 rfl (lv_at hl 1 rfl) ?_
    obtain ⟨hi, h⟩ := ck_some h
    refine va_iald hx hb hK hP 4 0 rfl rfl (gi_in hi) dX3_cutOf_31 ?_
    refine lv_isub hx hb dX3_cutOf_32 ?_
    exact W.iret hx hb hr (fun t ht hW => ⟨_, rfl, Option.some.inj h, ht⟩) (fun q hq => by cases hq) dX3_cutOf_33
  · have h := it_p c_1 h
    refine lv_iconst (v := 0) hx hb dX3_cutOf_9 (by decide) ?_
    refine lv_goto (tgt := 33) hx hb dX3_cutOf_10 (by decide) ?_
    exact W.iret hx hb hr (fun t ht hW => ⟨_, rfl, Option.some.inj h, ht⟩) (fun q hq => by cases hq) dX3_cutOf_33
def f_X3_wholeOnesOf (N : Nat) (R_inches : Nat → Int32) (R_lengths : Nat → Int32) (R_laid : Nat → Int32) (R_slates : Nat → Int32) (x1 : Int32) : Option (Int32) :=
  (f_X3_cutOf N R_inches R_lengths R_laid R_slates x1).bind fun r_1 => if r_1 ≤ 0 then (ck (gi x1 6) (some ((R_laid x1.toNatClampNeg)))) else (ck (gi x1 6) (some (((R_laid x1.toNatClampNeg) - 1))))
set_option maxHeartbeats 4000000 in
set_option maxRecDepth 100000 in
theorem k_X3_wholeOnesOf (l : Launch) (dC : Nat → ClassId) (dI : Nat → Nat → Nat) (cI cZ cS : ClassId) (N : Nat) (aR aR_inches aR_many aR_worth aR_lengths aR_laid aR_slates : Nat) (R_inches : Nat → Int32) (R_many : Nat → Int32) (R_worth : Nat → Int32) (R_lengths : Nat → Int32) (R_laid : Nat → Int32) (R_slates : Nat → Int32) (R_widths : Int32) (R_rows : Int32) (R_lap : Int32) (x1 : Int32) (res : Int32) (h : f_X3_wholeOnesOf N R_inches R_lengths R_laid R_slates x1 = some res) : Met l yX3_wholeOnesOf wsX3_wholeOnesOf ({ frames := 3, cells := 0, slots := 0, locals := 67 }) (va_Pc [.ref aR, .int x1] (wd (dC, dI) cI cZ cS [(aR, .inr (3, [.ref aR_inches, .ref aR_many, .ref aR_worth, .ref aR_lengths, .ref aR_laid, .ref aR_slates, .int R_widths, .int R_rows, .int R_lap])), (aR_inches, .inl (cI, 4, .inl R_inches)), (aR_many, .inl (cI, 4, .inl R_many)), (aR_worth, .inl (cI, 4, .inl R_worth)), (aR_lengths, .inl (cI, 6, .inl R_lengths)), (aR_laid, .inl (cI, 6, .inl R_laid)), (aR_slates, .inl (cI, 72, .inl R_slates))])) (vp_Si (fun r => r = res)) 0 0 (fun _ => False) := by
  refine Met.ofW (cc := cX3_wholeOnesOf) (maxL := 2) (ret := (some .int)) (by decide) rfl ?_
  intro p e s m args below meth c s₁ B hml hv
  obtain ⟨rfl, hP, hK, hD⟩ := hv
  have hx := B.exec
  have hb := B.bytes
  have hr := B.returns
  have hts := atoms_spec (ws := wsX3_wholeOnesOf) B.pre
  have hown : s.vm.findClass RX3 = some m.cls := findClass_of_methodNamed B.named
  have hlocks := B.notSynchronized
  have hl := lv_entry ([.ref aR, .int x1]) (n := 2) (Nat.le_of_ble_eq_true rfl)
  rw [lg_entry_eq]
  generalize (lg_sl ([.ref aR, .int x1]) ++ List.replicate (2 - (lg_sl ([.ref aR, .int x1])).length) Slot.unset).toArray = ls at hl ⊢
  have hl : lv_has ls 2 [(0, .ref aR), (1, .int x1)] := hl
  unfold f_X3_wholeOnesOf at h
  refine lv_aload_n hx hb dX3_wholeOnesOf_0 rfl (lv_at hl 0 rfl) ?_
  refine lv_iload_n hx hb dX3_wholeOnesOf_1 rfl (lv_at hl 1 rfl) ?_
  obtain ⟨r_1, hg, h⟩ := bd_some h
  refine rdV (As := [.int x1]) (rest := []) (ci := 3) ⟨hx, hb, hml, hown, hts⟩ (k_X3_cutOf l dC dI cI cZ cS N aR aR_inches aR_many aR_worth aR_lengths aR_laid aR_slates R_inches R_many R_worth R_lengths R_laid R_slates R_widths R_rows R_lap x1 r_1 hg) (cwV 1 hts gX3_wholeOnesOf_X3_cutOf rfl rfl rfl cd_X3_cutOf ⟨Nat.le_of_ble_eq_true rfl, Nat.le_of_ble_eq_true rfl⟩) hP hD hK [0, 1, 2, 3, 4, 5, 6] (by decide) rfl rfl rfl rfl hl.1 rfl (Nat.le_of_ble_eq_true rfl) dX3_wholeOnesOf_2 ⟨Nat.zero_le _, Nat.zero_le _⟩ ?_
  refine lv_if_le (tgt := 19) hx hb dX3_wholeOnesOf_5 (by decide) (fun c_2 => ?_) (fun c_2 => ?_)
  · have h := it_p c_2 h
    refine lv_aload_n hx hb dX3_wholeOnesOf_19 rfl (lv_at hl 0 rfl) ?_
    refine va_get (D := (dC, dI)) (ci := 3) (v := .ref aR_laid) (C := RX3) (T := TX3) (N := 9) hx hb hts (fun _ h => List.mem_cons_of_mem _ (List.mem_append_right _ h)) hown hK hP 0 rfl rfl 4 (by decide) (hts (.fieldLink RX3 24 "SlateRows$Roof" "laid" "[I") (by decide +kernel)) (fun _ h9 => h9) rfl dX3_wholeOnesOf_20 ?_
    refine lv_iload_n hx hb dX3_wholeOnesOf_23 rfl (lv_at hl 1 rfl) ?_
    obtain ⟨hi, h⟩ := ck_some h
    refine va_iald hx hb hK hP 5 0 rfl rfl (gi_in hi) dX3_wholeOnesOf_24 ?_
    exact W.iret hx hb hr (fun t ht hW => ⟨_, rfl, Option.some.inj h, ht⟩) (fun q hq => by cases hq) dX3_wholeOnesOf_25
  · have h := it_n c_2 h
    refine lv_aload_n hx hb dX3_wholeOnesOf_8 rfl (lv_at hl 0 rfl) ?_
    refine va_get (D := (dC, dI)) (ci := 3) (v := .ref aR_laid) (C := RX3) (T := TX3) (N := 9) hx hb hts (fun _ h => List.mem_cons_of_mem _ (List.mem_append_right _ h)) hown hK hP 0 rfl rfl 4 (by decide) (hts (.fieldLink RX3 24 "SlateRows$Roof" "laid" "[I") (by decide +kernel)) (fun _ h9 => h9) rfl dX3_wholeOnesOf_9 ?_
    refine lv_iload_n hx hb dX3_wholeOnesOf_12 rfl (lv_at hl 1 rfl) ?_
    obtain ⟨hi, h⟩ := ck_some h
    refine va_iald hx hb hK hP 5 0 rfl rfl (gi_in hi) dX3_wholeOnesOf_13 ?_
    refine lv_iconst (v := 1) hx hb dX3_wholeOnesOf_14 (by decide) ?_
    refine lv_isub hx hb dX3_wholeOnesOf_15 ?_
    refine lv_goto (tgt := 25) hx hb dX3_wholeOnesOf_16 (by decide) ?_
    exact W.iret hx hb hr (fun t ht hW => ⟨_, rfl, Option.some.inj h, ht⟩) (fun q hq => by cases hq) dX3_wholeOnesOf_25
def f_X3_allowsJoint_L12 (N : Nat) (R_inches : Nat → Int32) (R_laid : Nat → Int32) (R_slates : Nat → Int32) (R_lap : Int32) (x1 : Int32) (x2 : Int32) : Nat → Int32 → Int32 → Option (Bool)
  | 0, _, _ => none
  | n + 1, v3, v4 =>
    ck (gi (x1 - 1) 6) (if ((R_laid (x1 - 1).toNatClampNeg) - 1) ≤ v4 then (some (true)) else ((f_X3_slateAt N R_slates (x1 - 1) v4).bind fun r_3 => ck (gi r_3 4) (if R_lap ≤ (ab (x2 - (v3 + (R_inches r_3.toNatClampNeg)))) then (f_X3_allowsJoint_L12 N R_inches R_laid R_slates R_lap x1 x2 n (v3 + (R_inches r_3.toNatClampNeg)) (v4 + 1)) else (some (false)))))
def f_X3_allowsJoint (N : Nat) (R_inches : Nat → Int32) (R_laid : Nat → Int32) (R_slates : Nat → Int32) (R_lap : Int32) (x1 : Int32) (x2 : Int32) : Option (Bool) :=
  if 1 ≤ x1 then (f_X3_allowsJoint_L12 N R_inches R_laid R_slates R_lap x1 x2 N 0 0) else (some (true))
set_option maxHeartbeats 4000000 in
set_option maxRecDepth 100000 in
theorem k_X3_allowsJoint (l : Launch) (dC : Nat → ClassId) (dI : Nat → Nat → Nat) (cI cZ cS : ClassId) (N : Nat) (aR aR_inches aR_many aR_worth aR_lengths aR_laid aR_slates : Nat) (R_inches : Nat → Int32) (R_many : Nat → Int32) (R_worth : Nat → Int32) (R_lengths : Nat → Int32) (R_laid : Nat → Int32) (R_slates : Nat → Int32) (R_widths : Int32) (R_rows : Int32) (R_lap : Int32) (x1 : Int32) (x2 : Int32) (res : Bool) (h : f_X3_allowsJoint N R_inches R_laid R_slates R_lap x1 x2 = some res) : Met l yX3_allowsJoint wsX3_allowsJoint ({ frames := 1, cells := 0, slots := 0, locals := 22 }) (va_Pc [.ref aR, .int x1, .int x2] (wd (dC, dI) cI cZ cS [(aR, .inr (3, [.ref aR_inches, .ref aR_many, .ref aR_worth, .ref aR_lengths, .ref aR_laid, .ref aR_slates, .int R_widths, .int R_rows, .int R_lap])), (aR_inches, .inl (cI, 4, .inl R_inches)), (aR_many, .inl (cI, 4, .inl R_many)), (aR_worth, .inl (cI, 4, .inl R_worth)), (aR_lengths, .inl (cI, 6, .inl R_lengths)), (aR_laid, .inl (cI, 6, .inl R_laid)), (aR_slates, .inl (cI, 72, .inl R_slates))])) (vp_Si (fun r => r = b2i res)) 0 0 (fun _ => False) := by
  refine Met.ofW (cc := cX3_allowsJoint) (maxL := 5) (ret := (some .boolean)) (by decide) rfl ?_
  intro p e s m args below meth c s₁ B hml hv
  obtain ⟨rfl, hP, hK, hD⟩ := hv
  have hx := B.exec
  have hb := B.bytes
  have hr := B.returns
  have hts := atoms_spec (ws := wsX3_allowsJoint) B.pre
  have hown : s.vm.findClass RX3 = some m.cls := findClass_of_methodNamed B.named
  have hlocks := B.notSynchronized
  have hl := lv_entry ([.ref aR, .int x1, .int x2]) (n := 5) (Nat.le_of_ble_eq_true rfl)
  rw [lg_entry_eq]
  generalize (lg_sl ([.ref aR, .int x1, .int x2]) ++ List.replicate (5 - (lg_sl ([.ref aR, .int x1, .int x2])).length) Slot.unset).toArray = ls at hl ⊢
  have hl : lv_has ls 5 [(0, .ref aR), (1, .int x1), (2, .int x2)] := hl
  unfold f_X3_allowsJoint at h
  refine lv_iload_n hx hb dX3_allowsJoint_0 rfl (lv_at hl 1 rfl) ?_
  refine lv_iconst (v := 1) hx hb dX3_allowsJoint_1 (by decide) ?_
  refine lv_icmp_ge (tgt := 7) hx hb dX3_allowsJoint_2 (by decide) (fun c_1 => ?_) (fun c_1 => ?_)
  · have h := it_p c_1 h
    refine lv_iconst (v := 0) hx hb dX3_allowsJoint_7 (by decide) ?_
    refine lv_istore_n (lv' := [(3, .int 0), (0, .ref aR), (1, .int x1), (2, .int x2)]) hx hb dX3_allowsJoint_8 rfl hl (by decide) rfl (fun ls hl => ?_)
    refine lv_iconst (v := 0) hx hb dX3_allowsJoint_9 (by decide) ?_
    refine lv_istore (lv' := [(4, .int 0), (3, .int 0), (0, .ref aR), (1, .int x1), (2, .int x2)]) hx hb dX3_allowsJoint_10 hl (by decide) rfl (fun ls hl => ?_)
    have L12_4 : ∀ (n_5 : Nat) (v3_6 : Int32) (v4_7 : Int32)  (ls : Array Slot), f_X3_allowsJoint_L12 N R_inches R_laid R_slates R_lap x1 x2 n_5 v3_6 v4_7 = some res → lv_has ls 5 [(0, .ref aR), (1, .int x1), (2, .int x2), (3, .int v3_6), (4, .int v4_7)] → W p l e (headSpec wsX3_allowsJoint ({ frames := 1, cells := 0, slots := 0, locals := 22 })).room s m ([.ref aR, .int x1, .int x2] : List Value).toArray below meth c s.heap [] 0 0 (MQ below (vp_Si (fun r => r = b2i res)) ([.ref aR, .int x1, .int x2] : List Value).toArray s 0 0 (fun _ => False)) (F0 m 12 ls []) := by
      intro n_5
      induction n_5 with
      | zero =>
        intro v3_6 v4_7 ls h
        simp only [f_X3_allowsJoint_L12] at h
        try exact absurd h (by simp)
      | succ n_5 ihn_5 =>
        intro v3_6 v4_7 ls h hl
        rw [f_X3_allowsJoint_L12] at h
        refine lv_iload hx hb dX3_allowsJoint_12 (lv_at hl 4 rfl) ?_
        refine lv_aload_n hx hb dX3_allowsJoint_14 rfl (lv_at hl 0 rfl) ?_
        refine va_get (D := (dC, dI)) (ci := 3) (v := .ref aR_laid) (C := RX3) (T := TX3) (N := 9) hx hb hts (fun _ h => List.mem_cons_of_mem _ (List.mem_append_right _ h)) hown hK hP 0 rfl rfl 4 (by decide) (hts (.fieldLink RX3 24 "SlateRows$Roof" "laid" "[I") (by decide +kernel)) (fun _ h9 => h9) rfl dX3_allowsJoint_15 ?_
        refine lv_iload_n hx hb dX3_allowsJoint_18 rfl (lv_at hl 1 rfl) ?_
        refine lv_iconst (v := 1) hx hb dX3_allowsJoint_19 (by decide) ?_
        refine lv_isub hx hb dX3_allowsJoint_20 ?_
        obtain ⟨hi, h⟩ := ck_some h
        refine va_iald hx hb hK hP 5 0 rfl rfl (gi_in hi) dX3_allowsJoint_21 ?_
        refine lv_iconst (v := 1) hx hb dX3_allowsJoint_22 (by decide) ?_
        refine lv_isub hx hb dX3_allowsJoint_23 ?_
        refine lv_icmp_ge (tgt := 65) hx hb dX3_allowsJoint_24 (by decide) (fun c_8 => ?_) (fun c_8 => ?_)
        · have h := it_p c_8 h
          refine lv_iconst (v := 1) hx hb dX3_allowsJoint_65 (by decide) ?_
          exact W.zret (v := b2i true) hx hb hr (b2i_nar _) (fun t ht hW => ⟨b2i true, rfl, congrArg b2i (Option.some.inj h), ht⟩) (fun q hq => by cases hq) dX3_allowsJoint_66
        · have h := it_n c_8 h
          refine lv_iload_n hx hb dX3_allowsJoint_27 rfl (lv_at hl 3 rfl) ?_
          refine lv_aload_n hx hb dX3_allowsJoint_28 rfl (lv_at hl 0 rfl) ?_
          refine va_get (D := (dC, dI)) (ci := 3) (v := .ref aR_inches) (C := RX3) (T := TX3) (N := 9) hx hb hts (fun _ h => List.mem_cons_of_mem _ (List.mem_append_right _ h)) hown hK hP 0 rfl rfl 0 (by decide) (hts (.fieldLink RX3 9 "SlateRows$Roof" "inches" "[I") (by decide +kernel)) (fun _ h9 => h9) rfl dX3_allowsJoint_29 ?_
          refine lv_aload_n hx hb dX3_allowsJoint_32 rfl (lv_at hl 0 rfl) ?_
          refine lv_iload_n hx hb dX3_allowsJoint_33 rfl (lv_at hl 1 rfl) ?_
          refine lv_iconst (v := 1) hx hb dX3_allowsJoint_34 (by decide) ?_
          refine lv_isub hx hb dX3_allowsJoint_35 ?_
          refine lv_iload hx hb dX3_allowsJoint_36 (lv_at hl 4 rfl) ?_
          obtain ⟨r_9, hg, h⟩ := bd_some h
          refine rdV (As := [.int (x1 - 1), .int v4_7]) (rest := [.ref aR_inches, .int v3_6]) (ci := 3) ⟨hx, hb, hml, hown, hts⟩ (k_X3_slateAt l dC dI cI cZ cS N aR aR_inches aR_many aR_worth aR_lengths aR_laid aR_slates R_inches R_many R_worth R_lengths R_laid R_slates R_widths R_rows R_lap (x1 - 1) v4_7 r_9 hg) (cwV 2 hts gX3_allowsJoint_X3_slateAt rfl rfl rfl cd_X3_slateAt ⟨Nat.le_of_ble_eq_true rfl, Nat.le_of_ble_eq_true rfl⟩) hP hD hK [0, 1, 2, 3, 4, 5, 6] (by decide) rfl rfl rfl rfl hl.1 rfl (Nat.le_of_ble_eq_true rfl) dX3_allowsJoint_38 ⟨Nat.zero_le _, Nat.zero_le _⟩ ?_
          obtain ⟨hi, h⟩ := ck_some h
          refine va_iald hx hb hK hP 1 0 rfl rfl (gi_in hi) dX3_allowsJoint_41 ?_
          refine lv_iadd hx hb dX3_allowsJoint_42 ?_
          refine lv_istore_n (lv' := [(3, .int (v3_6 + (R_inches r_9.toNatClampNeg))), (0, .ref aR), (1, .int x1), (2, .int x2), (4, .int v4_7)]) hx hb dX3_allowsJoint_43 rfl hl (by decide) rfl (fun ls hl => ?_)
          refine lv_iload_n hx hb dX3_allowsJoint_44 rfl (lv_at hl 3 rfl) ?_
          refine lv_iload_n hx hb dX3_allowsJoint_45 rfl (lv_at hl 0 rfl) ?_
          refine lv_isub hx hb dX3_allowsJoint_46 ?_
          refine va_mabs hx hb (hml.trans hl.1.symm) hown (hts (.methodLink RX3 61 Lib.Math.abs.name) (by decide +kernel)) (hts (.static Lib.Math.abs.name) (by decide +kernel)) (hts (.initialized "java/lang/Math") (by decide +kernel)) (hts (.code Lib.Math.abs.name Lib.Math.abs.code 1 (some .int)) (by decide +kernel)) (Nat.le_of_ble_eq_true rfl) (Nat.le_of_ble_eq_true rfl) (Nat.zero_le _) (Nat.zero_le _) dX3_allowsJoint_47 ?_
          show W _ _ _ _ _ _ _ _ _ _ _ _ _ _ _ (F0 _ _ _ [.int (ab (x2 - (v3_6 + (R_inches r_9.toNatClampNeg))))])
          refine lv_aload_n hx hb dX3_allowsJoint_50 rfl (lv_at hl 1 rfl) ?_
          refine va_get (D := (dC, dI)) (ci := 3) (v := .int R_lap) (C := RX3) (T := TX3) (N := 9) hx hb hts (fun _ h => List.mem_cons_of_mem _ (List.mem_append_right _ h)) hown hK hP 0 rfl rfl 8 (by decide) (hts (.fieldLink RX3 37 "SlateRows$Roof" "lap" "I") (by decide +kernel)) (fun _ h9 => h9) rfl dX3_allowsJoint_51 ?_
          refine lv_icmp_ge (tgt := 59) hx hb dX3_allowsJoint_54 (by decide) (fun c_10 => ?_) (fun c_10 => ?_)
          · have h := it_p c_10 h
            refine lv_iinc (v := (v4_7 + 1)) (lv' := [(4, .int (v4_7 + 1)), (3, .int (v3_6 + (R_inches r_9.toNatClampNeg))), (0, .ref aR), (1, .int x1), (2, .int x2)]) hx hb dX3_allowsJoint_59 hl (k := 4) rfl rfl (by decide) rfl (fun ls hl => ?_)
            refine lv_goto (tgt := 12) hx hb dX3_allowsJoint_62 (by decide) ?_
            exact ihn_5 (v3_6 + (R_inches r_9.toNatClampNeg)) (v4_7 + 1) ls h (lv_sub hl [2, 3, 4, 1, 0] rfl)
          · have h := it_n c_10 h
            refine lv_iconst (v := 0) hx hb dX3_allowsJoint_57 (by decide) ?_
            exact W.zret (v := b2i false) hx hb hr (b2i_nar _) (fun t ht hW => ⟨b2i false, rfl, congrArg b2i (Option.some.inj h), ht⟩) (fun q hq => by cases hq) dX3_allowsJoint_58
    exact L12_4 N 0 0 ls h (lv_sub hl [2, 3, 4, 1, 0] rfl)
  · have h := it_n c_1 h
    refine lv_iconst (v := 1) hx hb dX3_allowsJoint_5 (by decide) ?_
    exact W.zret (v := b2i true) hx hb hr (b2i_nar _) (fun t ht hW => ⟨b2i true, rfl, congrArg b2i (Option.some.inj h), ht⟩) (fun q hq => by cases hq) dX3_allowsJoint_6
def f_X3_hasInches_L2 (N : Nat) (R_inches : Nat → Int32) (R_widths : Int32) (x1 : Int32) : Nat → Int32 → Option (Bool)
  | 0, _ => none
  | n + 1, v2 =>
    if R_widths ≤ v2 then (some (false)) else (ck (gi v2 4) (if (R_inches v2.toNatClampNeg) = x1 then (some (true)) else (f_X3_hasInches_L2 N R_inches R_widths x1 n (v2 + 1))))
def f_X3_hasInches (N : Nat) (R_inches : Nat → Int32) (R_widths : Int32) (x1 : Int32) : Option (Bool) :=
  f_X3_hasInches_L2 N R_inches R_widths x1 N 0
set_option maxHeartbeats 4000000 in
set_option maxRecDepth 100000 in
theorem k_X3_hasInches (l : Launch) (dC : Nat → ClassId) (dI : Nat → Nat → Nat) (cI cZ cS : ClassId) (N : Nat) (aR aR_inches aR_many aR_worth aR_lengths aR_laid aR_slates : Nat) (R_inches : Nat → Int32) (R_many : Nat → Int32) (R_worth : Nat → Int32) (R_lengths : Nat → Int32) (R_laid : Nat → Int32) (R_slates : Nat → Int32) (R_widths : Int32) (R_rows : Int32) (R_lap : Int32) (x1 : Int32) (res : Bool) (h : f_X3_hasInches N R_inches R_widths x1 = some res) : Met l yX3_hasInches wsX3_hasInches ({ frames := 0, cells := 0, slots := 0, locals := 0 }) (va_Pc [.ref aR, .int x1] (wd (dC, dI) cI cZ cS [(aR, .inr (3, [.ref aR_inches, .ref aR_many, .ref aR_worth, .ref aR_lengths, .ref aR_laid, .ref aR_slates, .int R_widths, .int R_rows, .int R_lap])), (aR_inches, .inl (cI, 4, .inl R_inches)), (aR_many, .inl (cI, 4, .inl R_many)), (aR_worth, .inl (cI, 4, .inl R_worth)), (aR_lengths, .inl (cI, 6, .inl R_lengths)), (aR_laid, .inl (cI, 6, .inl R_laid)), (aR_slates, .inl (cI, 72, .inl R_slates))])) (vp_Si (fun r => r = b2i res)) 0 0 (fun _ => False) := by
  refine Met.ofW (cc := cX3_hasInches) (maxL := 3) (ret := (some .boolean)) (by decide) rfl ?_
  intro p e s m args below meth c s₁ B hml hv
  obtain ⟨rfl, hP, hK, hD⟩ := hv
  have hx := B.exec
  have hb := B.bytes
  have hr := B.returns
  have hts := atoms_spec (ws := wsX3_hasInches) B.pre
  have hown : s.vm.findClass RX3 = some m.cls := findClass_of_methodNamed B.named
  have hlocks := B.notSynchronized
  have hl := lv_entry ([.ref aR, .int x1]) (n := 3) (Nat.le_of_ble_eq_true rfl)
  rw [lg_entry_eq]
  generalize (lg_sl ([.ref aR, .int x1]) ++ List.replicate (3 - (lg_sl ([.ref aR, .int x1])).length) Slot.unset).toArray = ls at hl ⊢
  have hl : lv_has ls 3 [(0, .ref aR), (1, .int x1)] := hl
  unfold f_X3_hasInches at h
  refine lv_iconst (v := 0) hx hb dX3_hasInches_0 (by decide) ?_
  refine lv_istore_n (lv' := [(2, .int 0), (0, .ref aR), (1, .int x1)]) hx hb dX3_hasInches_1 rfl hl (by decide) rfl (fun ls hl => ?_)
  have L2_2 : ∀ (n_3 : Nat) (v2_4 : Int32)  (ls : Array Slot), f_X3_hasInches_L2 N R_inches R_widths x1 n_3 v2_4 = some res → lv_has ls 3 [(0, .ref aR), (1, .int x1), (2, .int v2_4)] → W p l e (headSpec wsX3_hasInches ({ frames := 0, cells := 0, slots := 0, locals := 0 })).room s m ([.ref aR, .int x1] : List Value).toArray below meth c s.heap [] 0 0 (MQ below (vp_Si (fun r => r = b2i res)) ([.ref aR, .int x1] : List Value).toArray s 0 0 (fun _ => False)) (F0 m 2 ls []) := by
    intro n_3
    induction n_3 with
    | zero =>
      intro v2_4 ls h
      simp only [f_X3_hasInches_L2] at h
      try exact absurd h (by simp)
    | succ n_3 ihn_3 =>
      intro v2_4 ls h hl
      rw [f_X3_hasInches_L2] at h
      refine lv_iload_n hx hb dX3_hasInches_2 rfl (lv_at hl 2 rfl) ?_
      refine lv_aload_n hx hb dX3_hasInches_3 rfl (lv_at hl 0 rfl) ?_
      refine va_get (D := (dC, dI)) (ci := 3) (v := .int R_widths) (C := RX3) (T := TX3) (N := 9) hx hb hts (fun _ h => List.mem_cons_of_mem _ (List.mem_append_right _ h)) hown hK hP 0 rfl rfl 6 (by decide) (hts (.fieldLink RX3 30 "SlateRows$Roof" "widths" "I") (by decide +kernel)) (fun _ h9 => h9) rfl dX3_hasInches_4 ?_
      refine lv_icmp_ge (tgt := 28) hx hb dX3_hasInches_7 (by decide) (fun c_5 => ?_) (fun c_5 => ?_)
      · have h := it_p c_5 h
        refine lv_iconst (v := 0) hx hb dX3_hasInches_28 (by decide) ?_
        exact W.zret (v := b2i false) hx hb hr (b2i_nar _) (fun t ht hW => ⟨b2i false, rfl, congrArg b2i (Option.some.inj h), ht⟩) (fun q hq => by cases hq) dX3_hasInches_29
      · have h := it_n c_5 h
        refine lv_aload_n hx hb dX3_hasInches_10 rfl (lv_at hl 0 rfl) ?_
        refine va_get (D := (dC, dI)) (ci := 3) (v := .ref aR_inches) (C := RX3) (T := TX3) (N := 9) hx hb hts (fun _ h => List.mem_cons_of_mem _ (List.mem_append_right _ h)) hown hK hP 0 rfl rfl 0 (by decide) (hts (.fieldLink RX3 9 "SlateRows$Roof" "inches" "[I") (by decide +kernel)) (fun _ h9 => h9) rfl dX3_hasInches_11 ?_
        refine lv_iload_n hx hb dX3_hasInches_14 rfl (lv_at hl 2 rfl) ?_
        obtain ⟨hi, h⟩ := ck_some h
        refine va_iald hx hb hK hP 1 0 rfl rfl (gi_in hi) dX3_hasInches_15 ?_
        refine lv_iload_n hx hb dX3_hasInches_16 rfl (lv_at hl 1 rfl) ?_
        refine lv_icmp_ne (tgt := 22) hx hb dX3_hasInches_17 (by decide) (fun c_6 => ?_) (fun c_6 => ?_)
        · have h := it_n c_6 h
          refine lv_iinc (v := (v2_4 + 1)) (lv' := [(2, .int (v2_4 + 1)), (0, .ref aR), (1, .int x1)]) hx hb dX3_hasInches_22 hl (k := 2) rfl rfl (by decide) rfl (fun ls hl => ?_)
          refine lv_goto (tgt := 2) hx hb dX3_hasInches_25 (by decide) ?_
          exact ihn_3 (v2_4 + 1) ls h (lv_sub hl [1, 2, 0] rfl)
        · have h := it_p c_6 h
          refine lv_iconst (v := 1) hx hb dX3_hasInches_20 (by decide) ?_
          exact W.zret (v := b2i true) hx hb hr (b2i_nar _) (fun t ht hW => ⟨b2i true, rfl, congrArg b2i (Option.some.inj h), ht⟩) (fun q hq => by cases hq) dX3_hasInches_21
  exact L2_2 N 0 ls h (lv_sub hl [1, 2, 0] rfl)
def f_X3_slatesInHeap_L4 (N : Nat) (R_many : Nat → Int32) (R_widths : Int32) : Nat → Int32 → Int32 → Option (Int32)
  | 0, _, _ => none
  | n + 1, v1, v2 =>
    if R_widths ≤ v2 then (some (v1)) else (ck (gi v2 4) (f_X3_slatesInHeap_L4 N R_many R_widths n (v1 + (R_many v2.toNatClampNeg)) (v2 + 1)))
def f_X3_slatesInHeap (N : Nat) (R_many : Nat → Int32) (R_widths : Int32) : Option (Int32) :=
  f_X3_slatesInHeap_L4 N R_many R_widths N 0 0
set_option maxHeartbeats 4000000 in
set_option maxRecDepth 100000 in
theorem k_X3_slatesInHeap (l : Launch) (dC : Nat → ClassId) (dI : Nat → Nat → Nat) (cI cZ cS : ClassId) (N : Nat) (aR aR_inches aR_many aR_worth aR_lengths aR_laid aR_slates : Nat) (R_inches : Nat → Int32) (R_many : Nat → Int32) (R_worth : Nat → Int32) (R_lengths : Nat → Int32) (R_laid : Nat → Int32) (R_slates : Nat → Int32) (R_widths : Int32) (R_rows : Int32) (R_lap : Int32) (res : Int32) (h : f_X3_slatesInHeap N R_many R_widths = some res) : Met l yX3_slatesInHeap wsX3_slatesInHeap ({ frames := 0, cells := 0, slots := 0, locals := 0 }) (va_Pc [.ref aR] (wd (dC, dI) cI cZ cS [(aR, .inr (3, [.ref aR_inches, .ref aR_many, .ref aR_worth, .ref aR_lengths, .ref aR_laid, .ref aR_slates, .int R_widths, .int R_rows, .int R_lap])), (aR_inches, .inl (cI, 4, .inl R_inches)), (aR_many, .inl (cI, 4, .inl R_many)), (aR_worth, .inl (cI, 4, .inl R_worth)), (aR_lengths, .inl (cI, 6, .inl R_lengths)), (aR_laid, .inl (cI, 6, .inl R_laid)), (aR_slates, .inl (cI, 72, .inl R_slates))])) (vp_Si (fun r => r = res)) 0 0 (fun _ => False) := by
  refine Met.ofW (cc := cX3_slatesInHeap) (maxL := 3) (ret := (some .int)) (by decide) rfl ?_
  intro p e s m args below meth c s₁ B hml hv
  obtain ⟨rfl, hP, hK, hD⟩ := hv
  have hx := B.exec
  have hb := B.bytes
  have hr := B.returns
  have hts := atoms_spec (ws := wsX3_slatesInHeap) B.pre
  have hown : s.vm.findClass RX3 = some m.cls := findClass_of_methodNamed B.named
  have hlocks := B.notSynchronized
  have hl := lv_entry ([.ref aR]) (n := 3) (Nat.le_of_ble_eq_true rfl)
  rw [lg_entry_eq]
  generalize (lg_sl ([.ref aR]) ++ List.replicate (3 - (lg_sl ([.ref aR])).length) Slot.unset).toArray = ls at hl ⊢
  have hl : lv_has ls 3 [(0, .ref aR)] := hl
  unfold f_X3_slatesInHeap at h
  refine lv_iconst (v := 0) hx hb dX3_slatesInHeap_0 (by decide) ?_
  refine lv_istore_n (lv' := [(1, .int 0), (0, .ref aR)]) hx hb dX3_slatesInHeap_1 rfl hl (by decide) rfl (fun ls hl => ?_)
  refine lv_iconst (v := 0) hx hb dX3_slatesInHeap_2 (by decide) ?_
  refine lv_istore_n (lv' := [(2, .int 0), (1, .int 0), (0, .ref aR)]) hx hb dX3_slatesInHeap_3 rfl hl (by decide) rfl (fun ls hl => ?_)
  have L4_1 : ∀ (n_2 : Nat) (v1_3 : Int32) (v2_4 : Int32)  (ls : Array Slot), f_X3_slatesInHeap_L4 N R_many R_widths n_2 v1_3 v2_4 = some res → lv_has ls 3 [(0, .ref aR), (1, .int v1_3), (2, .int v2_4)] → W p l e (headSpec wsX3_slatesInHeap ({ frames := 0, cells := 0, slots := 0, locals := 0 })).room s m ([.ref aR] : List Value).toArray below meth c s.heap [] 0 0 (MQ below (vp_Si (fun r => r = res)) ([.ref aR] : List Value).toArray s 0 0 (fun _ => False)) (F0 m 4 ls []) := by
    intro n_2
    induction n_2 with
    | zero =>
      intro v1_3 v2_4 ls h
      simp only [f_X3_slatesInHeap_L4] at h
      try exact absurd h (by simp)
    | succ n_2 ihn_2 =>
      intro v1_3 v2_4 ls h hl
      rw [f_X3_slatesInHeap_L4] at h
      refine lv_iload_n hx hb dX3_slatesInHeap_4 rfl (lv_at hl 2 rfl) ?_
      refine lv_aload_n hx hb dX3_slatesInHeap_5 rfl (lv_at hl 0 rfl) ?_
      refine va_get (D := (dC, dI)) (ci := 3) (v := .int R_widths) (C := RX3) (T := TX3) (N := 9) hx hb hts (fun _ h => List.mem_cons_of_mem _ (List.mem_append_right _ h)) hown hK hP 0 rfl rfl 6 (by decide) (hts (.fieldLink RX3 30 "SlateRows$Roof" "widths" "I") (by decide +kernel)) (fun _ h9 => h9) rfl dX3_slatesInHeap_6 ?_
      refine lv_icmp_ge (tgt := 27) hx hb dX3_slatesInHeap_9 (by decide) (fun c_5 => ?_) (fun c_5 => ?_)
      · have h := it_p c_5 h
        refine lv_iload_n hx hb dX3_slatesInHeap_27 rfl (lv_at hl 1 rfl) ?_
        exact W.iret hx hb hr (fun t ht hW => ⟨_, rfl, Option.some.inj h, ht⟩) (fun q hq => by cases hq) dX3_slatesInHeap_28
      · have h := it_n c_5 h
        refine lv_iload_n hx hb dX3_slatesInHeap_12 rfl (lv_at hl 1 rfl) ?_
        refine lv_aload_n hx hb dX3_slatesInHeap_13 rfl (lv_at hl 0 rfl) ?_
        refine va_get (D := (dC, dI)) (ci := 3) (v := .ref aR_many) (C := RX3) (T := TX3) (N := 9) hx hb hts (fun _ h => List.mem_cons_of_mem _ (List.mem_append_right _ h)) hown hK hP 0 rfl rfl 1 (by decide) (hts (.fieldLink RX3 15 "SlateRows$Roof" "many" "[I") (by decide +kernel)) (fun _ h9 => h9) rfl dX3_slatesInHeap_14 ?_
        refine lv_iload_n hx hb dX3_slatesInHeap_17 rfl (lv_at hl 2 rfl) ?_
        obtain ⟨hi, h⟩ := ck_some h
        refine va_iald hx hb hK hP 2 0 rfl rfl (gi_in hi) dX3_slatesInHeap_18 ?_
        refine lv_iadd hx hb dX3_slatesInHeap_19 ?_
        refine lv_istore_n (lv' := [(1, .int (v1_3 + (R_many v2_4.toNatClampNeg))), (0, .ref aR), (2, .int v2_4)]) hx hb dX3_slatesInHeap_20 rfl hl (by decide) rfl (fun ls hl => ?_)
        refine lv_iinc (v := (v2_4 + 1)) (lv' := [(2, .int (v2_4 + 1)), (1, .int (v1_3 + (R_many v2_4.toNatClampNeg))), (0, .ref aR)]) hx hb dX3_slatesInHeap_21 hl (k := 2) rfl rfl (by decide) rfl (fun ls hl => ?_)
        refine lv_goto (tgt := 4) hx hb dX3_slatesInHeap_24 (by decide) ?_
        exact ihn_2 (v1_3 + (R_many v2_4.toNatClampNeg)) (v2_4 + 1) ls h (lv_sub hl [2, 1, 0] rfl)
  exact L4_1 N 0 0 ls h (lv_sub hl [2, 1, 0] rfl)
def f_X3_worthOfHeap_L4 (N : Nat) (R_many : Nat → Int32) (R_worth : Nat → Int32) (R_widths : Int32) : Nat → Int32 → Int32 → Option (Int32)
  | 0, _, _ => none
  | n + 1, v1, v2 =>
    if R_widths ≤ v2 then (some (v1)) else (ck (gi v2 4) (ck (gi v2 4) (f_X3_worthOfHeap_L4 N R_many R_worth R_widths n (v1 + ((R_many v2.toNatClampNeg) * (R_worth v2.toNatClampNeg))) (v2 + 1))))
def f_X3_worthOfHeap (N : Nat) (R_many : Nat → Int32) (R_worth : Nat → Int32) (R_widths : Int32) : Option (Int32) :=
  f_X3_worthOfHeap_L4 N R_many R_worth R_widths N 0 0
set_option maxHeartbeats 4000000 in
set_option maxRecDepth 100000 in
theorem k_X3_worthOfHeap (l : Launch) (dC : Nat → ClassId) (dI : Nat → Nat → Nat) (cI cZ cS : ClassId) (N : Nat) (aR aR_inches aR_many aR_worth aR_lengths aR_laid aR_slates : Nat) (R_inches : Nat → Int32) (R_many : Nat → Int32) (R_worth : Nat → Int32) (R_lengths : Nat → Int32) (R_laid : Nat → Int32) (R_slates : Nat → Int32) (R_widths : Int32) (R_rows : Int32) (R_lap : Int32) (res : Int32) (h : f_X3_worthOfHeap N R_many R_worth R_widths = some res) : Met l yX3_worthOfHeap wsX3_worthOfHeap ({ frames := 0, cells := 0, slots := 0, locals := 0 }) (va_Pc [.ref aR] (wd (dC, dI) cI cZ cS [(aR, .inr (3, [.ref aR_inches, .ref aR_many, .ref aR_worth, .ref aR_lengths, .ref aR_laid, .ref aR_slates, .int R_widths, .int R_rows, .int R_lap])), (aR_inches, .inl (cI, 4, .inl R_inches)), (aR_many, .inl (cI, 4, .inl R_many)), (aR_worth, .inl (cI, 4, .inl R_worth)), (aR_lengths, .inl (cI, 6, .inl R_lengths)), (aR_laid, .inl (cI, 6, .inl R_laid)), (aR_slates, .inl (cI, 72, .inl R_slates))])) (vp_Si (fun r => r = res)) 0 0 (fun _ => False) := by
  refine Met.ofW (cc := cX3_worthOfHeap) (maxL := 3) (ret := (some .int)) (by decide) rfl ?_
  intro p e s m args below meth c s₁ B hml hv
  obtain ⟨rfl, hP, hK, hD⟩ := hv
  have hx := B.exec
  have hb := B.bytes
  have hr := B.returns
  have hts := atoms_spec (ws := wsX3_worthOfHeap) B.pre
  have hown : s.vm.findClass RX3 = some m.cls := findClass_of_methodNamed B.named
  have hlocks := B.notSynchronized
  have hl := lv_entry ([.ref aR]) (n := 3) (Nat.le_of_ble_eq_true rfl)
  rw [lg_entry_eq]
  generalize (lg_sl ([.ref aR]) ++ List.replicate (3 - (lg_sl ([.ref aR])).length) Slot.unset).toArray = ls at hl ⊢
  have hl : lv_has ls 3 [(0, .ref aR)] := hl
  unfold f_X3_worthOfHeap at h
  refine lv_iconst (v := 0) hx hb dX3_worthOfHeap_0 (by decide) ?_
  refine lv_istore_n (lv' := [(1, .int 0), (0, .ref aR)]) hx hb dX3_worthOfHeap_1 rfl hl (by decide) rfl (fun ls hl => ?_)
  refine lv_iconst (v := 0) hx hb dX3_worthOfHeap_2 (by decide) ?_
  refine lv_istore_n (lv' := [(2, .int 0), (1, .int 0), (0, .ref aR)]) hx hb dX3_worthOfHeap_3 rfl hl (by decide) rfl (fun ls hl => ?_)
  have L4_1 : ∀ (n_2 : Nat) (v1_3 : Int32) (v2_4 : Int32)  (ls : Array Slot), f_X3_worthOfHeap_L4 N R_many R_worth R_widths n_2 v1_3 v2_4 = some res → lv_has ls 3 [(0, .ref aR), (1, .int v1_3), (2, .int v2_4)] → W p l e (headSpec wsX3_worthOfHeap ({ frames := 0, cells := 0, slots := 0, locals := 0 })).room s m ([.ref aR] : List Value).toArray below meth c s.heap [] 0 0 (MQ below (vp_Si (fun r => r = res)) ([.ref aR] : List Value).toArray s 0 0 (fun _ => False)) (F0 m 4 ls []) := by
    intro n_2
    induction n_2 with
    | zero =>
      intro v1_3 v2_4 ls h
      simp only [f_X3_worthOfHeap_L4] at h
      try exact absurd h (by simp)
    | succ n_2 ihn_2 =>
      intro v1_3 v2_4 ls h hl
      rw [f_X3_worthOfHeap_L4] at h
      refine lv_iload_n hx hb dX3_worthOfHeap_4 rfl (lv_at hl 2 rfl) ?_
      refine lv_aload_n hx hb dX3_worthOfHeap_5 rfl (lv_at hl 0 rfl) ?_
      refine va_get (D := (dC, dI)) (ci := 3) (v := .int R_widths) (C := RX3) (T := TX3) (N := 9) hx hb hts (fun _ h => List.mem_cons_of_mem _ (List.mem_append_right _ h)) hown hK hP 0 rfl rfl 6 (by decide) (hts (.fieldLink RX3 30 "SlateRows$Roof" "widths" "I") (by decide +kernel)) (fun _ h9 => h9) rfl dX3_worthOfHeap_6 ?_
      refine lv_icmp_ge (tgt := 34) hx hb dX3_worthOfHeap_9 (by decide) (fun c_5 => ?_) (fun c_5 => ?_)
      · have h := it_p c_5 h
        refine lv_iload_n hx hb dX3_worthOfHeap_34 rfl (lv_at hl 1 rfl) ?_
        exact W.iret hx hb hr (fun t ht hW => ⟨_, rfl, Option.some.inj h, ht⟩) (fun q hq => by cases hq) dX3_worthOfHeap_35
      · have h := it_n c_5 h
        refine lv_iload_n hx hb dX3_worthOfHeap_12 rfl (lv_at hl 1 rfl) ?_
        refine lv_aload_n hx hb dX3_worthOfHeap_13 rfl (lv_at hl 0 rfl) ?_
        refine va_get (D := (dC, dI)) (ci := 3) (v := .ref aR_many) (C := RX3) (T := TX3) (N := 9) hx hb hts (fun _ h => List.mem_cons_of_mem _ (List.mem_append_right _ h)) hown hK hP 0 rfl rfl 1 (by decide) (hts (.fieldLink RX3 15 "SlateRows$Roof" "many" "[I") (by decide +kernel)) (fun _ h9 => h9) rfl dX3_worthOfHeap_14 ?_
        refine lv_iload_n hx hb dX3_worthOfHeap_17 rfl (lv_at hl 2 rfl) ?_
        obtain ⟨hi, h⟩ := ck_some h
        refine va_iald hx hb hK hP 2 0 rfl rfl (gi_in hi) dX3_worthOfHeap_18 ?_
        refine lv_aload_n hx hb dX3_worthOfHeap_19 rfl (lv_at hl 0 rfl) ?_
        refine va_get (D := (dC, dI)) (ci := 3) (v := .ref aR_worth) (C := RX3) (T := TX3) (N := 9) hx hb hts (fun _ h => List.mem_cons_of_mem _ (List.mem_append_right _ h)) hown hK hP 0 rfl rfl 2 (by decide) (hts (.fieldLink RX3 18 "SlateRows$Roof" "worth" "[I") (by decide +kernel)) (fun _ h9 => h9) rfl dX3_worthOfHeap_20 ?_
        refine lv_iload_n hx hb dX3_worthOfHeap_23 rfl (lv_at hl 2 rfl) ?_
        obtain ⟨hi, h⟩ := ck_some h
        refine va_iald hx hb hK hP 3 0 rfl rfl (gi_in hi) dX3_worthOfHeap_24 ?_
        refine lv_imul hx hb dX3_worthOfHeap_25 ?_
        refine lv_iadd hx hb dX3_worthOfHeap_26 ?_
        refine lv_istore_n (lv' := [(1, .int (v1_3 + ((R_many v2_4.toNatClampNeg) * (R_worth v2_4.toNatClampNeg)))), (0, .ref aR), (2, .int v2_4)]) hx hb dX3_worthOfHeap_27 rfl hl (by decide) rfl (fun ls hl => ?_)
        refine lv_iinc (v := (v2_4 + 1)) (lv' := [(2, .int (v2_4 + 1)), (1, .int (v1_3 + ((R_many v2_4.toNatClampNeg) * (R_worth v2_4.toNatClampNeg)))), (0, .ref aR)]) hx hb dX3_worthOfHeap_28 hl (k := 2) rfl rfl (by decide) rfl (fun ls hl => ?_)
        refine lv_goto (tgt := 4) hx hb dX3_worthOfHeap_31 (by decide) ?_
        exact ihn_2 (v1_3 + ((R_many v2_4.toNatClampNeg) * (R_worth v2_4.toNatClampNeg))) (v2_4 + 1) ls h (lv_sub hl [2, 1, 0] rfl)
  exact L4_1 N 0 0 ls h (lv_sub hl [2, 1, 0] rfl)
def f_X3_rowsLaid_L4 (N : Nat) (R_laid : Nat → Int32) (R_rows : Int32) : Nat → Int32 → Int32 → Option (Int32)
  | 0, _, _ => none
  | n + 1, v1, v2 =>
    if R_rows ≤ v2 then (some (v1)) else (ck (gi v2 6) (if (R_laid v2.toNatClampNeg) ≤ 0 then (f_X3_rowsLaid_L4 N R_laid R_rows n v1 (v2 + 1)) else (f_X3_rowsLaid_L4 N R_laid R_rows n (v1 + 1) (v2 + 1))))
def f_X3_rowsLaid (N : Nat) (R_laid : Nat → Int32) (R_rows : Int32) : Option (Int32) :=
  f_X3_rowsLaid_L4 N R_laid R_rows N 0 0
set_option maxHeartbeats 4000000 in
set_option maxRecDepth 100000 in
theorem k_X3_rowsLaid (l : Launch) (dC : Nat → ClassId) (dI : Nat → Nat → Nat) (cI cZ cS : ClassId) (N : Nat) (aR aR_inches aR_many aR_worth aR_lengths aR_laid aR_slates : Nat) (R_inches : Nat → Int32) (R_many : Nat → Int32) (R_worth : Nat → Int32) (R_lengths : Nat → Int32) (R_laid : Nat → Int32) (R_slates : Nat → Int32) (R_widths : Int32) (R_rows : Int32) (R_lap : Int32) (res : Int32) (h : f_X3_rowsLaid N R_laid R_rows = some res) : Met l yX3_rowsLaid wsX3_rowsLaid ({ frames := 0, cells := 0, slots := 0, locals := 0 }) (va_Pc [.ref aR] (wd (dC, dI) cI cZ cS [(aR, .inr (3, [.ref aR_inches, .ref aR_many, .ref aR_worth, .ref aR_lengths, .ref aR_laid, .ref aR_slates, .int R_widths, .int R_rows, .int R_lap])), (aR_inches, .inl (cI, 4, .inl R_inches)), (aR_many, .inl (cI, 4, .inl R_many)), (aR_worth, .inl (cI, 4, .inl R_worth)), (aR_lengths, .inl (cI, 6, .inl R_lengths)), (aR_laid, .inl (cI, 6, .inl R_laid)), (aR_slates, .inl (cI, 72, .inl R_slates))])) (vp_Si (fun r => r = res)) 0 0 (fun _ => False) := by
  refine Met.ofW (cc := cX3_rowsLaid) (maxL := 3) (ret := (some .int)) (by decide) rfl ?_
  intro p e s m args below meth c s₁ B hml hv
  obtain ⟨rfl, hP, hK, hD⟩ := hv
  have hx := B.exec
  have hb := B.bytes
  have hr := B.returns
  have hts := atoms_spec (ws := wsX3_rowsLaid) B.pre
  have hown : s.vm.findClass RX3 = some m.cls := findClass_of_methodNamed B.named
  have hlocks := B.notSynchronized
  have hl := lv_entry ([.ref aR]) (n := 3) (Nat.le_of_ble_eq_true rfl)
  rw [lg_entry_eq]
  generalize (lg_sl ([.ref aR]) ++ List.replicate (3 - (lg_sl ([.ref aR])).length) Slot.unset).toArray = ls at hl ⊢
  have hl : lv_has ls 3 [(0, .ref aR)] := hl
  unfold f_X3_rowsLaid at h
  refine lv_iconst (v := 0) hx hb dX3_rowsLaid_0 (by decide) ?_
  refine lv_istore_n (lv' := [(1, .int 0), (0, .ref aR)]) hx hb dX3_rowsLaid_1 rfl hl (by decide) rfl (fun ls hl => ?_)
  refine lv_iconst (v := 0) hx hb dX3_rowsLaid_2 (by decide) ?_
  refine lv_istore_n (lv' := [(2, .int 0), (1, .int 0), (0, .ref aR)]) hx hb dX3_rowsLaid_3 rfl hl (by decide) rfl (fun ls hl => ?_)
  have L4_2 : ∀ (n_3 : Nat) (v1_4 : Int32) (v2_5 : Int32)  (ls : Array Slot), f_X3_rowsLaid_L4 N R_laid R_rows n_3 v1_4 v2_5 = some res → lv_has ls 3 [(0, .ref aR), (1, .int v1_4), (2, .int v2_5)] → W p l e (headSpec wsX3_rowsLaid ({ frames := 0, cells := 0, slots := 0, locals := 0 })).room s m ([.ref aR] : List Value).toArray below meth c s.heap [] 0 0 (MQ below (vp_Si (fun r => r = res)) ([.ref aR] : List Value).toArray s 0 0 (fun _ => False)) (F0 m 4 ls []) := by
    intro n_3
    induction n_3 with
    | zero =>
      intro v1_4 v2_5 ls h
      simp only [f_X3_rowsLaid_L4] at h
      try exact absurd h (by simp)
    | succ n_3 ihn_3 =>
      intro v1_4 v2_5 ls h hl
      rw [f_X3_rowsLaid_L4] at h
      refine lv_iload_n hx hb dX3_rowsLaid_4 rfl (lv_at hl 2 rfl) ?_
      refine lv_aload_n hx hb dX3_rowsLaid_5 rfl (lv_at hl 0 rfl) ?_
      refine va_get (D := (dC, dI)) (ci := 3) (v := .int R_rows) (C := RX3) (T := TX3) (N := 9) hx hb hts (fun _ h => List.mem_cons_of_mem _ (List.mem_append_right _ h)) hown hK hP 0 rfl rfl 7 (by decide) (hts (.fieldLink RX3 34 "SlateRows$Roof" "rows" "I") (by decide +kernel)) (fun _ h9 => h9) rfl dX3_rowsLaid_6 ?_
      refine lv_icmp_ge (tgt := 30) hx hb dX3_rowsLaid_9 (by decide) (fun c_6 => ?_) (fun c_6 => ?_)
      · have h := it_p c_6 h
        refine lv_iload_n hx hb dX3_rowsLaid_30 rfl (lv_at hl 1 rfl) ?_
        exact W.iret hx hb hr (fun t ht hW => ⟨_, rfl, Option.some.inj h, ht⟩) (fun q hq => by cases hq) dX3_rowsLaid_31
      · have h := it_n c_6 h
        refine lv_aload_n hx hb dX3_rowsLaid_12 rfl (lv_at hl 0 rfl) ?_
        refine va_get (D := (dC, dI)) (ci := 3) (v := .ref aR_laid) (C := RX3) (T := TX3) (N := 9) hx hb hts (fun _ h => List.mem_cons_of_mem _ (List.mem_append_right _ h)) hown hK hP 0 rfl rfl 4 (by decide) (hts (.fieldLink RX3 24 "SlateRows$Roof" "laid" "[I") (by decide +kernel)) (fun _ h9 => h9) rfl dX3_rowsLaid_13 ?_
        refine lv_iload_n hx hb dX3_rowsLaid_16 rfl (lv_at hl 2 rfl) ?_
        obtain ⟨hi, h⟩ := ck_some h
        refine va_iald hx hb hK hP 5 0 rfl rfl (gi_in hi) dX3_rowsLaid_17 ?_
        refine lv_if_le (tgt := 24) hx hb dX3_rowsLaid_18 (by decide) (fun c_7 => ?_) (fun c_7 => ?_)
        · have h := it_p c_7 h
          refine lv_iinc (v := (v2_5 + 1)) (lv' := [(2, .int (v2_5 + 1)), (0, .ref aR), (1, .int v1_4)]) hx hb dX3_rowsLaid_24 hl (k := 2) rfl rfl (by decide) rfl (fun ls hl => ?_)
          refine lv_goto (tgt := 4) hx hb dX3_rowsLaid_27 (by decide) ?_
          exact ihn_3 v1_4 (v2_5 + 1) ls h (lv_sub hl [1, 2, 0] rfl)
        · have h := it_n c_7 h
          refine lv_iinc (v := (v1_4 + 1)) (lv' := [(1, .int (v1_4 + 1)), (0, .ref aR), (2, .int v2_5)]) hx hb dX3_rowsLaid_21 hl (k := 1) rfl rfl (by decide) rfl (fun ls hl => ?_)
          refine lv_iinc (v := (v2_5 + 1)) (lv' := [(2, .int (v2_5 + 1)), (1, .int (v1_4 + 1)), (0, .ref aR)]) hx hb dX3_rowsLaid_24 hl (k := 2) rfl rfl (by decide) rfl (fun ls hl => ?_)
          refine lv_goto (tgt := 4) hx hb dX3_rowsLaid_27 (by decide) ?_
          exact ihn_3 (v1_4 + 1) (v2_5 + 1) ls h (lv_sub hl [2, 1, 0] rfl)
  exact L4_2 N 0 0 ls h (lv_sub hl [2, 1, 0] rfl)
def f_X3_hasBoth_L2 (N : Nat) (R_many : Nat → Int32) (R_widths : Int32) (x1 : Int32) (x2 : Int32) : Nat → Int32 → Option (Bool)
  | 0, _ => none
  | n + 1, v3 =>
    if R_widths ≤ v3 then (some (true)) else ((f_X5_of N x1 v3).bind fun r_2 => (f_X5_of N x2 v3).bind fun r_3 => ck (gi v3 4) (if (r_2 + r_3) ≤ (R_many v3.toNatClampNeg) then (f_X3_hasBoth_L2 N R_many R_widths x1 x2 n (v3 + 1)) else (some (false))))
def f_X3_hasBoth (N : Nat) (R_many : Nat → Int32) (R_widths : Int32) (x1 : Int32) (x2 : Int32) : Option (Bool) :=
  f_X3_hasBoth_L2 N R_many R_widths x1 x2 N 0
set_option maxHeartbeats 4000000 in
set_option maxRecDepth 100000 in
theorem k_X3_hasBoth (l : Launch) (dC : Nat → ClassId) (dI : Nat → Nat → Nat) (cI cZ cS : ClassId) (N : Nat) (aR aR_inches aR_many aR_worth aR_lengths aR_laid aR_slates : Nat) (R_inches : Nat → Int32) (R_many : Nat → Int32) (R_worth : Nat → Int32) (R_lengths : Nat → Int32) (R_laid : Nat → Int32) (R_slates : Nat → Int32) (R_widths : Int32) (R_rows : Int32) (R_lap : Int32) (x1 : Int32) (x2 : Int32) (res : Bool) (h : f_X3_hasBoth N R_many R_widths x1 x2 = some res) : Met l yX3_hasBoth wsX3_hasBoth ({ frames := 1, cells := 0, slots := 0, locals := 21 }) (va_Pc [.ref aR, .int x1, .int x2] (wd (dC, dI) cI cZ cS [(aR, .inr (3, [.ref aR_inches, .ref aR_many, .ref aR_worth, .ref aR_lengths, .ref aR_laid, .ref aR_slates, .int R_widths, .int R_rows, .int R_lap])), (aR_inches, .inl (cI, 4, .inl R_inches)), (aR_many, .inl (cI, 4, .inl R_many)), (aR_worth, .inl (cI, 4, .inl R_worth)), (aR_lengths, .inl (cI, 6, .inl R_lengths)), (aR_laid, .inl (cI, 6, .inl R_laid)), (aR_slates, .inl (cI, 72, .inl R_slates))])) (vp_Si (fun r => r = b2i res)) 0 0 (fun _ => False) := by
  refine Met.ofW (cc := cX3_hasBoth) (maxL := 4) (ret := (some .boolean)) (by decide) rfl ?_
  intro p e s m args below meth c s₁ B hml hv
  obtain ⟨rfl, hP, hK, hD⟩ := hv
  have hx := B.exec
  have hb := B.bytes
  have hr := B.returns
  have hts := atoms_spec (ws := wsX3_hasBoth) B.pre
  have hown : s.vm.findClass RX3 = some m.cls := findClass_of_methodNamed B.named
  have hlocks := B.notSynchronized
  have hl := lv_entry ([.ref aR, .int x1, .int x2]) (n := 4) (Nat.le_of_ble_eq_true rfl)
  rw [lg_entry_eq]
  generalize (lg_sl ([.ref aR, .int x1, .int x2]) ++ List.replicate (4 - (lg_sl ([.ref aR, .int x1, .int x2])).length) Slot.unset).toArray = ls at hl ⊢
  have hl : lv_has ls 4 [(0, .ref aR), (1, .int x1), (2, .int x2)] := hl
  unfold f_X3_hasBoth at h
  refine lv_iconst (v := 0) hx hb dX3_hasBoth_0 (by decide) ?_
  refine lv_istore_n (lv' := [(3, .int 0), (0, .ref aR), (1, .int x1), (2, .int x2)]) hx hb dX3_hasBoth_1 rfl hl (by decide) rfl (fun ls hl => ?_)
  have L2_4 : ∀ (n_5 : Nat) (v3_6 : Int32)  (ls : Array Slot), f_X3_hasBoth_L2 N R_many R_widths x1 x2 n_5 v3_6 = some res → lv_has ls 4 [(0, .ref aR), (1, .int x1), (2, .int x2), (3, .int v3_6)] → W p l e (headSpec wsX3_hasBoth ({ frames := 1, cells := 0, slots := 0, locals := 21 })).room s m ([.ref aR, .int x1, .int x2] : List Value).toArray below meth c s.heap [] 0 0 (MQ below (vp_Si (fun r => r = b2i res)) ([.ref aR, .int x1, .int x2] : List Value).toArray s 0 0 (fun _ => False)) (F0 m 2 ls []) := by
    intro n_5
    induction n_5 with
    | zero =>
      intro v3_6 ls h
      simp only [f_X3_hasBoth_L2] at h
      try exact absurd h (by simp)
    | succ n_5 ihn_5 =>
      intro v3_6 ls h hl
      rw [f_X3_hasBoth_L2] at h
      refine lv_iload_n hx hb dX3_hasBoth_2 rfl (lv_at hl 3 rfl) ?_
      refine lv_aload_n hx hb dX3_hasBoth_3 rfl (lv_at hl 0 rfl) ?_
      refine va_get (D := (dC, dI)) (ci := 3) (v := .int R_widths) (C := RX3) (T := TX3) (N := 9) hx hb hts (fun _ h => List.mem_cons_of_mem _ (List.mem_append_right _ h)) hown hK hP 0 rfl rfl 6 (by decide) (hts (.fieldLink RX3 30 "SlateRows$Roof" "widths" "I") (by decide +kernel)) (fun _ h9 => h9) rfl dX3_hasBoth_4 ?_
      refine lv_icmp_ge (tgt := 38) hx hb dX3_hasBoth_7 (by decide) (fun c_7 => ?_) (fun c_7 => ?_)
      · have h := it_p c_7 h
        refine lv_iconst (v := 1) hx hb dX3_hasBoth_38 (by decide) ?_
        exact W.zret (v := b2i true) hx hb hr (b2i_nar _) (fun t ht hW => ⟨b2i true, rfl, congrArg b2i (Option.some.inj h), ht⟩) (fun q hq => by cases hq) dX3_hasBoth_39
      · have h := it_n c_7 h
        refine lv_iload_n hx hb dX3_hasBoth_10 rfl (lv_at hl 1 rfl) ?_
        refine lv_iload_n hx hb dX3_hasBoth_11 rfl (lv_at hl 3 rfl) ?_
        obtain ⟨r_8, hg, h⟩ := bd_some h
        refine rdS (As := [.int x1, .int v3_6]) (rest := []) ⟨hx, hb, hml, hown, hts⟩ (k_X5_of l dC dI cI cZ cS N x1 v3_6 r_8 hg) (va_cwS 2 hts gX3_hasBoth_X5_of rfl rfl rfl cd_X5_of ⟨Nat.le_of_ble_eq_true rfl, Nat.le_of_ble_eq_true rfl⟩) hP hD hK [] (by decide) rfl rfl hl.1 rfl (Nat.le_of_ble_eq_true rfl) dX3_hasBoth_12 ⟨Nat.zero_le _, Nat.zero_le _⟩ ?_
        refine lv_iload_n hx hb dX3_hasBoth_15 rfl (lv_at hl 2 rfl) ?_
        refine lv_iload_n hx hb dX3_hasBoth_16 rfl (lv_at hl 3 rfl) ?_
        obtain ⟨r_9, hg, h⟩ := bd_some h
        refine rdS (As := [.int x2, .int v3_6]) (rest := [.int r_8]) ⟨hx, hb, hml, hown, hts⟩ (k_X5_of l dC dI cI cZ cS N x2 v3_6 r_9 hg) (va_cwS 2 hts gX3_hasBoth_X5_of rfl rfl rfl cd_X5_of ⟨Nat.le_of_ble_eq_true rfl, Nat.le_of_ble_eq_true rfl⟩) hP hD hK [] (by decide) rfl rfl hl.1 rfl (Nat.le_of_ble_eq_true rfl) dX3_hasBoth_17 ⟨Nat.zero_le _, Nat.zero_le _⟩ ?_
        refine lv_iadd hx hb dX3_hasBoth_20 ?_
        refine lv_aload_n hx hb dX3_hasBoth_21 rfl (lv_at hl 0 rfl) ?_
        refine va_get (D := (dC, dI)) (ci := 3) (v := .ref aR_many) (C := RX3) (T := TX3) (N := 9) hx hb hts (fun _ h => List.mem_cons_of_mem _ (List.mem_append_right _ h)) hown hK hP 0 rfl rfl 1 (by decide) (hts (.fieldLink RX3 15 "SlateRows$Roof" "many" "[I") (by decide +kernel)) (fun _ h9 => h9) rfl dX3_hasBoth_22 ?_
        refine lv_iload_n hx hb dX3_hasBoth_25 rfl (lv_at hl 3 rfl) ?_
        obtain ⟨hi, h⟩ := ck_some h
        refine va_iald hx hb hK hP 2 0 rfl rfl (gi_in hi) dX3_hasBoth_26 ?_
        refine lv_icmp_le (tgt := 32) hx hb dX3_hasBoth_27 (by decide) (fun c_10 => ?_) (fun c_10 => ?_)
        · have h := it_p c_10 h
          refine lv_iinc (v := (v3_6 + 1)) (lv' := [(3, .int (v3_6 + 1)), (0, .ref aR), (1, .int x1), (2, .int x2)]) hx hb dX3_hasBoth_32 hl (k := 3) rfl rfl (by decide) rfl (fun ls hl => ?_)
          refine lv_goto (tgt := 2) hx hb dX3_hasBoth_35 (by decide) ?_
          exact ihn_5 (v3_6 + 1) ls h (lv_sub hl [1, 2, 3, 0] rfl)
        · have h := it_n c_10 h
          refine lv_iconst (v := 0) hx hb dX3_hasBoth_30 (by decide) ?_
          exact W.zret (v := b2i false) hx hb hr (b2i_nar _) (fun t ht hW => ⟨b2i false, rfl, congrArg b2i (Option.some.inj h), ht⟩) (fun q hq => by cases hq) dX3_hasBoth_31
  exact L2_4 N 0 ls h (lv_sub hl [1, 2, 3, 0] rfl)
def f_X3_worthOfTaken_L4 (N : Nat) (R_worth : Nat → Int32) (R_widths : Int32) (x1 : Int32) : Nat → Int32 → Int32 → Option (Int32)
  | 0, _, _ => none
  | n + 1, v2, v3 =>
    if R_widths ≤ v3 then (some (v2)) else ((f_X5_of N x1 v3).bind fun r_2 => ck (gi v3 4) (f_X3_worthOfTaken_L4 N R_worth R_widths x1 n (v2 + (r_2 * (R_worth v3.toNatClampNeg))) (v3 + 1)))
def f_X3_worthOfTaken (N : Nat) (R_worth : Nat → Int32) (R_widths : Int32) (x1 : Int32) : Option (Int32) :=
  f_X3_worthOfTaken_L4 N R_worth R_widths x1 N 0 0
set_option maxHeartbeats 4000000 in
set_option maxRecDepth 100000 in
theorem k_X3_worthOfTaken (l : Launch) (dC : Nat → ClassId) (dI : Nat → Nat → Nat) (cI cZ cS : ClassId) (N : Nat) (aR aR_inches aR_many aR_worth aR_lengths aR_laid aR_slates : Nat) (R_inches : Nat → Int32) (R_many : Nat → Int32) (R_worth : Nat → Int32) (R_lengths : Nat → Int32) (R_laid : Nat → Int32) (R_slates : Nat → Int32) (R_widths : Int32) (R_rows : Int32) (R_lap : Int32) (x1 : Int32) (res : Int32) (h : f_X3_worthOfTaken N R_worth R_widths x1 = some res) : Met l yX3_worthOfTaken wsX3_worthOfTaken ({ frames := 1, cells := 0, slots := 0, locals := 21 }) (va_Pc [.ref aR, .int x1] (wd (dC, dI) cI cZ cS [(aR, .inr (3, [.ref aR_inches, .ref aR_many, .ref aR_worth, .ref aR_lengths, .ref aR_laid, .ref aR_slates, .int R_widths, .int R_rows, .int R_lap])), (aR_inches, .inl (cI, 4, .inl R_inches)), (aR_many, .inl (cI, 4, .inl R_many)), (aR_worth, .inl (cI, 4, .inl R_worth)), (aR_lengths, .inl (cI, 6, .inl R_lengths)), (aR_laid, .inl (cI, 6, .inl R_laid)), (aR_slates, .inl (cI, 72, .inl R_slates))])) (vp_Si (fun r => r = res)) 0 0 (fun _ => False) := by
  refine Met.ofW (cc := cX3_worthOfTaken) (maxL := 4) (ret := (some .int)) (by decide) rfl ?_
  intro p e s m args below meth c s₁ B hml hv
  obtain ⟨rfl, hP, hK, hD⟩ := hv
  have hx := B.exec
  have hb := B.bytes
  have hr := B.returns
  have hts := atoms_spec (ws := wsX3_worthOfTaken) B.pre
  have hown : s.vm.findClass RX3 = some m.cls := findClass_of_methodNamed B.named
  have hlocks := B.notSynchronized
  have hl := lv_entry ([.ref aR, .int x1]) (n := 4) (Nat.le_of_ble_eq_true rfl)
  rw [lg_entry_eq]
  generalize (lg_sl ([.ref aR, .int x1]) ++ List.replicate (4 - (lg_sl ([.ref aR, .int x1])).length) Slot.unset).toArray = ls at hl ⊢
  have hl : lv_has ls 4 [(0, .ref aR), (1, .int x1)] := hl
  unfold f_X3_worthOfTaken at h
  refine lv_iconst (v := 0) hx hb dX3_worthOfTaken_0 (by decide) ?_
  refine lv_istore_n (lv' := [(2, .int 0), (0, .ref aR), (1, .int x1)]) hx hb dX3_worthOfTaken_1 rfl hl (by decide) rfl (fun ls hl => ?_)
  refine lv_iconst (v := 0) hx hb dX3_worthOfTaken_2 (by decide) ?_
  refine lv_istore_n (lv' := [(3, .int 0), (2, .int 0), (0, .ref aR), (1, .int x1)]) hx hb dX3_worthOfTaken_3 rfl hl (by decide) rfl (fun ls hl => ?_)
  have L4_2 : ∀ (n_3 : Nat) (v2_4 : Int32) (v3_5 : Int32)  (ls : Array Slot), f_X3_worthOfTaken_L4 N R_worth R_widths x1 n_3 v2_4 v3_5 = some res → lv_has ls 4 [(0, .ref aR), (1, .int x1), (2, .int v2_4), (3, .int v3_5)] → W p l e (headSpec wsX3_worthOfTaken ({ frames := 1, cells := 0, slots := 0, locals := 21 })).room s m ([.ref aR, .int x1] : List Value).toArray below meth c s.heap [] 0 0 (MQ below (vp_Si (fun r => r = res)) ([.ref aR, .int x1] : List Value).toArray s 0 0 (fun _ => False)) (F0 m 4 ls []) := by
    intro n_3
    induction n_3 with
    | zero =>
      intro v2_4 v3_5 ls h
      simp only [f_X3_worthOfTaken_L4] at h
      try exact absurd h (by simp)
    | succ n_3 ihn_3 =>
      intro v2_4 v3_5 ls h hl
      rw [f_X3_worthOfTaken_L4] at h
      refine lv_iload_n hx hb dX3_worthOfTaken_4 rfl (lv_at hl 3 rfl) ?_
      refine lv_aload_n hx hb dX3_worthOfTaken_5 rfl (lv_at hl 0 rfl) ?_
      refine va_get (D := (dC, dI)) (ci := 3) (v := .int R_widths) (C := RX3) (T := TX3) (N := 9) hx hb hts (fun _ h => List.mem_cons_of_mem _ (List.mem_append_right _ h)) hown hK hP 0 rfl rfl 6 (by decide) (hts (.fieldLink RX3 30 "SlateRows$Roof" "widths" "I") (by decide +kernel)) (fun _ h9 => h9) rfl dX3_worthOfTaken_6 ?_
      refine lv_icmp_ge (tgt := 33) hx hb dX3_worthOfTaken_9 (by decide) (fun c_6 => ?_) (fun c_6 => ?_)
      · have h := it_p c_6 h
        refine lv_iload_n hx hb dX3_worthOfTaken_33 rfl (lv_at hl 2 rfl) ?_
        exact W.iret hx hb hr (fun t ht hW => ⟨_, rfl, Option.some.inj h, ht⟩) (fun q hq => by cases hq) dX3_worthOfTaken_34
      · have h := it_n c_6 h
        refine lv_iload_n hx hb dX3_worthOfTaken_12 rfl (lv_at hl 2 rfl) ?_
        refine lv_iload_n hx hb dX3_worthOfTaken_13 rfl (lv_at hl 1 rfl) ?_
        refine lv_iload_n hx hb dX3_worthOfTaken_14 rfl (lv_at hl 3 rfl) ?_
        obtain ⟨r_7, hg, h⟩ := bd_some h
        refine rdS (As := [.int x1, .int v3_5]) (rest := [.int v2_4]) ⟨hx, hb, hml, hown, hts⟩ (k_X5_of l dC dI cI cZ cS N x1 v3_5 r_7 hg) (va_cwS 2 hts gX3_worthOfTaken_X5_of rfl rfl rfl cd_X5_of ⟨Nat.le_of_ble_eq_true rfl, Nat.le_of_ble_eq_true rfl⟩) hP hD hK [] (by decide) rfl rfl hl.1 rfl (Nat.le_of_ble_eq_true rfl) dX3_worthOfTaken_15 ⟨Nat.zero_le _, Nat.zero_le _⟩ ?_
        refine lv_aload_n hx hb dX3_worthOfTaken_18 rfl (lv_at hl 0 rfl) ?_
        refine va_get (D := (dC, dI)) (ci := 3) (v := .ref aR_worth) (C := RX3) (T := TX3) (N := 9) hx hb hts (fun _ h => List.mem_cons_of_mem _ (List.mem_append_right _ h)) hown hK hP 0 rfl rfl 2 (by decide) (hts (.fieldLink RX3 18 "SlateRows$Roof" "worth" "[I") (by decide +kernel)) (fun _ h9 => h9) rfl dX3_worthOfTaken_19 ?_
        refine lv_iload_n hx hb dX3_worthOfTaken_22 rfl (lv_at hl 3 rfl) ?_
        obtain ⟨hi, h⟩ := ck_some h
        refine va_iald hx hb hK hP 3 0 rfl rfl (gi_in hi) dX3_worthOfTaken_23 ?_
        refine lv_imul hx hb dX3_worthOfTaken_24 ?_
        refine lv_iadd hx hb dX3_worthOfTaken_25 ?_
        refine lv_istore_n (lv' := [(2, .int (v2_4 + (r_7 * (R_worth v3_5.toNatClampNeg)))), (0, .ref aR), (1, .int x1), (3, .int v3_5)]) hx hb dX3_worthOfTaken_26 rfl hl (by decide) rfl (fun ls hl => ?_)
        refine lv_iinc (v := (v3_5 + 1)) (lv' := [(3, .int (v3_5 + 1)), (2, .int (v2_4 + (r_7 * (R_worth v3_5.toNatClampNeg)))), (0, .ref aR), (1, .int x1)]) hx hb dX3_worthOfTaken_27 hl (k := 3) rfl rfl (by decide) rfl (fun ls hl => ?_)
        refine lv_goto (tgt := 4) hx hb dX3_worthOfTaken_30 (by decide) ?_
        exact ihn_3 (v2_4 + (r_7 * (R_worth v3_5.toNatClampNeg))) (v3_5 + 1) ls h (lv_sub hl [2, 3, 1, 0] rfl)
  exact L4_2 N 0 0 ls h (lv_sub hl [2, 3, 1, 0] rfl)
def f_X3_faultOf_L8 (N : Nat) (R_inches : Nat → Int32) (R_many : Nat → Int32) (R_lengths : Nat → Int32) (R_laid : Nat → Int32) (R_slates : Nat → Int32) (R_widths : Int32) (R_lap : Int32) (T_numbers : Nat → Int32) (T_size : Int32) (x1 : Int32) : Nat → Int32 → Int32 → Int32 → Option (Int32)
  | 0, _, _, _ => none
  | n + 1, v3, v4, v5 =>
    if T_size ≤ v5 then (ck (gi x1 6) (if (R_lengths x1.toNatClampNeg) ≤ v3 then (some ((-4))) else (some (T_size)))) else (ck (gi v5 100) (if (T_numbers v5.toNatClampNeg) < 0 then (some (v5)) else (if R_widths ≤ (T_numbers v5.toNatClampNeg) then (some (v5)) else ((f_X5_of N v4 (T_numbers v5.toNatClampNeg)).bind fun r_5 => ck (gi (T_numbers v5.toNatClampNeg) 4) (if (R_many (T_numbers v5.toNatClampNeg).toNatClampNeg) ≤ r_5 then (some (v5)) else (ck (gi x1 6) (if v3 < (R_lengths x1.toNatClampNeg) then ((f_X5_withOneMore N v4 (T_numbers v5.toNatClampNeg)).bind fun r_8 => ck (gi (T_numbers v5.toNatClampNeg) 4) (ck (gi x1 6) (if (R_lengths x1.toNatClampNeg) ≤ (v3 + (R_inches (T_numbers v5.toNatClampNeg).toNatClampNeg)) then (f_X3_faultOf_L8 N R_inches R_many R_lengths R_laid R_slates R_widths R_lap T_numbers T_size x1 n (v3 + (R_inches (T_numbers v5.toNatClampNeg).toNatClampNeg)) r_8 (v5 + 1)) else ((f_X3_allowsJoint N R_inches R_laid R_slates R_lap x1 (v3 + (R_inches (T_numbers v5.toNatClampNeg).toNatClampNeg))).bind fun r_10 => if (b2i r_10) = 0 then (some (v5)) else (f_X3_faultOf_L8 N R_inches R_many R_lengths R_laid R_slates R_widths R_lap T_numbers T_size x1 n (v3 + (R_inches (T_numbers v5.toNatClampNeg).toNatClampNeg)) r_8 (v5 + 1)))))) else (some (v5)))))))))
def f_X3_faultOf (N : Nat) (R_inches : Nat → Int32) (R_many : Nat → Int32) (R_lengths : Nat → Int32) (R_laid : Nat → Int32) (R_slates : Nat → Int32) (R_widths : Int32) (R_lap : Int32) (T_numbers : Nat → Int32) (T_size : Int32) (x1 : Int32) : Option (Int32) :=
  f_X3_faultOf_L8 N R_inches R_many R_lengths R_laid R_slates R_widths R_lap T_numbers T_size x1 N 0 0 0
set_option maxHeartbeats 4000000 in
set_option maxRecDepth 100000 in
theorem k_X3_faultOf (l : Launch) (dC : Nat → ClassId) (dI : Nat → Nat → Nat) (cI cZ cS : ClassId) (N : Nat) (aR aR_inches aR_many aR_worth aR_lengths aR_laid aR_slates aT aT_numbers : Nat) (R_inches : Nat → Int32) (R_many : Nat → Int32) (R_worth : Nat → Int32) (R_lengths : Nat → Int32) (R_laid : Nat → Int32) (R_slates : Nat → Int32) (R_widths : Int32) (R_rows : Int32) (R_lap : Int32) (T_numbers : Nat → Int32) (T_holds : Int32) (T_laying : Option Nat) (T_sort : Int32) (T_size : Int32) (x1 : Int32) (res : Int32) (h : f_X3_faultOf N R_inches R_many R_lengths R_laid R_slates R_widths R_lap T_numbers T_size x1 = some res) : Met l yX3_faultOf wsX3_faultOf ({ frames := 2, cells := 0, slots := 0, locals := 46 }) (va_Pc [.ref aR, .int x1, .ref aT] (wd (dC, dI) cI cZ cS [(aR, .inr (3, [.ref aR_inches, .ref aR_many, .ref aR_worth, .ref aR_lengths, .ref aR_laid, .ref aR_slates, .int R_widths, .int R_rows, .int R_lap])), (aR_inches, .inl (cI, 4, .inl R_inches)), (aR_many, .inl (cI, 4, .inl R_many)), (aR_worth, .inl (cI, 4, .inl R_worth)), (aR_lengths, .inl (cI, 6, .inl R_lengths)), (aR_laid, .inl (cI, 6, .inl R_laid)), (aR_slates, .inl (cI, 72, .inl R_slates)), (aT, .inr (4, [.ref aT_numbers, .int T_holds, va_rf T_laying, .int T_sort, .int T_size])), (aT_numbers, .inl (cI, 100, .inl T_numbers))])) (vp_Si (fun r => r = res)) 0 0 (fun _ => False) := by
  refine Met.ofW (cc := cX3_faultOf) (maxL := 7) (ret := (some .int)) (by decide) rfl ?_
  intro p e s m args below meth c s₁ B hml hv
  obtain ⟨rfl, hP, hK, hD⟩ := hv
  have hx := B.exec
  have hb := B.bytes
  have hr := B.returns
  have hts := atoms_spec (ws := wsX3_faultOf) B.pre
  have hown : s.vm.findClass RX3 = some m.cls := findClass_of_methodNamed B.named
  have hlocks := B.notSynchronized
  have hl := lv_entry ([.ref aR, .int x1, .ref aT]) (n := 7) (Nat.le_of_ble_eq_true rfl)
  rw [lg_entry_eq]
  generalize (lg_sl ([.ref aR, .int x1, .ref aT]) ++ List.replicate (7 - (lg_sl ([.ref aR, .int x1, .ref aT])).length) Slot.unset).toArray = ls at hl ⊢
  have hl : lv_has ls 7 [(0, .ref aR), (1, .int x1), (2, .ref aT)] := hl
  unfold f_X3_faultOf at h
  refine lv_iconst (v := 0) hx hb dX3_faultOf_0 (by decide) ?_
  refine lv_istore_n (lv' := [(3, .int 0), (0, .ref aR), (1, .int x1), (2, .ref aT)]) hx hb dX3_faultOf_1 rfl hl (by decide) rfl (fun ls hl => ?_)
  refine lv_iconst (v := 0) hx hb dX3_faultOf_2 (by decide) ?_
  refine lv_istore (lv' := [(4, .int 0), (3, .int 0), (0, .ref aR), (1, .int x1), (2, .ref aT)]) hx hb dX3_faultOf_3 hl (by decide) rfl (fun ls hl => ?_)
  refine lv_iconst (v := 0) hx hb dX3_faultOf_5 (by decide) ?_
  refine lv_istore (lv' := [(5, .int 0), (4, .int 0), (3, .int 0), (0, .ref aR), (1, .int x1), (2, .ref aT)]) hx hb dX3_faultOf_6 hl (by decide) rfl (fun ls hl => ?_)
  have L8_11 : ∀ (n_12 : Nat) (v3_13 : Int32) (v4_14 : Int32) (v5_15 : Int32)  (ls : Array Slot), f_X3_faultOf_L8 N R_inches R_many R_lengths R_laid R_slates R_widths R_lap T_numbers T_size x1 n_12 v3_13 v4_14 v5_15 = some res → lv_has ls 7 [(0, .ref aR), (1, .int x1), (2, .ref aT), (3, .int v3_13), (4, .int v4_14), (5, .int v5_15)] → W p l e (headSpec wsX3_faultOf ({ frames := 2, cells := 0, slots := 0, locals := 46 })).room s m ([.ref aR, .int x1, .ref aT] : List Value).toArray below meth c s.heap [] 0 0 (MQ below (vp_Si (fun r => r = res)) ([.ref aR, .int x1, .ref aT] : List Value).toArray s 0 0 (fun _ => False)) (F0 m 8 ls []) := by
    intro n_12
    induction n_12 with
    | zero =>
      intro v3_13 v4_14 v5_15 ls h
      simp only [f_X3_faultOf_L8] at h
      try exact absurd h (by simp)
    | succ n_12 ihn_12 =>
      intro v3_13 v4_14 v5_15 ls h hl
      rw [f_X3_faultOf_L8] at h
      refine lv_iload hx hb dX3_faultOf_8 (lv_at hl 5 rfl) ?_
      refine lv_aload_n hx hb dX3_faultOf_10 rfl (lv_at hl 2 rfl) ?_
      refine va_get (D := (dC, dI)) (ci := 4) (v := .int T_size) (C := RX4) (T := TX4) (N := 5) hx hb hts (fun _ h => List.mem_cons_of_mem _ (List.mem_append_left _ (List.mem_append_right _ h))) hown hK hP 7 rfl rfl 4 (by decide) (hts (.fieldLink RX3 66 "SlateRows$Shelf" "size" "I") (by decide +kernel)) (fun _ h9 => h9) rfl dX3_faultOf_11 ?_
      refine lv_icmp_ge (tgt := 117) hx hb dX3_faultOf_14 (by decide) (fun c_16 => ?_) (fun c_16 => ?_)
      · have h := it_p c_16 h
        refine lv_iload_n hx hb dX3_faultOf_117 rfl (lv_at hl 3 rfl) ?_
        refine lv_aload_n hx hb dX3_faultOf_118 rfl (lv_at hl 0 rfl) ?_
        refine va_get (D := (dC, dI)) (ci := 3) (v := .ref aR_lengths) (C := RX3) (T := TX3) (N := 9) hx hb hts (fun _ h => List.mem_cons_of_mem _ (List.mem_append_right _ h)) hown hK hP 0 rfl rfl 3 (by decide) (hts (.fieldLink RX3 21 "SlateRows$Roof" "lengths" "[I") (by decide +kernel)) (fun _ h9 => h9) rfl dX3_faultOf_119 ?_
        refine lv_iload_n hx hb dX3_faultOf_122 rfl (lv_at hl 1 rfl) ?_
        obtain ⟨hi, h⟩ := ck_some h
        refine va_iald hx hb hK hP 4 0 rfl rfl (gi_in hi) dX3_faultOf_123 ?_
        refine lv_icmp_ge (tgt := 134) hx hb dX3_faultOf_124 (by decide) (fun c_17 => ?_) (fun c_17 => ?_)
        · have h := it_p c_17 h
          refine lv_bipush (v := (-4)) hx hb dX3_faultOf_134 (by decide) ?_
          exact W.iret hx hb hr (fun t ht hW => ⟨_, rfl, Option.some.inj h, ht⟩) (fun q hq => by cases hq) dX3_faultOf_136
        · have h := it_n c_17 h
          refine lv_aload_n hx hb dX3_faultOf_127 rfl (lv_at hl 2 rfl) ?_
          refine va_get (D := (dC, dI)) (ci := 4) (v := .int T_size) (C := RX4) (T := TX4) (N := 5) hx hb hts (fun _ h => List.mem_cons_of_mem _ (List.mem_append_left _ (List.mem_append_right _ h))) hown hK hP 7 rfl rfl 4 (by decide) (hts (.fieldLink RX3 66 "SlateRows$Shelf" "size" "I") (by decide +kernel)) (fun _ h9 => h9) rfl dX3_faultOf_128 ?_
          refine lv_goto (tgt := 136) hx hb dX3_faultOf_131 (by decide) ?_
          exact W.iret hx hb hr (fun t ht hW => ⟨_, rfl, Option.some.inj h, ht⟩) (fun q hq => by cases hq) dX3_faultOf_136
      · have h := it_n c_16 h
        refine lv_aload_n hx hb dX3_faultOf_17 rfl (lv_at hl 2 rfl) ?_
        refine va_get (D := (dC, dI)) (ci := 4) (v := .ref aT_numbers) (C := RX4) (T := TX4) (N := 5) hx hb hts (fun _ h => List.mem_cons_of_mem _ (List.mem_append_left _ (List.mem_append_right _ h))) hown hK hP 7 rfl rfl 0 (by decide) (hts (.fieldLink RX3 71 "SlateRows$Shelf" "numbers" "[I") (by decide +kernel)) (fun _ h9 => h9) rfl dX3_faultOf_18 ?_
        refine lv_iload hx hb dX3_faultOf_21 (lv_at hl 5 rfl) ?_
        obtain ⟨hi, h⟩ := ck_some h
        refine va_iald hx hb hK hP 8 0 rfl rfl (gi_in hi) dX3_faultOf_23 ?_
        refine lv_istore (lv' := [(6, .int (T_numbers v5_15.toNatClampNeg)), (0, .ref aR), (1, .int x1), (2, .ref aT), (3, .int v3_13), (4, .int v4_14), (5, .int v5_15)]) hx hb dX3_faultOf_24 hl (by decide) rfl (fun ls hl => ?_)
        refine lv_iload hx hb dX3_faultOf_26 (lv_at hl 0 rfl) ?_
        refine lv_if_lt (tgt := 67) hx hb dX3_faultOf_28 (by decide) (fun c_18 => ?_) (fun c_18 => ?_)
        · have h := it_p c_18 h
          refine lv_iload hx hb dX3_faultOf_67 (lv_at hl 6 rfl) ?_
          exact W.iret hx hb hr (fun t ht hW => ⟨_, rfl, Option.some.inj h, ht⟩) (fun q hq => by cases hq) dX3_faultOf_69
        · have h := it_n c_18 h
          refine lv_iload hx hb dX3_faultOf_31 (lv_at hl 0 rfl) ?_
          refine lv_aload_n hx hb dX3_faultOf_33 rfl (lv_at hl 1 rfl) ?_
          refine va_get (D := (dC, dI)) (ci := 3) (v := .int R_widths) (C := RX3) (T := TX3) (N := 9) hx hb hts (fun _ h => List.mem_cons_of_mem _ (List.mem_append_right _ h)) hown hK hP 0 rfl rfl 6 (by decide) (hts (.fieldLink RX3 30 "SlateRows$Roof" "widths" "I") (by decide +kernel)) (fun _ h9 => h9) rfl dX3_faultOf_34 ?_
          refine lv_icmp_ge (tgt := 67) hx hb dX3_faultOf_37 (by decide) (fun c_19 => ?_) (fun c_19 => ?_)
          · have h := it_p c_19 h
            refine lv_iload hx hb dX3_faultOf_67 (lv_at hl 6 rfl) ?_
            exact W.iret hx hb hr (fun t ht hW => ⟨_, rfl, Option.some.inj h, ht⟩) (fun q hq => by cases hq) dX3_faultOf_69
          · have h := it_n c_19 h
            refine lv_iload hx hb dX3_faultOf_40 (lv_at hl 5 rfl) ?_
            refine lv_iload hx hb dX3_faultOf_42 (lv_at hl 0 rfl) ?_
            obtain ⟨r_20, hg, h⟩ := bd_some h
            refine rdS (As := [.int v4_14, .int (T_numbers v5_15.toNatClampNeg)]) (rest := []) ⟨hx, hb, hml, hown, hts⟩ (k_X5_of l dC dI cI cZ cS N v4_14 (T_numbers v5_15.toNatClampNeg) r_20 hg) (va_cwS 2 hts gX3_faultOf_X5_of rfl rfl rfl cd_X5_of ⟨Nat.le_of_ble_eq_true rfl, Nat.le_of_ble_eq_true rfl⟩) hP hD hK [] (by decide) rfl rfl hl.1 rfl (Nat.le_of_ble_eq_true rfl) dX3_faultOf_44 ⟨Nat.zero_le _, Nat.zero_le _⟩ ?_
            refine lv_aload_n hx hb dX3_faultOf_47 rfl (lv_at hl 1 rfl) ?_
            refine va_get (D := (dC, dI)) (ci := 3) (v := .ref aR_many) (C := RX3) (T := TX3) (N := 9) hx hb hts (fun _ h => List.mem_cons_of_mem _ (List.mem_append_right _ h)) hown hK hP 0 rfl rfl 1 (by decide) (hts (.fieldLink RX3 15 "SlateRows$Roof" "many" "[I") (by decide +kernel)) (fun _ h9 => h9) rfl dX3_faultOf_48 ?_
            refine lv_iload hx hb dX3_faultOf_51 (lv_at hl 0 rfl) ?_
            obtain ⟨hi, h⟩ := ck_some h
            refine va_iald hx hb hK hP 2 0 rfl rfl (gi_in hi) dX3_faultOf_53 ?_
            refine lv_icmp_ge (tgt := 67) hx hb dX3_faultOf_54 (by decide) (fun c_21 => ?_) (fun c_21 => ?_)
            · have h := it_p c_21 h
              refine lv_iload hx hb dX3_faultOf_67 (lv_at hl 6 rfl) ?_
              exact W.iret hx hb hr (fun t ht hW => ⟨_, rfl, Option.some.inj h, ht⟩) (fun q hq => by cases hq) dX3_faultOf_69
            · have h := it_n c_21 h
              refine lv_iload_n hx hb dX3_faultOf_57 rfl (lv_at hl 4 rfl) ?_
              refine lv_aload_n hx hb dX3_faultOf_58 rfl (lv_at hl 1 rfl) ?_
              refine va_get (D := (dC, dI)) (ci := 3) (v := .ref aR_lengths) (C := RX3) (T := TX3) (N := 9) hx hb hts (fun _ h => List.mem_cons_of_mem _ (List.mem_append_right _ h)) hown hK hP 0 rfl rfl 3 (by decide) (hts (.fieldLink RX3 21 "SlateRows$Roof" "lengths" "[I") (by decide +kernel)) (fun _ h9 => h9) rfl dX3_faultOf_59 ?_
              refine lv_iload_n hx hb dX3_faultOf_62 rfl (lv_at hl 2 rfl) ?_
              obtain ⟨hi, h⟩ := ck_some h
              refine va_iald hx hb hK hP 4 0 rfl rfl (gi_in hi) dX3_faultOf_63 ?_
              refine lv_icmp_lt (tgt := 70) hx hb dX3_faultOf_64 (by decide) (fun c_22 => ?_) (fun c_22 => ?_)
              · have h := it_p c_22 h
                refine lv_iload hx hb dX3_faultOf_70 (lv_at hl 5 rfl) ?_
                refine lv_iload hx hb dX3_faultOf_72 (lv_at hl 0 rfl) ?_
                obtain ⟨r_23, hg, h⟩ := bd_some h
                refine rdS (As := [.int v4_14, .int (T_numbers v5_15.toNatClampNeg)]) (rest := []) ⟨hx, hb, hml, hown, hts⟩ (k_X5_withOneMore l dC dI cI cZ cS N v4_14 (T_numbers v5_15.toNatClampNeg) r_23 hg) (va_cwS 2 hts gX3_faultOf_X5_withOneMore rfl rfl rfl cd_X5_withOneMore ⟨Nat.le_of_ble_eq_true rfl, Nat.le_of_ble_eq_true rfl⟩) hP hD hK [] (by decide) rfl rfl hl.1 rfl (Nat.le_of_ble_eq_true rfl) dX3_faultOf_74 ⟨Nat.zero_le _, Nat.zero_le _⟩ ?_
                refine lv_istore (lv' := [(4, .int r_23), (6, .int (T_numbers v5_15.toNatClampNeg)), (0, .ref aR), (1, .int x1), (2, .ref aT), (3, .int v3_13), (5, .int v5_15)]) hx hb dX3_faultOf_77 hl (by decide) rfl (fun ls hl => ?_)
                refine lv_iload_n hx hb dX3_faultOf_79 rfl (lv_at hl 5 rfl) ?_
                refine lv_aload_n hx hb dX3_faultOf_80 rfl (lv_at hl 2 rfl) ?_
                refine va_get (D := (dC, dI)) (ci := 3) (v := .ref aR_inches) (C := RX3) (T := TX3) (N := 9) hx hb hts (fun _ h => List.mem_cons_of_mem _ (List.mem_append_right _ h)) hown hK hP 0 rfl rfl 0 (by decide) (hts (.fieldLink RX3 9 "SlateRows$Roof" "inches" "[I") (by decide +kernel)) (fun _ h9 => h9) rfl dX3_faultOf_81 ?_
                refine lv_iload hx hb dX3_faultOf_84 (lv_at hl 1 rfl) ?_
                obtain ⟨hi, h⟩ := ck_some h
                refine va_iald hx hb hK hP 1 0 rfl rfl (gi_in hi) dX3_faultOf_86 ?_
                refine lv_iadd hx hb dX3_faultOf_87 ?_
                refine lv_istore_n (lv' := [(3, .int (v3_13 + (R_inches (T_numbers v5_15.toNatClampNeg).toNatClampNeg))), (4, .int r_23), (6, .int (T_numbers v5_15.toNatClampNeg)), (0, .ref aR), (1, .int x1), (2, .ref aT), (5, .int v5_15)]) hx hb dX3_faultOf_88 rfl hl (by decide) rfl (fun ls hl => ?_)
                refine lv_iload_n hx hb dX3_faultOf_89 rfl (lv_at hl 0 rfl) ?_
                refine lv_aload_n hx hb dX3_faultOf_90 rfl (lv_at hl 3 rfl) ?_
                refine va_get (D := (dC, dI)) (ci := 3) (v := .ref aR_lengths) (C := RX3) (T := TX3) (N := 9) hx hb hts (fun _ h => List.mem_cons_of_mem _ (List.mem_append_right _ h)) hown hK hP 0 rfl rfl 3 (by decide) (hts (.fieldLink RX3 21 "SlateRows$Roof" "lengths" "[I") (by decide +kernel)) (fun _ h9 => h9) rfl dX3_faultOf_91 ?_
                refine lv_iload_n hx hb dX3_faultOf_94 rfl (lv_at hl 4 rfl) ?_
                obtain ⟨hi, h⟩ := ck_some h
                refine va_iald hx hb hK hP 4 0 rfl rfl (gi_in hi) dX3_faultOf_95 ?_
                refine lv_icmp_ge (tgt := 111) hx hb dX3_faultOf_96 (by decide) (fun c_24 => ?_) (fun c_24 => ?_)
                · have h := it_p c_24 h
                  refine lv_iinc (v := (v5_15 + 1)) (lv' := [(5, .int (v5_15 + 1)), (3, .int (v3_13 + (R_inches (T_numbers v5_15.toNatClampNeg).toNatClampNeg))), (4, .int r_23), (6, .int (T_numbers v5_15.toNatClampNeg)), (0, .ref aR), (1, .int x1), (2, .ref aT)]) hx hb dX3_faultOf_111 hl (k := 6) rfl rfl (by decide) rfl (fun ls hl => ?_)
                  refine lv_goto (tgt := 8) hx hb dX3_faultOf_114 (by decide) ?_
                  exact ihn_12 (v3_13 + (R_inches (T_numbers v5_15.toNatClampNeg).toNatClampNeg)) r_23 (v5_15 + 1) ls h (lv_sub hl [4, 5, 6, 1, 2, 0] rfl)
                · have h := it_n c_24 h
                  refine lv_aload_n hx hb dX3_faultOf_99 rfl (lv_at hl 3 rfl) ?_
                  refine lv_iload_n hx hb dX3_faultOf_100 rfl (lv_at hl 4 rfl) ?_
                  refine lv_iload_n hx hb dX3_faultOf_101 rfl (lv_at hl 0 rfl) ?_
                  obtain ⟨r_25, hg, h⟩ := bd_some h
                  refine rdV (As := [.int x1, .int (v3_13 + (R_inches (T_numbers v5_15.toNatClampNeg).toNatClampNeg))]) (rest := []) (ci := 3) ⟨hx, hb, hml, hown, hts⟩ (k_X3_allowsJoint l dC dI cI cZ cS N aR aR_inches aR_many aR_worth aR_lengths aR_laid aR_slates R_inches R_many R_worth R_lengths R_laid R_slates R_widths R_rows R_lap x1 (v3_13 + (R_inches (T_numbers v5_15.toNatClampNeg).toNatClampNeg)) r_25 hg) (cwV 2 hts gX3_faultOf_X3_allowsJoint rfl rfl rfl cd_X3_allowsJoint ⟨Nat.le_of_ble_eq_true rfl, Nat.le_of_ble_eq_true rfl⟩) hP hD hK [0, 1, 2, 3, 4, 5, 6] (by decide) rfl rfl rfl rfl hl.1 rfl (Nat.le_of_ble_eq_true rfl) dX3_faultOf_102 ⟨Nat.zero_le _, Nat.zero_le _⟩ ?_
                  refine lv_if_ne (tgt := 111) hx hb dX3_faultOf_105 (by decide) (fun c_26 => ?_) (fun c_26 => ?_)
                  · have h := it_n c_26 h
                    refine lv_iinc (v := (v5_15 + 1)) (lv' := [(5, .int (v5_15 + 1)), (3, .int (v3_13 + (R_inches (T_numbers v5_15.toNatClampNeg).toNatClampNeg))), (4, .int r_23), (6, .int (T_numbers v5_15.toNatClampNeg)), (0, .ref aR), (1, .int x1), (2, .ref aT)]) hx hb dX3_faultOf_111 hl (k := 6) rfl rfl (by decide) rfl (fun ls hl => ?_)
                    refine lv_goto (tgt := 8) hx hb dX3_faultOf_114 (by decide) ?_
                    exact ihn_12 (v3_13 + (R_inches (T_numbers v5_15.toNatClampNeg).toNatClampNeg)) r_23 (v5_15 + 1) ls h (lv_sub hl [4, 5, 6, 1, 2, 0] rfl)
                  · have h := it_p c_26 h
                    refine lv_iload hx hb dX3_faultOf_108 (lv_at hl 6 rfl) ?_
                    exact W.iret hx hb hr (fun t ht hW => ⟨_, rfl, Option.some.inj h, ht⟩) (fun q hq => by cases hq) dX3_faultOf_110
              · have h := it_n c_22 h
                refine lv_iload hx hb dX3_faultOf_67 (lv_at hl 6 rfl) ?_
                exact W.iret hx hb hr (fun t ht hW => ⟨_, rfl, Option.some.inj h, ht⟩) (fun q hq => by cases hq) dX3_faultOf_69
  exact L8_11 N 0 0 0 ls h (lv_sub hl [3, 4, 5, 2, 1, 0] rfl)
